theorem dX2_firstFault_10 : decode cX2_firstFault 10 = .ok (.aload_n 0, 1) := by decide +kernel
theorem dX2_firstFault_11 : decode cX2_firstFault 11 = .ok (.getfield 11, 3) := by decide +kernel
theorem dX2_firstFault_14 : decode cX2_firstFault 14 = .ok (.iload_n 1, 1) := by decide +kernel
theorem dX2_firstFault_15 : decode cX2_firstFault 15 = .ok (.caload, 1) := by decide +kernel
theorem dX2_firstFault_16 : decode cX2_firstFault 16 = .ok (.iload_n 1, 1) := by decide +kernel
theorem dX2_firstFault_17 : decode cX2_firstFault 17 = .ok (.invokestatic 25, 3) := by decide +kernel
theorem dX2_firstFault_20 : decode cX2_firstFault 20 = .ok (.ifCond .ne 5, 3) := by decide +kernel
theorem dX2_firstFault_23 : decode cX2_firstFault 23 = .ok (.iload_n 1, 1) := by decide +kernel
theorem dX2_firstFault_24 : decode cX2_firstFault 24 = .ok (.ireturn, 1) := by decide +kernel
theorem dX2_firstFault_25 : decode cX2_firstFault 25 = .ok (.iinc 1 1, 3) := by decide +kernel
theorem dX2_firstFault_28 : decode cX2_firstFault 28 = .ok (.goto (-26), 3) := by decide +kernel
theorem dX2_firstFault_31 : decode cX2_firstFault 31 = .ok (.aload_n 0, 1) := by decide +kernel
theorem dX2_firstFault_32 : decode cX2_firstFault 32 = .ok (.getfield 21, 3) := by decide +kernel
theorem dX2_firstFault_35 : decode cX2_firstFault 35 = .ok (.iconst 5, 1) := by decide +kernel
theorem dX2_firstFault_36 : decode cX2_firstFault 36 = .ok (.irem, 1) := by decide +kernel
theorem dX2_firstFault_37 : decode cX2_firstFault 37 = .ok (.iconst 4, 1) := by decide +kernel
theorem dX2_firstFault_38 : decode cX2_firstFault 38 = .ok (.if_icmp .ne 8, 3) := by decide +kernel
theorem dX2_firstFault_41 : decode cX2_firstFault 41 = .ok (.bipush (-6), 2) := by decide +kernel
theorem dX2_firstFault_43 : decode cX2_firstFault 43 = .ok (.goto 7, 3) := by decide +kernel
theorem dX2_firstFault_46 : decode cX2_firstFault 46 = .ok (.aload_n 0, 1) := by decide +kernel
theorem dX2_firstFault_47 : decode cX2_firstFault 47 = .ok (.getfield 21, 3) := by decide +kernel
theorem dX2_firstFault_50 : decode cX2_firstFault 50 = .ok (.ireturn, 1) := by decide +kernel
theorem dX2_canStand_0 : decode cX2_canStand 0 = .ok (.iload_n 1, 1) := by decide +kernel
theorem dX2_canStand_1 : decode cX2_canStand 1 = .ok (.bipush 39, 2) := by decide +kernel
theorem dX2_canStand_3 : decode cX2_canStand 3 = .ok (.if_icmp .lt 5, 3) := by decide +kernel
theorem dX2_canStand_6 : decode cX2_canStand 6 = .ok (.iconst 0, 1) := by decide +kernel
theorem dX2_canStand_7 : decode cX2_canStand 7 = .ok (.ireturn, 1) := by decide +kernel
theorem dX2_canStand_8 : decode cX2_canStand 8 = .ok (.iload_n 1, 1) := by decide +kernel
theorem dX2_canStand_9 : decode cX2_canStand 9 = .ok (.iconst 5, 1) := by decide +kernel
theorem dX2_canStand_10 : decode cX2_canStand 10 = .ok (.irem, 1) := by decide +kernel
theorem dX2_canStand_11 : decode cX2_canStand 11 = .ok (.tableswitch 95 0 3 #[29, 47, 65, 77], 29) := by decide +kernel
theorem dX2_canStand_40 : decode cX2_canStand 40 = .ok (.iload_n 0, 1) := by decide +kernel
theorem dX2_canStand_41 : decode cX2_canStand 41 = .ok (.bipush 43, 2) := by decide +kernel
theorem dX2_canStand_43 : decode cX2_canStand 43 = .ok (.if_icmp .eq 9, 3) := by decide +kernel
theorem dX2_canStand_46 : decode cX2_canStand 46 = .ok (.iload_n 0, 1) := by decide +kernel
theorem dX2_canStand_47 : decode cX2_canStand 47 = .ok (.bipush 45, 2) := by decide +kernel
theorem dX2_canStand_49 : decode cX2_canStand 49 = .ok (.if_icmp .ne 7, 3) := by decide +kernel
theorem dX2_canStand_52 : decode cX2_canStand 52 = .ok (.iconst 1, 1) := by decide +kernel
theorem dX2_canStand_53 : decode cX2_canStand 53 = .ok (.goto 4, 3) := by decide +kernel
theorem dX2_canStand_56 : decode cX2_canStand 56 = .ok (.iconst 0, 1) := by decide +kernel
theorem dX2_canStand_57 : decode cX2_canStand 57 = .ok (.ireturn, 1) := by decide +kernel
theorem dX2_canStand_58 : decode cX2_canStand 58 = .ok (.iload_n 0, 1) := by decide +kernel
theorem dX2_canStand_59 : decode cX2_canStand 59 = .ok (.bipush 49, 2) := by decide +kernel
theorem dX2_canStand_61 : decode cX2_canStand 61 = .ok (.if_icmp .lt 13, 3) := by decide +kernel
theorem dX2_canStand_64 : decode cX2_canStand 64 = .ok (.iload_n 0, 1) := by decide +kernel
theorem dX2_canStand_65 : decode cX2_canStand 65 = .ok (.bipush 57, 2) := by decide +kernel
theorem dX2_canStand_67 : decode cX2_canStand 67 = .ok (.if_icmp .gt 7, 3) := by decide +kernel
theorem dX2_canStand_70 : decode cX2_canStand 70 = .ok (.iconst 1, 1) := by decide +kernel
theorem dX2_canStand_71 : decode cX2_canStand 71 = .ok (.goto 4, 3) := by decide +kernel
theorem dX2_canStand_74 : decode cX2_canStand 74 = .ok (.iconst 0, 1) := by decide +kernel
theorem dX2_canStand_75 : decode cX2_canStand 75 = .ok (.ireturn, 1) := by decide +kernel
theorem dX2_canStand_76 : decode cX2_canStand 76 = .ok (.iload_n 0, 1) := by decide +kernel
theorem dX2_canStand_77 : decode cX2_canStand 77 = .ok (.bipush 46, 2) := by decide +kernel
theorem dX2_canStand_79 : decode cX2_canStand 79 = .ok (.if_icmp .ne 7, 3) := by decide +kernel
theorem dX2_canStand_82 : decode cX2_canStand 82 = .ok (.iconst 1, 1) := by decide +kernel
theorem dX2_canStand_83 : decode cX2_canStand 83 = .ok (.goto 4, 3) := by decide +kernel
theorem dX2_canStand_86 : decode cX2_canStand 86 = .ok (.iconst 0, 1) := by decide +kernel
theorem dX2_canStand_87 : decode cX2_canStand 87 = .ok (.ireturn, 1) := by decide +kernel
theorem dX2_canStand_88 : decode cX2_canStand 88 = .ok (.iload_n 0, 1) := by decide +kernel
theorem dX2_canStand_89 : decode cX2_canStand 89 = .ok (.bipush 48, 2) := by decide +kernel
theorem dX2_canStand_91 : decode cX2_canStand 91 = .ok (.if_icmp .lt 13, 3) := by decide +kernel
theorem dX2_canStand_94 : decode cX2_canStand 94 = .ok (.iload_n 0, 1) := by decide +kernel
theorem dX2_canStand_95 : decode cX2_canStand 95 = .ok (.bipush 57, 2) := by decide +kernel
theorem dX2_canStand_97 : decode cX2_canStand 97 = .ok (.if_icmp .gt 7, 3) := by decide +kernel
theorem dX2_canStand_100 : decode cX2_canStand 100 = .ok (.iconst 1, 1) := by decide +kernel
theorem dX2_canStand_101 : decode cX2_canStand 101 = .ok (.goto 4, 3) := by decide +kernel
theorem dX2_canStand_104 : decode cX2_canStand 104 = .ok (.iconst 0, 1) := by decide +kernel
theorem dX2_canStand_105 : decode cX2_canStand 105 = .ok (.ireturn, 1) := by decide +kernel
theorem dX2_canStand_106 : decode cX2_canStand 106 = .ok (.iload_n 0, 1) := by decide +kernel
theorem dX2_canStand_107 : decode cX2_canStand 107 = .ok (.bipush 44, 2) := by decide +kernel
theorem dX2_canStand_109 : decode cX2_canStand 109 = .ok (.if_icmp .ne 7, 3) := by decide +kernel
theorem dX2_canStand_112 : decode cX2_canStand 112 = .ok (.iconst 1, 1) := by decide +kernel
theorem dX2_canStand_113 : decode cX2_canStand 113 = .ok (.goto 4, 3) := by decide +kernel
theorem dX2_canStand_116 : decode cX2_canStand 116 = .ok (.iconst 0, 1) := by decide +kernel
theorem dX2_canStand_117 : decode cX2_canStand 117 = .ok (.ireturn, 1) := by decide +kernel
theorem dX2_orders_0 : decode cX2_orders 0 = .ok (.aload_n 0, 1) := by decide +kernel
theorem dX2_orders_1 : decode cX2_orders 1 = .ok (.getfield 21, 3) := by decide +kernel
theorem dX2_orders_4 : decode cX2_orders 4 = .ok (.iconst 1, 1) := by decide +kernel
theorem dX2_orders_5 : decode cX2_orders 5 = .ok (.iadd, 1) := by decide +kernel
theorem dX2_orders_6 : decode cX2_orders 6 = .ok (.iconst 5, 1) := by decide +kernel
theorem dX2_orders_7 : decode cX2_orders 7 = .ok (.idiv, 1) := by decide +kernel
theorem dX2_orders_8 : decode cX2_orders 8 = .ok (.ireturn, 1) := by decide +kernel
theorem dX2_order_0 : decode cX2_order 0 = .ok (.iload_n 1, 1) := by decide +kernel
theorem dX2_order_1 : decode cX2_order 1 = .ok (.iconst 5, 1) := by decide +kernel
theorem dX2_order_2 : decode cX2_order 2 = .ok (.imul, 1) := by decide +kernel
theorem dX2_order_3 : decode cX2_order 3 = .ok (.istore_n 2, 1) := by decide +kernel
theorem dX2_order_4 : decode cX2_order 4 = .ok (.bipush 10, 2) := by decide +kernel
theorem dX2_order_6 : decode cX2_order 6 = .ok (.aload_n 0, 1) := by decide +kernel
theorem dX2_order_7 : decode cX2_order 7 = .ok (.getfield 11, 3) := by decide +kernel
theorem dX2_order_10 : decode cX2_order 10 = .ok (.iload_n 2, 1) := by decide +kernel
theorem dX2_order_11 : decode cX2_order 11 = .ok (.iconst 1, 1) := by decide +kernel
theorem dX2_order_12 : decode cX2_order 12 = .ok (.iadd, 1) := by decide +kernel
theorem dX2_order_13 : decode cX2_order 13 = .ok (.caload, 1) := by decide +kernel
theorem dX2_order_14 : decode cX2_order 14 = .ok (.bipush 48, 2) := by decide +kernel
theorem dX2_order_16 : decode cX2_order 16 = .ok (.isub, 1) := by decide +kernel
theorem dX2_order_17 : decode cX2_order 17 = .ok (.imul, 1) := by decide +kernel
theorem dX2_order_18 : decode cX2_order 18 = .ok (.aload_n 0, 1) := by decide +kernel
theorem dX2_order_19 : decode cX2_order 19 = .ok (.getfield 11, 3) := by decide +kernel
theorem dX2_order_22 : decode cX2_order 22 = .ok (.iload_n 2, 1) := by decide +kernel
theorem dX2_order_23 : decode cX2_order 23 = .ok (.iconst 3, 1) := by decide +kernel
theorem dX2_order_24 : decode cX2_order 24 = .ok (.iadd, 1) := by decide +kernel
theorem dX2_order_25 : decode cX2_order 25 = .ok (.caload, 1) := by decide +kernel
theorem dX2_order_26 : decode cX2_order 26 = .ok (.iadd, 1) := by decide +kernel
theorem dX2_order_27 : decode cX2_order 27 = .ok (.bipush 48, 2) := by decide +kernel
theorem dX2_order_29 : decode cX2_order 29 = .ok (.isub, 1) := by decide +kernel
theorem dX2_order_30 : decode cX2_order 30 = .ok (.istore_n 3, 1) := by decide +kernel
theorem dX2_order_31 : decode cX2_order 31 = .ok (.aload_n 0, 1) := by decide +kernel
theorem dX2_order_32 : decode cX2_order 32 = .ok (.getfield 11, 3) := by decide +kernel
theorem dX2_order_35 : decode cX2_order 35 = .ok (.iload_n 2, 1) := by decide +kernel
theorem dX2_order_36 : decode cX2_order 36 = .ok (.caload, 1) := by decide +kernel
theorem dX2_order_37 : decode cX2_order 37 = .ok (.bipush 43, 2) := by decide +kernel
theorem dX2_order_39 : decode cX2_order 39 = .ok (.if_icmp .ne 10, 3) := by decide +kernel
theorem dX2_order_42 : decode cX2_order 42 = .ok (.iload_n 3, 1) := by decide +kernel
theorem dX2_order_43 : decode cX2_order 43 = .ok (.bipush 100, 2) := by decide +kernel
theorem dX2_order_45 : decode cX2_order 45 = .ok (.iadd, 1) := by decide +kernel
theorem dX2_order_46 : decode cX2_order 46 = .ok (.goto 4, 3) := by decide +kernel
theorem dX2_order_49 : decode cX2_order 49 = .ok (.iload_n 3, 1) := by decide +kernel
theorem dX2_order_50 : decode cX2_order 50 = .ok (.ireturn, 1) := by decide +kernel
set_option maxRecDepth 20000 in
theorem ggX2_hasNumberTwice_X2_orders : GoodIn wsX2_hasNumberTwice wsX2_orders := goodIn_r _ [5, 6, 12, 13] (by decide +kernel) (by decide +kernel)
set_option maxRecDepth 20000 in
theorem gX2_hasNumberTwice_X2_orders : GoodIn wsX2_hasNumberTwice (wsV RX2 29 RX2 yX2_orders wsX2_orders) := goodIn_app (goodIn_of _ (by decide +kernel)) ggX2_hasNumberTwice_X2_orders
set_option maxRecDepth 20000 in
theorem ggX2_hasNumberTwice_X2_order : GoodIn wsX2_hasNumberTwice wsX2_order := goodIn_r _ [10, 11, 12, 13] (by decide +kernel) (by decide +kernel)
set_option maxRecDepth 20000 in
theorem gX2_hasNumberTwice_X2_order : GoodIn wsX2_hasNumberTwice (wsV RX2 33 RX2 yX2_order wsX2_order) := goodIn_app (goodIn_of _ (by decide +kernel)) ggX2_hasNumberTwice_X2_order
theorem dX2_hasNumberTwice_0 : decode cX2_hasNumberTwice 0 = .ok (.iconst 1, 1) := by decide +kernel
theorem dX2_hasNumberTwice_1 : decode cX2_hasNumberTwice 1 = .ok (.istore_n 1, 1) := by decide +kernel
theorem dX2_hasNumberTwice_2 : decode cX2_hasNumberTwice 2 = .ok (.iload_n 1, 1) := by decide +kernel
theorem dX2_hasNumberTwice_3 : decode cX2_hasNumberTwice 3 = .ok (.aload_n 0, 1) := by decide +kernel
theorem dX2_hasNumberTwice_4 : decode cX2_hasNumberTwice 4 = .ok (.invokevirtual 29, 3) := by decide +kernel
theorem dX2_hasNumberTwice_7 : decode cX2_hasNumberTwice 7 = .ok (.if_icmp .ge 43, 3) := by decide +kernel
theorem dX2_hasNumberTwice_10 : decode cX2_hasNumberTwice 10 = .ok (.iconst 0, 1) := by decide +kernel
theorem dX2_hasNumberTwice_11 : decode cX2_hasNumberTwice 11 = .ok (.istore_n 2, 1) := by decide +kernel
theorem dX2_hasNumberTwice_12 : decode cX2_hasNumberTwice 12 = .ok (.iload_n 2, 1) := by decide +kernel
theorem dX2_hasNumberTwice_13 : decode cX2_hasNumberTwice 13 = .ok (.iload_n 1, 1) := by decide +kernel
theorem dX2_hasNumberTwice_14 : decode cX2_hasNumberTwice 14 = .ok (.if_icmp .ge 30, 3) := by decide +kernel
theorem dX2_hasNumberTwice_17 : decode cX2_hasNumberTwice 17 = .ok (.aload_n 0, 1) := by decide +kernel
theorem dX2_hasNumberTwice_18 : decode cX2_hasNumberTwice 18 = .ok (.iload_n 1, 1) := by decide +kernel
theorem dX2_hasNumberTwice_19 : decode cX2_hasNumberTwice 19 = .ok (.invokevirtual 33, 3) := by decide +kernel
theorem dX2_hasNumberTwice_22 : decode cX2_hasNumberTwice 22 = .ok (.bipush 100, 2) := by decide +kernel
theorem dX2_hasNumberTwice_24 : decode cX2_hasNumberTwice 24 = .ok (.irem, 1) := by decide +kernel
theorem dX2_hasNumberTwice_25 : decode cX2_hasNumberTwice 25 = .ok (.aload_n 0, 1) := by decide +kernel
theorem dX2_hasNumberTwice_26 : decode cX2_hasNumberTwice 26 = .ok (.iload_n 2, 1) := by decide +kernel
theorem dX2_hasNumberTwice_27 : decode cX2_hasNumberTwice 27 = .ok (.invokevirtual 33, 3) := by decide +kernel
theorem dX2_hasNumberTwice_30 : decode cX2_hasNumberTwice 30 = .ok (.bipush 100, 2) := by decide +kernel
theorem dX2_hasNumberTwice_32 : decode cX2_hasNumberTwice 32 = .ok (.irem, 1) := by decide +kernel
theorem dX2_hasNumberTwice_33 : decode cX2_hasNumberTwice 33 = .ok (.if_icmp .ne 5, 3) := by decide +kernel
theorem dX2_hasNumberTwice_36 : decode cX2_hasNumberTwice 36 = .ok (.iconst 1, 1) := by decide +kernel
theorem dX2_hasNumberTwice_37 : decode cX2_hasNumberTwice 37 = .ok (.ireturn, 1) := by decide +kernel
theorem dX2_hasNumberTwice_38 : decode cX2_hasNumberTwice 38 = .ok (.iinc 2 1, 3) := by decide +kernel
theorem dX2_hasNumberTwice_41 : decode cX2_hasNumberTwice 41 = .ok (.goto (-29), 3) := by decide +kernel
theorem dX2_hasNumberTwice_44 : decode cX2_hasNumberTwice 44 = .ok (.iinc 1 1, 3) := by decide +kernel
theorem dX2_hasNumberTwice_47 : decode cX2_hasNumberTwice 47 = .ok (.goto (-45), 3) := by decide +kernel
theorem dX2_hasNumberTwice_50 : decode cX2_hasNumberTwice 50 = .ok (.iconst 0, 1) := by decide +kernel
theorem dX2_hasNumberTwice_51 : decode cX2_hasNumberTwice 51 = .ok (.ireturn, 1) := by decide +kernel
set_option maxRecDepth 20000 in
theorem ggX3_init_X0_init : GoodIn wsX3_init wsX0_init := goodIn_r _ [15, 16, 2, 3, 4, 17, 26, 27] (by decide +kernel) (by decide +kernel)
set_option maxRecDepth 20000 in
theorem gX3_init_X0_init_n20 : GoodIn wsX3_init (wsX0_init) := ggX3_init_X0_init
theorem dX3_init_0 : decode cX3_init 0 = .ok (.aload_n 0, 1) := by decide +kernel
theorem dX3_init_1 : decode cX3_init 1 = .ok (.invokespecial 3, 3) := by decide +kernel
theorem dX3_init_4 : decode cX3_init 4 = .ok (.aload_n 0, 1) := by decide +kernel
theorem dX3_init_5 : decode cX3_init 5 = .ok (.sipush 128, 3) := by decide +kernel
theorem dX3_init_8 : decode cX3_init 8 = .ok (.newarray .int, 2) := by decide +kernel
theorem dX3_init_10 : decode cX3_init 10 = .ok (.putfield 9, 3) := by decide +kernel
theorem dX3_init_13 : decode cX3_init 13 = .ok (.aload_n 0, 1) := by decide +kernel
theorem dX3_init_14 : decode cX3_init 14 = .ok (.bipush 16, 2) := by decide +kernel
theorem dX3_init_16 : decode cX3_init 16 = .ok (.newarray .int, 2) := by decide +kernel
theorem dX3_init_18 : decode cX3_init 18 = .ok (.putfield 15, 3) := by decide +kernel
theorem dX3_init_21 : decode cX3_init 21 = .ok (.aload_n 0, 1) := by decide +kernel
theorem dX3_init_22 : decode cX3_init 22 = .ok (.new 18, 3) := by decide +kernel
theorem dX3_init_25 : decode cX3_init 25 = .ok (.dup, 1) := by decide +kernel
theorem dX3_init_26 : decode cX3_init 26 = .ok (.invokespecial 20, 3) := by decide +kernel
theorem dX3_init_29 : decode cX3_init 29 = .ok (.putfield 21, 3) := by decide +kernel
theorem dX3_init_32 : decode cX3_init 32 = .ok (.aload_n 0, 1) := by decide +kernel
theorem dX3_init_33 : decode cX3_init 33 = .ok (.bipush 8, 2) := by decide +kernel
theorem dX3_init_35 : decode cX3_init 35 = .ok (.anewarray 18, 3) := by decide +kernel
theorem dX3_init_38 : decode cX3_init 38 = .ok (.putfield 25, 3) := by decide +kernel
theorem dX3_init_41 : decode cX3_init 41 = .ok (.aload_n 0, 1) := by decide +kernel
theorem dX3_init_42 : decode cX3_init 42 = .ok (.bipush 8, 2) := by decide +kernel
theorem dX3_init_44 : decode cX3_init 44 = .ok (.newarray .int, 2) := by decide +kernel
theorem dX3_init_46 : decode cX3_init 46 = .ok (.putfield 29, 3) := by decide +kernel
theorem dX3_init_49 : decode cX3_init 49 = .ok (.aload_n 0, 1) := by decide +kernel
theorem dX3_init_50 : decode cX3_init 50 = .ok (.bipush 8, 2) := by decide +kernel
theorem dX3_init_52 : decode cX3_init 52 = .ok (.newarray .int, 2) := by decide +kernel
theorem dX3_init_54 : decode cX3_init 54 = .ok (.putfield 32, 3) := by decide +kernel
theorem dX3_init_57 : decode cX3_init 57 = .ok (.iconst 0, 1) := by decide +kernel
theorem dX3_init_58 : decode cX3_init 58 = .ok (.istore_n 1, 1) := by decide +kernel
theorem dX3_init_59 : decode cX3_init 59 = .ok (.iload_n 1, 1) := by decide +kernel
theorem dX3_init_60 : decode cX3_init 60 = .ok (.aload_n 0, 1) := by decide +kernel
theorem dX3_init_61 : decode cX3_init 61 = .ok (.getfield 25, 3) := by decide +kernel
theorem dX3_init_64 : decode cX3_init 64 = .ok (.arraylength, 1) := by decide +kernel
theorem dX3_init_65 : decode cX3_init 65 = .ok (.if_icmp .ge 22, 3) := by decide +kernel
theorem dX3_init_68 : decode cX3_init 68 = .ok (.aload_n 0, 1) := by decide +kernel
theorem dX3_init_69 : decode cX3_init 69 = .ok (.getfield 25, 3) := by decide +kernel
theorem dX3_init_72 : decode cX3_init 72 = .ok (.iload_n 1, 1) := by decide +kernel
theorem dX3_init_73 : decode cX3_init 73 = .ok (.new 18, 3) := by decide +kernel
theorem dX3_init_76 : decode cX3_init 76 = .ok (.dup, 1) := by decide +kernel
theorem dX3_init_77 : decode cX3_init 77 = .ok (.invokespecial 20, 3) := by decide +kernel
theorem dX3_init_80 : decode cX3_init 80 = .ok (.aastore, 1) := by decide +kernel
theorem dX3_init_81 : decode cX3_init 81 = .ok (.iinc 1 1, 3) := by decide +kernel
theorem dX3_init_84 : decode cX3_init 84 = .ok (.goto (-25), 3) := by decide +kernel
theorem dX3_init_87 : decode cX3_init 87 = .ok (.return_, 1) := by decide +kernel
set_option maxRecDepth 20000 in
theorem ggX3_copy_X0_copy : GoodIn wsX3_copy wsX0_copy := goodIn_r _ [17, 18, 19, 20, 3, 4, 5, 29, 30] (by decide +kernel) (by decide +kernel)
set_option maxRecDepth 20000 in
theorem gX3_copy_X0_copy : GoodIn wsX3_copy (wsV RX3 45 RX0 yX0_copy wsX0_copy) := goodIn_app (goodIn_of _ (by decide +kernel)) ggX3_copy_X0_copy
theorem dX3_copy_0 : decode cX3_copy 0 = .ok (.aload_n 1, 1) := by decide +kernel
theorem dX3_copy_1 : decode cX3_copy 1 = .ok (.getfield 9, 3) := by decide +kernel
theorem dX3_copy_4 : decode cX3_copy 4 = .ok (.iconst 0, 1) := by decide +kernel
theorem dX3_copy_5 : decode cX3_copy 5 = .ok (.aload_n 0, 1) := by decide +kernel
theorem dX3_copy_6 : decode cX3_copy 6 = .ok (.getfield 9, 3) := by decide +kernel
theorem dX3_copy_9 : decode cX3_copy 9 = .ok (.iconst 0, 1) := by decide +kernel
theorem dX3_copy_10 : decode cX3_copy 10 = .ok (.aload_n 0, 1) := by decide +kernel
theorem dX3_copy_11 : decode cX3_copy 11 = .ok (.getfield 9, 3) := by decide +kernel
theorem dX3_copy_14 : decode cX3_copy 14 = .ok (.arraylength, 1) := by decide +kernel
theorem dX3_copy_15 : decode cX3_copy 15 = .ok (.invokestatic 35, 3) := by decide +kernel
theorem dX3_copy_18 : decode cX3_copy 18 = .ok (.aload_n 1, 1) := by decide +kernel
theorem dX3_copy_19 : decode cX3_copy 19 = .ok (.getfield 15, 3) := by decide +kernel
theorem dX3_copy_22 : decode cX3_copy 22 = .ok (.iconst 0, 1) := by decide +kernel
theorem dX3_copy_23 : decode cX3_copy 23 = .ok (.aload_n 0, 1) := by decide +kernel
theorem dX3_copy_24 : decode cX3_copy 24 = .ok (.getfield 15, 3) := by decide +kernel
theorem dX3_copy_27 : decode cX3_copy 27 = .ok (.iconst 0, 1) := by decide +kernel
theorem dX3_copy_28 : decode cX3_copy 28 = .ok (.aload_n 0, 1) := by decide +kernel
theorem dX3_copy_29 : decode cX3_copy 29 = .ok (.getfield 15, 3) := by decide +kernel
theorem dX3_copy_32 : decode cX3_copy 32 = .ok (.arraylength, 1) := by decide +kernel
theorem dX3_copy_33 : decode cX3_copy 33 = .ok (.invokestatic 35, 3) := by decide +kernel
theorem dX3_copy_36 : decode cX3_copy 36 = .ok (.aload_n 0, 1) := by decide +kernel
theorem dX3_copy_37 : decode cX3_copy 37 = .ok (.aload_n 1, 1) := by decide +kernel
theorem dX3_copy_38 : decode cX3_copy 38 = .ok (.getfield 41, 3) := by decide +kernel
theorem dX3_copy_41 : decode cX3_copy 41 = .ok (.putfield 41, 3) := by decide +kernel
theorem dX3_copy_44 : decode cX3_copy 44 = .ok (.aload_n 0, 1) := by decide +kernel
theorem dX3_copy_45 : decode cX3_copy 45 = .ok (.getfield 21, 3) := by decide +kernel
theorem dX3_copy_48 : decode cX3_copy 48 = .ok (.aload_n 1, 1) := by decide +kernel
theorem dX3_copy_49 : decode cX3_copy 49 = .ok (.getfield 21, 3) := by decide +kernel
theorem dX3_copy_52 : decode cX3_copy 52 = .ok (.invokevirtual 45, 3) := by decide +kernel
theorem dX3_copy_55 : decode cX3_copy 55 = .ok (.iconst 0, 1) := by decide +kernel
theorem dX3_copy_56 : decode cX3_copy 56 = .ok (.istore_n 2, 1) := by decide +kernel
theorem dX3_copy_57 : decode cX3_copy 57 = .ok (.iload_n 2, 1) := by decide +kernel
theorem dX3_copy_58 : decode cX3_copy 58 = .ok (.aload_n 0, 1) := by decide +kernel
theorem dX3_copy_59 : decode cX3_copy 59 = .ok (.getfield 25, 3) := by decide +kernel
theorem dX3_copy_62 : decode cX3_copy 62 = .ok (.arraylength, 1) := by decide +kernel
theorem dX3_copy_63 : decode cX3_copy 63 = .ok (.if_icmp .ge 24, 3) := by decide +kernel
theorem dX3_copy_66 : decode cX3_copy 66 = .ok (.aload_n 0, 1) := by decide +kernel
theorem dX3_copy_67 : decode cX3_copy 67 = .ok (.getfield 25, 3) := by decide +kernel
theorem dX3_copy_70 : decode cX3_copy 70 = .ok (.iload_n 2, 1) := by decide +kernel
theorem dX3_copy_71 : decode cX3_copy 71 = .ok (.aaload, 1) := by decide +kernel
theorem dX3_copy_72 : decode cX3_copy 72 = .ok (.aload_n 1, 1) := by decide +kernel
theorem dX3_copy_73 : decode cX3_copy 73 = .ok (.getfield 25, 3) := by decide +kernel
theorem dX3_copy_76 : decode cX3_copy 76 = .ok (.iload_n 2, 1) := by decide +kernel
theorem dX3_copy_77 : decode cX3_copy 77 = .ok (.aaload, 1) := by decide +kernel
theorem dX3_copy_78 : decode cX3_copy 78 = .ok (.invokevirtual 45, 3) := by decide +kernel
theorem dX3_copy_81 : decode cX3_copy 81 = .ok (.iinc 2 1, 3) := by decide +kernel
theorem dX3_copy_84 : decode cX3_copy 84 = .ok (.goto (-27), 3) := by decide +kernel
theorem dX3_copy_87 : decode cX3_copy 87 = .ok (.aload_n 1, 1) := by decide +kernel
theorem dX3_copy_88 : decode cX3_copy 88 = .ok (.getfield 29, 3) := by decide +kernel
theorem dX3_copy_91 : decode cX3_copy 91 = .ok (.iconst 0, 1) := by decide +kernel
theorem dX3_copy_92 : decode cX3_copy 92 = .ok (.aload_n 0, 1) := by decide +kernel
theorem dX3_copy_93 : decode cX3_copy 93 = .ok (.getfield 29, 3) := by decide +kernel
theorem dX3_copy_96 : decode cX3_copy 96 = .ok (.iconst 0, 1) := by decide +kernel
theorem dX3_copy_97 : decode cX3_copy 97 = .ok (.aload_n 0, 1) := by decide +kernel
theorem dX3_copy_98 : decode cX3_copy 98 = .ok (.getfield 29, 3) := by decide +kernel
theorem dX3_copy_101 : decode cX3_copy 101 = .ok (.arraylength, 1) := by decide +kernel
theorem dX3_copy_102 : decode cX3_copy 102 = .ok (.invokestatic 35, 3) := by decide +kernel
theorem dX3_copy_105 : decode cX3_copy 105 = .ok (.aload_n 1, 1) := by decide +kernel
theorem dX3_copy_106 : decode cX3_copy 106 = .ok (.getfield 32, 3) := by decide +kernel
theorem dX3_copy_109 : decode cX3_copy 109 = .ok (.iconst 0, 1) := by decide +kernel
theorem dX3_copy_110 : decode cX3_copy 110 = .ok (.aload_n 0, 1) := by decide +kernel
theorem dX3_copy_111 : decode cX3_copy 111 = .ok (.getfield 32, 3) := by decide +kernel
theorem dX3_copy_114 : decode cX3_copy 114 = .ok (.iconst 0, 1) := by decide +kernel
theorem dX3_copy_115 : decode cX3_copy 115 = .ok (.aload_n 0, 1) := by decide +kernel
theorem dX3_copy_116 : decode cX3_copy 116 = .ok (.getfield 32, 3) := by decide +kernel
theorem dX3_copy_119 : decode cX3_copy 119 = .ok (.arraylength, 1) := by decide +kernel
theorem dX3_copy_120 : decode cX3_copy 120 = .ok (.invokestatic 35, 3) := by decide +kernel
theorem dX3_copy_123 : decode cX3_copy 123 = .ok (.aload_n 0, 1) := by decide +kernel
theorem dX3_copy_124 : decode cX3_copy 124 = .ok (.aload_n 1, 1) := by decide +kernel
theorem dX3_copy_125 : decode cX3_copy 125 = .ok (.getfield 49, 3) := by decide +kernel
theorem dX3_copy_128 : decode cX3_copy 128 = .ok (.putfield 49, 3) := by decide +kernel
theorem dX3_copy_131 : decode cX3_copy 131 = .ok (.return_, 1) := by decide +kernel
theorem dX3_hasOwner_0 : decode cX3_hasOwner 0 = .ok (.iload_n 1, 1) := by decide +kernel
theorem dX3_hasOwner_1 : decode cX3_hasOwner 1 = .ok (.ifCond .lt 15, 3) := by decide +kernel
theorem dX3_hasOwner_4 : decode cX3_hasOwner 4 = .ok (.iload_n 1, 1) := by decide +kernel
theorem dX3_hasOwner_5 : decode cX3_hasOwner 5 = .ok (.aload_n 0, 1) := by decide +kernel
theorem dX3_hasOwner_6 : decode cX3_hasOwner 6 = .ok (.getfield 49, 3) := by decide +kernel
theorem dX3_hasOwner_9 : decode cX3_hasOwner 9 = .ok (.if_icmp .ge 7, 3) := by decide +kernel
theorem dX3_hasOwner_12 : decode cX3_hasOwner 12 = .ok (.iconst 1, 1) := by decide +kernel
theorem dX3_hasOwner_13 : decode cX3_hasOwner 13 = .ok (.goto 4, 3) := by decide +kernel
theorem dX3_hasOwner_16 : decode cX3_hasOwner 16 = .ok (.iconst 0, 1) := by decide +kernel
theorem dX3_hasOwner_17 : decode cX3_hasOwner 17 = .ok (.ireturn, 1) := by decide +kernel
theorem dX3_hasParcel_0 : decode cX3_hasParcel 0 = .ok (.iload_n 1, 1) := by decide +kernel
theorem dX3_hasParcel_1 : decode cX3_hasParcel 1 = .ok (.ifCond .lt 15, 3) := by decide +kernel
theorem dX3_hasParcel_4 : decode cX3_hasParcel 4 = .ok (.iload_n 1, 1) := by decide +kernel
theorem dX3_hasParcel_5 : decode cX3_hasParcel 5 = .ok (.aload_n 0, 1) := by decide +kernel
theorem dX3_hasParcel_6 : decode cX3_hasParcel 6 = .ok (.getfield 41, 3) := by decide +kernel
theorem dX3_hasParcel_9 : decode cX3_hasParcel 9 = .ok (.if_icmp .ge 7, 3) := by decide +kernel
theorem dX3_hasParcel_12 : decode cX3_hasParcel 12 = .ok (.iconst 1, 1) := by decide +kernel
theorem dX3_hasParcel_13 : decode cX3_hasParcel 13 = .ok (.goto 4, 3) := by decide +kernel
theorem dX3_hasParcel_16 : decode cX3_hasParcel 16 = .ok (.iconst 0, 1) := by decide +kernel
theorem dX3_hasParcel_17 : decode cX3_hasParcel 17 = .ok (.ireturn, 1) := by decide +kernel
theorem dX3_isWaiting_0 : decode cX3_isWaiting 0 = .ok (.aload_n 0, 1) := by decide +kernel
theorem dX3_isWaiting_1 : decode cX3_isWaiting 1 = .ok (.getfield 29, 3) := by decide +kernel
theorem dX3_isWaiting_4 : decode cX3_isWaiting 4 = .ok (.iload_n 1, 1) := by decide +kernel
theorem dX3_isWaiting_5 : decode cX3_isWaiting 5 = .ok (.iaload, 1) := by decide +kernel
theorem dX3_isWaiting_6 : decode cX3_isWaiting 6 = .ok (.iconst 1, 1) := by decide +kernel
theorem dX3_isWaiting_7 : decode cX3_isWaiting 7 = .ok (.iload_n 2, 1) := by decide +kernel
theorem dX3_isWaiting_8 : decode cX3_isWaiting 8 = .ok (.ishl, 1) := by decide +kernel
theorem dX3_isWaiting_9 : decode cX3_isWaiting 9 = .ok (.iand, 1) := by decide +kernel
theorem dX3_isWaiting_10 : decode cX3_isWaiting 10 = .ok (.ifCond .eq 7, 3) := by decide +kernel
theorem dX3_isWaiting_13 : decode cX3_isWaiting 13 = .ok (.iconst 1, 1) := by decide +kernel
theorem dX3_isWaiting_14 : decode cX3_isWaiting 14 = .ok (.goto 4, 3) := by decide +kernel
theorem dX3_isWaiting_17 : decode cX3_isWaiting 17 = .ok (.iconst 0, 1) := by decide +kernel
theorem dX3_isWaiting_18 : decode cX3_isWaiting 18 = .ok (.ireturn, 1) := by decide +kernel
theorem dX3_order_0 : decode cX3_order 0 = .ok (.aload_n 0, 1) := by decide +kernel
theorem dX3_order_1 : decode cX3_order 1 = .ok (.getfield 9, 3) := by decide +kernel
theorem dX3_order_4 : decode cX3_order 4 = .ok (.iload_n 1, 1) := by decide +kernel
theorem dX3_order_5 : decode cX3_order 5 = .ok (.bipush 8, 2) := by decide +kernel
theorem dX3_order_7 : decode cX3_order 7 = .ok (.imul, 1) := by decide +kernel
theorem dX3_order_8 : decode cX3_order 8 = .ok (.iload_n 2, 1) := by decide +kernel
theorem dX3_order_9 : decode cX3_order 9 = .ok (.iadd, 1) := by decide +kernel
theorem dX3_order_10 : decode cX3_order 10 = .ok (.iaload, 1) := by decide +kernel
theorem dX3_order_11 : decode cX3_order 11 = .ok (.ireturn, 1) := by decide +kernel
set_option maxRecDepth 20000 in
theorem ggX3_addParcel_X2_orders : GoodIn wsX3_addParcel wsX2_orders := goodIn_r _ [11, 12, 72, 73] (by decide +kernel) (by decide +kernel)
set_option maxRecDepth 20000 in
theorem gX3_addParcel_X2_orders : GoodIn wsX3_addParcel (wsV RX3 52 RX2 yX2_orders wsX2_orders) := goodIn_app (goodIn_of _ (by decide +kernel)) ggX3_addParcel_X2_orders
set_option maxRecDepth 20000 in
theorem ggX3_addParcel_X2_order : GoodIn wsX3_addParcel wsX2_order := goodIn_r _ [16, 17, 72, 73] (by decide +kernel) (by decide +kernel)
set_option maxRecDepth 20000 in
theorem gX3_addParcel_X2_order : GoodIn wsX3_addParcel (wsV RX3 57 RX2 yX2_order wsX2_order) := goodIn_app (goodIn_of _ (by decide +kernel)) ggX3_addParcel_X2_order
set_option maxRecDepth 20000 in
theorem ggX3_addParcel_X3_doWithCare : GoodIn wsX3_addParcel wsX3_doWithCare := goodIn_r _ [22, 2, 23, 24, 25, 21, 26, 3, 27, 28, 29, 30, 31, 32, 33, 34, 35, 36, 37, 38, 39, 40, 41, 42, 43, 44, 45, 46, 47, 48, 49, 50, 51, 52, 53, 54, 55, 56, 57, 58, 59, 60, 61, 62, 63, 64, 65, 66, 67, 68, 69, 70, 71, 74, 75] (by decide +kernel) (by decide +kernel)
set_option maxRecDepth 20000 in
theorem gX3_addParcel_X3_doWithCare : GoodIn wsX3_addParcel (wsV RX3 61 RX3 yX3_doWithCare wsX3_doWithCare) := goodIn_app (goodIn_of _ (by decide +kernel)) ggX3_addParcel_X3_doWithCare
theorem dX3_addParcel_0 : decode cX3_addParcel 0 = .ok (.aload_n 0, 1) := by decide +kernel
theorem dX3_addParcel_1 : decode cX3_addParcel 1 = .ok (.getfield 41, 3) := by decide +kernel
theorem dX3_addParcel_4 : decode cX3_addParcel 4 = .ok (.istore_n 2, 1) := by decide +kernel
theorem dX3_addParcel_5 : decode cX3_addParcel 5 = .ok (.aload_n 0, 1) := by decide +kernel
theorem dX3_addParcel_6 : decode cX3_addParcel 6 = .ok (.getfield 15, 3) := by decide +kernel
theorem dX3_addParcel_9 : decode cX3_addParcel 9 = .ok (.iload_n 2, 1) := by decide +kernel
theorem dX3_addParcel_10 : decode cX3_addParcel 10 = .ok (.aload_n 1, 1) := by decide +kernel
theorem dX3_addParcel_11 : decode cX3_addParcel 11 = .ok (.invokevirtual 52, 3) := by decide +kernel
theorem dX3_addParcel_14 : decode cX3_addParcel 14 = .ok (.iastore, 1) := by decide +kernel
theorem dX3_addParcel_15 : decode cX3_addParcel 15 = .ok (.iconst 0, 1) := by decide +kernel
theorem dX3_addParcel_16 : decode cX3_addParcel 16 = .ok (.istore_n 3, 1) := by decide +kernel
theorem dX3_addParcel_17 : decode cX3_addParcel 17 = .ok (.iload_n 3, 1) := by decide +kernel
theorem dX3_addParcel_18 : decode cX3_addParcel 18 = .ok (.aload_n 0, 1) := by decide +kernel
theorem dX3_addParcel_19 : decode cX3_addParcel 19 = .ok (.getfield 15, 3) := by decide +kernel
theorem dX3_addParcel_22 : decode cX3_addParcel 22 = .ok (.iload_n 2, 1) := by decide +kernel
theorem dX3_addParcel_23 : decode cX3_addParcel 23 = .ok (.iaload, 1) := by decide +kernel
theorem dX3_addParcel_24 : decode cX3_addParcel 24 = .ok (.if_icmp .ge 25, 3) := by decide +kernel
theorem dX3_addParcel_27 : decode cX3_addParcel 27 = .ok (.aload_n 0, 1) := by decide +kernel
theorem dX3_addParcel_28 : decode cX3_addParcel 28 = .ok (.getfield 9, 3) := by decide +kernel
theorem dX3_addParcel_31 : decode cX3_addParcel 31 = .ok (.iload_n 2, 1) := by decide +kernel
theorem dX3_addParcel_32 : decode cX3_addParcel 32 = .ok (.bipush 8, 2) := by decide +kernel
theorem dX3_addParcel_34 : decode cX3_addParcel 34 = .ok (.imul, 1) := by decide +kernel
theorem dX3_addParcel_35 : decode cX3_addParcel 35 = .ok (.iload_n 3, 1) := by decide +kernel
theorem dX3_addParcel_36 : decode cX3_addParcel 36 = .ok (.iadd, 1) := by decide +kernel
theorem dX3_addParcel_37 : decode cX3_addParcel 37 = .ok (.aload_n 1, 1) := by decide +kernel
theorem dX3_addParcel_38 : decode cX3_addParcel 38 = .ok (.iload_n 3, 1) := by decide +kernel
theorem dX3_addParcel_39 : decode cX3_addParcel 39 = .ok (.invokevirtual 57, 3) := by decide +kernel
theorem dX3_addParcel_42 : decode cX3_addParcel 42 = .ok (.iastore, 1) := by decide +kernel
theorem dX3_addParcel_43 : decode cX3_addParcel 43 = .ok (.iinc 3 1, 3) := by decide +kernel
theorem dX3_addParcel_46 : decode cX3_addParcel 46 = .ok (.goto (-29), 3) := by decide +kernel
theorem dX3_addParcel_49 : decode cX3_addParcel 49 = .ok (.aload_n 0, 1) := by decide +kernel
theorem dX3_addParcel_50 : decode cX3_addParcel 50 = .ok (.dup, 1) := by decide +kernel
theorem dX3_addParcel_51 : decode cX3_addParcel 51 = .ok (.getfield 41, 3) := by decide +kernel
theorem dX3_addParcel_54 : decode cX3_addParcel 54 = .ok (.iconst 1, 1) := by decide +kernel
theorem dX3_addParcel_55 : decode cX3_addParcel 55 = .ok (.iadd, 1) := by decide +kernel
theorem dX3_addParcel_56 : decode cX3_addParcel 56 = .ok (.putfield 41, 3) := by decide +kernel
theorem dX3_addParcel_59 : decode cX3_addParcel 59 = .ok (.aload_n 0, 1) := by decide +kernel
theorem dX3_addParcel_60 : decode cX3_addParcel 60 = .ok (.aload_n 0, 1) := by decide +kernel
theorem dX3_addParcel_61 : decode cX3_addParcel 61 = .ok (.getfield 21, 3) := by decide +kernel
theorem dX3_addParcel_64 : decode cX3_addParcel 64 = .ok (.iload_n 2, 1) := by decide +kernel
theorem dX3_addParcel_65 : decode cX3_addParcel 65 = .ok (.invokevirtual 61, 3) := by decide +kernel
theorem dX3_addParcel_68 : decode cX3_addParcel 68 = .ok (.iconst 0, 1) := by decide +kernel
theorem dX3_addParcel_69 : decode cX3_addParcel 69 = .ok (.istore_n 3, 1) := by decide +kernel
theorem dX3_addParcel_70 : decode cX3_addParcel 70 = .ok (.iload_n 3, 1) := by decide +kernel
theorem dX3_addParcel_71 : decode cX3_addParcel 71 = .ok (.aload_n 0, 1) := by decide +kernel
theorem dX3_addParcel_72 : decode cX3_addParcel 72 = .ok (.getfield 49, 3) := by decide +kernel
theorem dX3_addParcel_75 : decode cX3_addParcel 75 = .ok (.if_icmp .ge 21, 3) := by decide +kernel
theorem dX3_addParcel_78 : decode cX3_addParcel 78 = .ok (.aload_n 0, 1) := by decide +kernel
theorem dX3_addParcel_79 : decode cX3_addParcel 79 = .ok (.getfield 29, 3) := by decide +kernel
theorem dX3_addParcel_82 : decode cX3_addParcel 82 = .ok (.iload_n 3, 1) := by decide +kernel
theorem dX3_addParcel_83 : decode cX3_addParcel 83 = .ok (.dup2, 1) := by decide +kernel
theorem dX3_addParcel_84 : decode cX3_addParcel 84 = .ok (.iaload, 1) := by decide +kernel
theorem dX3_addParcel_85 : decode cX3_addParcel 85 = .ok (.iconst 1, 1) := by decide +kernel
theorem dX3_addParcel_86 : decode cX3_addParcel 86 = .ok (.iload_n 2, 1) := by decide +kernel
theorem dX3_addParcel_87 : decode cX3_addParcel 87 = .ok (.ishl, 1) := by decide +kernel
theorem dX3_addParcel_88 : decode cX3_addParcel 88 = .ok (.ior, 1) := by decide +kernel
theorem dX3_addParcel_89 : decode cX3_addParcel 89 = .ok (.iastore, 1) := by decide +kernel
theorem dX3_addParcel_90 : decode cX3_addParcel 90 = .ok (.iinc 3 1, 3) := by decide +kernel
theorem dX3_addParcel_93 : decode cX3_addParcel 93 = .ok (.goto (-23), 3) := by decide +kernel
theorem dX3_addParcel_96 : decode cX3_addParcel 96 = .ok (.iload_n 2, 1) := by decide +kernel
theorem dX3_addParcel_97 : decode cX3_addParcel 97 = .ok (.ireturn, 1) := by decide +kernel
set_option maxRecDepth 20000 in
theorem ggX3_addOwner_X0_copy : GoodIn wsX3_addOwner wsX0_copy := goodIn_r _ [10, 11, 12, 13, 14, 15, 16, 25, 26] (by decide +kernel) (by decide +kernel)
set_option maxRecDepth 20000 in
theorem gX3_addOwner_X0_copy : GoodIn wsX3_addOwner (wsV RX3 45 RX0 yX0_copy wsX0_copy) := goodIn_app (goodIn_of _ (by decide +kernel)) ggX3_addOwner_X0_copy
theorem dX3_addOwner_0 : decode cX3_addOwner 0 = .ok (.aload_n 0, 1) := by decide +kernel
theorem dX3_addOwner_1 : decode cX3_addOwner 1 = .ok (.getfield 49, 3) := by decide +kernel
theorem dX3_addOwner_4 : decode cX3_addOwner 4 = .ok (.istore_n 1, 1) := by decide +kernel
theorem dX3_addOwner_5 : decode cX3_addOwner 5 = .ok (.aload_n 0, 1) := by decide +kernel
theorem dX3_addOwner_6 : decode cX3_addOwner 6 = .ok (.getfield 25, 3) := by decide +kernel
theorem dX3_addOwner_9 : decode cX3_addOwner 9 = .ok (.iload_n 1, 1) := by decide +kernel
theorem dX3_addOwner_10 : decode cX3_addOwner 10 = .ok (.aaload, 1) := by decide +kernel
theorem dX3_addOwner_11 : decode cX3_addOwner 11 = .ok (.aload_n 0, 1) := by decide +kernel
theorem dX3_addOwner_12 : decode cX3_addOwner 12 = .ok (.getfield 21, 3) := by decide +kernel
theorem dX3_addOwner_15 : decode cX3_addOwner 15 = .ok (.invokevirtual 45, 3) := by decide +kernel
theorem dX3_addOwner_18 : decode cX3_addOwner 18 = .ok (.aload_n 0, 1) := by decide +kernel
theorem dX3_addOwner_19 : decode cX3_addOwner 19 = .ok (.getfield 29, 3) := by decide +kernel
theorem dX3_addOwner_22 : decode cX3_addOwner 22 = .ok (.iload_n 1, 1) := by decide +kernel
theorem dX3_addOwner_23 : decode cX3_addOwner 23 = .ok (.iconst 0, 1) := by decide +kernel
theorem dX3_addOwner_24 : decode cX3_addOwner 24 = .ok (.iastore, 1) := by decide +kernel
theorem dX3_addOwner_25 : decode cX3_addOwner 25 = .ok (.aload_n 0, 1) := by decide +kernel
theorem dX3_addOwner_26 : decode cX3_addOwner 26 = .ok (.getfield 32, 3) := by decide +kernel
theorem dX3_addOwner_29 : decode cX3_addOwner 29 = .ok (.iload_n 1, 1) := by decide +kernel
theorem dX3_addOwner_30 : decode cX3_addOwner 30 = .ok (.iconst 0, 1) := by decide +kernel
theorem dX3_addOwner_31 : decode cX3_addOwner 31 = .ok (.iastore, 1) := by decide +kernel
theorem dX3_addOwner_32 : decode cX3_addOwner 32 = .ok (.aload_n 0, 1) := by decide +kernel
theorem dX3_addOwner_33 : decode cX3_addOwner 33 = .ok (.dup, 1) := by decide +kernel
theorem dX3_addOwner_34 : decode cX3_addOwner 34 = .ok (.getfield 49, 3) := by decide +kernel
theorem dX3_addOwner_37 : decode cX3_addOwner 37 = .ok (.iconst 1, 1) := by decide +kernel
theorem dX3_addOwner_38 : decode cX3_addOwner 38 = .ok (.iadd, 1) := by decide +kernel
theorem dX3_addOwner_39 : decode cX3_addOwner 39 = .ok (.putfield 49, 3) := by decide +kernel
theorem dX3_addOwner_42 : decode cX3_addOwner 42 = .ok (.iload_n 1, 1) := by decide +kernel
theorem dX3_addOwner_43 : decode cX3_addOwner 43 = .ok (.ireturn, 1) := by decide +kernel
set_option maxRecDepth 20000 in
theorem ggX3_doWithCare_X3_order : GoodIn wsX3_doWithCare wsX3_order := goodIn_r _ [6, 7, 45, 46, 47, 48, 49, 50, 51, 52] (by decide +kernel) (by decide +kernel)
set_option maxRecDepth 20000 in
theorem gX3_doWithCare_X3_order : GoodIn wsX3_doWithCare (wsV RX3 65 RX3 yX3_order wsX3_order) := goodIn_app (goodIn_of _ (by decide +kernel)) ggX3_doWithCare_X3_order
set_option maxRecDepth 20000 in
theorem ggX3_doWithCare_X0_removeAll : GoodIn wsX3_doWithCare wsX0_removeAll := goodIn_r _ [12, 13, 14, 15, 11, 16, 17, 18, 19, 20, 21, 22, 23, 24, 25, 26, 27, 28, 29, 30, 31, 32, 33, 34, 35, 36, 37, 38, 39, 40, 53, 54] (by decide +kernel) (by decide +kernel)
set_option maxRecDepth 20000 in
theorem gX3_doWithCare_X0_removeAll : GoodIn wsX3_doWithCare (wsV RX3 68 RX0 yX0_removeAll wsX0_removeAll) := goodIn_app (goodIn_of _ (by decide +kernel)) ggX3_doWithCare_X0_removeAll
set_option maxRecDepth 20000 in
theorem ggX3_doWithCare_X0_insert : GoodIn wsX3_doWithCare wsX0_insert := goodIn_r _ [44, 24, 25, 37, 38, 39, 40, 17, 18, 11, 19, 20, 21, 22, 23, 53, 54] (by decide +kernel) (by decide +kernel)
set_option maxRecDepth 20000 in
theorem gX3_doWithCare_X0_insert : GoodIn wsX3_doWithCare (wsV RX3 72 RX0 yX0_insert wsX0_insert) := goodIn_app (goodIn_of _ (by decide +kernel)) ggX3_doWithCare_X0_insert
theorem dX3_doWithCare_0 : decode cX3_doWithCare 0 = .ok (.iconst 0, 1) := by decide +kernel
theorem dX3_doWithCare_1 : decode cX3_doWithCare 1 = .ok (.istore_n 3, 1) := by decide +kernel
theorem dX3_doWithCare_2 : decode cX3_doWithCare 2 = .ok (.iload_n 3, 1) := by decide +kernel
theorem dX3_doWithCare_3 : decode cX3_doWithCare 3 = .ok (.aload_n 0, 1) := by decide +kernel
theorem dX3_doWithCare_4 : decode cX3_doWithCare 4 = .ok (.getfield 15, 3) := by decide +kernel
theorem dX3_doWithCare_7 : decode cX3_doWithCare 7 = .ok (.iload_n 2, 1) := by decide +kernel
theorem dX3_doWithCare_8 : decode cX3_doWithCare 8 = .ok (.iaload, 1) := by decide +kernel
theorem dX3_doWithCare_9 : decode cX3_doWithCare 9 = .ok (.if_icmp .ge 43, 3) := by decide +kernel
theorem dX3_doWithCare_12 : decode cX3_doWithCare 12 = .ok (.aload_n 0, 1) := by decide +kernel
theorem dX3_doWithCare_13 : decode cX3_doWithCare 13 = .ok (.iload_n 2, 1) := by decide +kernel
theorem dX3_doWithCare_14 : decode cX3_doWithCare 14 = .ok (.iload_n 3, 1) := by decide +kernel
theorem dX3_doWithCare_15 : decode cX3_doWithCare 15 = .ok (.invokevirtual 65, 3) := by decide +kernel
theorem dX3_doWithCare_18 : decode cX3_doWithCare 18 = .ok (.istore 4, 2) := by decide +kernel
theorem dX3_doWithCare_20 : decode cX3_doWithCare 20 = .ok (.aload_n 1, 1) := by decide +kernel
theorem dX3_doWithCare_21 : decode cX3_doWithCare 21 = .ok (.iload 4, 2) := by decide +kernel
theorem dX3_doWithCare_23 : decode cX3_doWithCare 23 = .ok (.bipush 100, 2) := by decide +kernel
theorem dX3_doWithCare_25 : decode cX3_doWithCare 25 = .ok (.irem, 1) := by decide +kernel
theorem dX3_doWithCare_26 : decode cX3_doWithCare 26 = .ok (.invokevirtual 68, 3) := by decide +kernel
theorem dX3_doWithCare_29 : decode cX3_doWithCare 29 = .ok (.iload 4, 2) := by decide +kernel
theorem dX3_doWithCare_31 : decode cX3_doWithCare 31 = .ok (.bipush 100, 2) := by decide +kernel
theorem dX3_doWithCare_33 : decode cX3_doWithCare 33 = .ok (.if_icmp .lt 13, 3) := by decide +kernel
theorem dX3_doWithCare_36 : decode cX3_doWithCare 36 = .ok (.aload_n 1, 1) := by decide +kernel
theorem dX3_doWithCare_37 : decode cX3_doWithCare 37 = .ok (.iload 4, 2) := by decide +kernel
theorem dX3_doWithCare_39 : decode cX3_doWithCare 39 = .ok (.bipush 100, 2) := by decide +kernel
theorem dX3_doWithCare_41 : decode cX3_doWithCare 41 = .ok (.irem, 1) := by decide +kernel
theorem dX3_doWithCare_42 : decode cX3_doWithCare 42 = .ok (.iload_n 2, 1) := by decide +kernel
theorem dX3_doWithCare_43 : decode cX3_doWithCare 43 = .ok (.invokevirtual 72, 3) := by decide +kernel
theorem dX3_doWithCare_46 : decode cX3_doWithCare 46 = .ok (.iinc 3 1, 3) := by decide +kernel
theorem dX3_doWithCare_49 : decode cX3_doWithCare 49 = .ok (.goto (-47), 3) := by decide +kernel
theorem dX3_doWithCare_52 : decode cX3_doWithCare 52 = .ok (.return_, 1) := by decide +kernel
set_option maxRecDepth 20000 in
theorem ggX3_doCarelessly_X3_order : GoodIn wsX3_doCarelessly wsX3_order := goodIn_r _ [6, 7, 49, 50, 51, 52, 53, 54, 55, 56] (by decide +kernel) (by decide +kernel)
set_option maxRecDepth 20000 in
theorem gX3_doCarelessly_X3_order : GoodIn wsX3_doCarelessly (wsV RX3 65 RX3 yX3_order wsX3_order) := goodIn_app (goodIn_of _ (by decide +kernel)) ggX3_doCarelessly_X3_order
set_option maxRecDepth 20000 in
theorem ggX3_doCarelessly_X0_insert : GoodIn wsX3_doCarelessly wsX0_insert := goodIn_r _ [12, 13, 14, 15, 16, 17, 18, 19, 20, 11, 21, 22, 23, 24, 25, 57, 58] (by decide +kernel) (by decide +kernel)
set_option maxRecDepth 20000 in
theorem gX3_doCarelessly_X0_insert : GoodIn wsX3_doCarelessly (wsV RX3 72 RX0 yX0_insert wsX0_insert) := goodIn_app (goodIn_of _ (by decide +kernel)) ggX3_doCarelessly_X0_insert
set_option maxRecDepth 20000 in
theorem ggX3_doCarelessly_X0_removeEarliest : GoodIn wsX3_doCarelessly wsX0_removeEarliest := goodIn_r _ [29, 30, 31, 32, 33, 34, 35, 36, 11, 37, 19, 20, 21, 22, 23, 24, 25, 13, 14, 38, 39, 40, 41, 42, 43, 44, 45, 46, 47, 48, 15, 16, 17, 18, 57, 58] (by decide +kernel) (by decide +kernel)
set_option maxRecDepth 20000 in
theorem gX3_doCarelessly_X0_removeEarliest : GoodIn wsX3_doCarelessly (wsV RX3 76 RX0 yX0_removeEarliest wsX0_removeEarliest) := goodIn_app (goodIn_of _ (by decide +kernel)) ggX3_doCarelessly_X0_removeEarliest
theorem dX3_doCarelessly_0 : decode cX3_doCarelessly 0 = .ok (.iconst 0, 1) := by decide +kernel
theorem dX3_doCarelessly_1 : decode cX3_doCarelessly 1 = .ok (.istore_n 3, 1) := by decide +kernel
theorem dX3_doCarelessly_2 : decode cX3_doCarelessly 2 = .ok (.iload_n 3, 1) := by decide +kernel
theorem dX3_doCarelessly_3 : decode cX3_doCarelessly 3 = .ok (.aload_n 0, 1) := by decide +kernel
theorem dX3_doCarelessly_4 : decode cX3_doCarelessly 4 = .ok (.getfield 15, 3) := by decide +kernel
theorem dX3_doCarelessly_7 : decode cX3_doCarelessly 7 = .ok (.iload_n 2, 1) := by decide +kernel
theorem dX3_doCarelessly_8 : decode cX3_doCarelessly 8 = .ok (.iaload, 1) := by decide +kernel
theorem dX3_doCarelessly_9 : decode cX3_doCarelessly 9 = .ok (.if_icmp .ge 43, 3) := by decide +kernel
theorem dX3_doCarelessly_12 : decode cX3_doCarelessly 12 = .ok (.aload_n 0, 1) := by decide +kernel
theorem dX3_doCarelessly_13 : decode cX3_doCarelessly 13 = .ok (.iload_n 2, 1) := by decide +kernel
theorem dX3_doCarelessly_14 : decode cX3_doCarelessly 14 = .ok (.iload_n 3, 1) := by decide +kernel
theorem dX3_doCarelessly_15 : decode cX3_doCarelessly 15 = .ok (.invokevirtual 65, 3) := by decide +kernel
theorem dX3_doCarelessly_18 : decode cX3_doCarelessly 18 = .ok (.istore 4, 2) := by decide +kernel
theorem dX3_doCarelessly_20 : decode cX3_doCarelessly 20 = .ok (.iload 4, 2) := by decide +kernel
theorem dX3_doCarelessly_22 : decode cX3_doCarelessly 22 = .ok (.bipush 100, 2) := by decide +kernel
theorem dX3_doCarelessly_24 : decode cX3_doCarelessly 24 = .ok (.if_icmp .lt 16, 3) := by decide +kernel
theorem dX3_doCarelessly_27 : decode cX3_doCarelessly 27 = .ok (.aload_n 1, 1) := by decide +kernel
theorem dX3_doCarelessly_28 : decode cX3_doCarelessly 28 = .ok (.iload 4, 2) := by decide +kernel
theorem dX3_doCarelessly_30 : decode cX3_doCarelessly 30 = .ok (.bipush 100, 2) := by decide +kernel
theorem dX3_doCarelessly_32 : decode cX3_doCarelessly 32 = .ok (.irem, 1) := by decide +kernel
theorem dX3_doCarelessly_33 : decode cX3_doCarelessly 33 = .ok (.iload_n 2, 1) := by decide +kernel
theorem dX3_doCarelessly_34 : decode cX3_doCarelessly 34 = .ok (.invokevirtual 72, 3) := by decide +kernel
theorem dX3_doCarelessly_37 : decode cX3_doCarelessly 37 = .ok (.goto 9, 3) := by decide +kernel
theorem dX3_doCarelessly_40 : decode cX3_doCarelessly 40 = .ok (.aload_n 1, 1) := by decide +kernel
theorem dX3_doCarelessly_41 : decode cX3_doCarelessly 41 = .ok (.iload 4, 2) := by decide +kernel
theorem dX3_doCarelessly_43 : decode cX3_doCarelessly 43 = .ok (.invokevirtual 76, 3) := by decide +kernel
theorem dX3_doCarelessly_46 : decode cX3_doCarelessly 46 = .ok (.iinc 3 1, 3) := by decide +kernel
theorem dX3_doCarelessly_49 : decode cX3_doCarelessly 49 = .ok (.goto (-47), 3) := by decide +kernel
theorem dX3_doCarelessly_52 : decode cX3_doCarelessly 52 = .ok (.return_, 1) := by decide +kernel
set_option maxRecDepth 20000 in
theorem ggX3_doSetWithCare_X3_doWithCare : GoodIn wsX3_doSetWithCare wsX3_doWithCare := goodIn_r _ [6, 7, 8, 9, 10, 5, 11, 12, 13, 14, 15, 16, 17, 18, 19, 20, 21, 22, 23, 24, 25, 26, 27, 28, 29, 30, 31, 32, 33, 34, 35, 36, 37, 38, 39, 40, 41, 42, 43, 44, 45, 46, 47, 48, 49, 50, 51, 52, 53, 54, 55, 56, 57, 58, 59] (by decide +kernel) (by decide +kernel)
set_option maxRecDepth 20000 in
theorem gX3_doSetWithCare_X3_doWithCare : GoodIn wsX3_doSetWithCare (wsV RX3 61 RX3 yX3_doWithCare wsX3_doWithCare) := goodIn_app (goodIn_of _ (by decide +kernel)) ggX3_doSetWithCare_X3_doWithCare
theorem dX3_doSetWithCare_0 : decode cX3_doSetWithCare 0 = .ok (.iconst 0, 1) := by decide +kernel
theorem dX3_doSetWithCare_1 : decode cX3_doSetWithCare 1 = .ok (.istore_n 3, 1) := by decide +kernel
theorem dX3_doSetWithCare_2 : decode cX3_doSetWithCare 2 = .ok (.iload_n 3, 1) := by decide +kernel
theorem dX3_doSetWithCare_3 : decode cX3_doSetWithCare 3 = .ok (.aload_n 0, 1) := by decide +kernel
theorem dX3_doSetWithCare_4 : decode cX3_doSetWithCare 4 = .ok (.getfield 41, 3) := by decide +kernel
theorem dX3_doSetWithCare_7 : decode cX3_doSetWithCare 7 = .ok (.if_icmp .ge 23, 3) := by decide +kernel
theorem dX3_doSetWithCare_10 : decode cX3_doSetWithCare 10 = .ok (.iload_n 2, 1) := by decide +kernel
theorem dX3_doSetWithCare_11 : decode cX3_doSetWithCare 11 = .ok (.iconst 1, 1) := by decide +kernel
theorem dX3_doSetWithCare_12 : decode cX3_doSetWithCare 12 = .ok (.iload_n 3, 1) := by decide +kernel
theorem dX3_doSetWithCare_13 : decode cX3_doSetWithCare 13 = .ok (.ishl, 1) := by decide +kernel
theorem dX3_doSetWithCare_14 : decode cX3_doSetWithCare 14 = .ok (.iand, 1) := by decide +kernel
theorem dX3_doSetWithCare_15 : decode cX3_doSetWithCare 15 = .ok (.ifCond .eq 9, 3) := by decide +kernel
theorem dX3_doSetWithCare_18 : decode cX3_doSetWithCare 18 = .ok (.aload_n 0, 1) := by decide +kernel
theorem dX3_doSetWithCare_19 : decode cX3_doSetWithCare 19 = .ok (.aload_n 1, 1) := by decide +kernel
theorem dX3_doSetWithCare_20 : decode cX3_doSetWithCare 20 = .ok (.iload_n 3, 1) := by decide +kernel
theorem dX3_doSetWithCare_21 : decode cX3_doSetWithCare 21 = .ok (.invokevirtual 61, 3) := by decide +kernel
theorem dX3_doSetWithCare_24 : decode cX3_doSetWithCare 24 = .ok (.iinc 3 1, 3) := by decide +kernel
theorem dX3_doSetWithCare_27 : decode cX3_doSetWithCare 27 = .ok (.goto (-25), 3) := by decide +kernel
theorem dX3_doSetWithCare_30 : decode cX3_doSetWithCare 30 = .ok (.return_, 1) := by decide +kernel
theorem dX3_ownersOf_0 : decode cX3_ownersOf 0 = .ok (.iconst 0, 1) := by decide +kernel
theorem dX3_ownersOf_1 : decode cX3_ownersOf 1 = .ok (.istore_n 3, 1) := by decide +kernel
theorem dX3_ownersOf_2 : decode cX3_ownersOf 2 = .ok (.iconst 0, 1) := by decide +kernel
theorem dX3_ownersOf_3 : decode cX3_ownersOf 3 = .ok (.istore 4, 2) := by decide +kernel
theorem dX3_ownersOf_5 : decode cX3_ownersOf 5 = .ok (.iload 4, 2) := by decide +kernel
theorem dX3_ownersOf_7 : decode cX3_ownersOf 7 = .ok (.aload_n 0, 1) := by decide +kernel
theorem dX3_ownersOf_8 : decode cX3_ownersOf 8 = .ok (.getfield 49, 3) := by decide +kernel
theorem dX3_ownersOf_11 : decode cX3_ownersOf 11 = .ok (.if_icmp .ge 27, 3) := by decide +kernel
theorem dX3_ownersOf_14 : decode cX3_ownersOf 14 = .ok (.aload_n 1, 1) := by decide +kernel
theorem dX3_ownersOf_15 : decode cX3_ownersOf 15 = .ok (.iload 4, 2) := by decide +kernel
theorem dX3_ownersOf_17 : decode cX3_ownersOf 17 = .ok (.iaload, 1) := by decide +kernel
theorem dX3_ownersOf_18 : decode cX3_ownersOf 18 = .ok (.iconst 1, 1) := by decide +kernel
theorem dX3_ownersOf_19 : decode cX3_ownersOf 19 = .ok (.iload_n 2, 1) := by decide +kernel
theorem dX3_ownersOf_20 : decode cX3_ownersOf 20 = .ok (.ishl, 1) := by decide +kernel
theorem dX3_ownersOf_21 : decode cX3_ownersOf 21 = .ok (.iand, 1) := by decide +kernel
theorem dX3_ownersOf_22 : decode cX3_ownersOf 22 = .ok (.ifCond .eq 10, 3) := by decide +kernel
theorem dX3_ownersOf_25 : decode cX3_ownersOf 25 = .ok (.iload_n 3, 1) := by decide +kernel
theorem dX3_ownersOf_26 : decode cX3_ownersOf 26 = .ok (.iconst 1, 1) := by decide +kernel
theorem dX3_ownersOf_27 : decode cX3_ownersOf 27 = .ok (.iload 4, 2) := by decide +kernel
theorem dX3_ownersOf_29 : decode cX3_ownersOf 29 = .ok (.ishl, 1) := by decide +kernel
theorem dX3_ownersOf_30 : decode cX3_ownersOf 30 = .ok (.ior, 1) := by decide +kernel
theorem dX3_ownersOf_31 : decode cX3_ownersOf 31 = .ok (.istore_n 3, 1) := by decide +kernel
theorem dX3_ownersOf_32 : decode cX3_ownersOf 32 = .ok (.iinc 4 1, 3) := by decide +kernel
theorem dX3_ownersOf_35 : decode cX3_ownersOf 35 = .ok (.goto (-30), 3) := by decide +kernel
theorem dX3_ownersOf_38 : decode cX3_ownersOf 38 = .ok (.iload_n 3, 1) := by decide +kernel
theorem dX3_ownersOf_39 : decode cX3_ownersOf 39 = .ok (.ireturn, 1) := by decide +kernel
set_option maxRecDepth 20000 in
theorem ggX3_ownersWithRightBinders_X0_isSameAs : GoodIn wsX3_ownersWithRightBinders wsX0_isSameAs := goodIn_r _ [8, 9, 10, 19, 20] (by decide +kernel) (by decide +kernel)
set_option maxRecDepth 20000 in
theorem gX3_ownersWithRightBinders_X0_isSameAs : GoodIn wsX3_ownersWithRightBinders (wsV RX3 79 RX0 yX0_isSameAs wsX0_isSameAs) := goodIn_app (goodIn_of _ (by decide +kernel)) ggX3_ownersWithRightBinders_X0_isSameAs
theorem dX3_ownersWithRightBinders_0 : decode cX3_ownersWithRightBinders 0 = .ok (.iconst 0, 1) := by decide +kernel
theorem dX3_ownersWithRightBinders_1 : decode cX3_ownersWithRightBinders 1 = .ok (.istore_n 1, 1) := by decide +kernel
theorem dX3_ownersWithRightBinders_2 : decode cX3_ownersWithRightBinders 2 = .ok (.iconst 0, 1) := by decide +kernel
theorem dX3_ownersWithRightBinders_3 : decode cX3_ownersWithRightBinders 3 = .ok (.istore_n 2, 1) := by decide +kernel
theorem dX3_ownersWithRightBinders_4 : decode cX3_ownersWithRightBinders 4 = .ok (.iload_n 2, 1) := by decide +kernel
theorem dX3_ownersWithRightBinders_5 : decode cX3_ownersWithRightBinders 5 = .ok (.aload_n 0, 1) := by decide +kernel
theorem dX3_ownersWithRightBinders_6 : decode cX3_ownersWithRightBinders 6 = .ok (.getfield 49, 3) := by decide +kernel
theorem dX3_ownersWithRightBinders_9 : decode cX3_ownersWithRightBinders 9 = .ok (.if_icmp .ge 31, 3) := by decide +kernel
theorem dX3_ownersWithRightBinders_12 : decode cX3_ownersWithRightBinders 12 = .ok (.aload_n 0, 1) := by decide +kernel
theorem dX3_ownersWithRightBinders_13 : decode cX3_ownersWithRightBinders 13 = .ok (.getfield 25, 3) := by decide +kernel
theorem dX3_ownersWithRightBinders_16 : decode cX3_ownersWithRightBinders 16 = .ok (.iload_n 2, 1) := by decide +kernel
theorem dX3_ownersWithRightBinders_17 : decode cX3_ownersWithRightBinders 17 = .ok (.aaload, 1) := by decide +kernel
theorem dX3_ownersWithRightBinders_18 : decode cX3_ownersWithRightBinders 18 = .ok (.aload_n 0, 1) := by decide +kernel
theorem dX3_ownersWithRightBinders_19 : decode cX3_ownersWithRightBinders 19 = .ok (.getfield 21, 3) := by decide +kernel
theorem dX3_ownersWithRightBinders_22 : decode cX3_ownersWithRightBinders 22 = .ok (.invokevirtual 79, 3) := by decide +kernel
theorem dX3_ownersWithRightBinders_25 : decode cX3_ownersWithRightBinders 25 = .ok (.ifCond .eq 9, 3) := by decide +kernel
theorem dX3_ownersWithRightBinders_28 : decode cX3_ownersWithRightBinders 28 = .ok (.iload_n 1, 1) := by decide +kernel
theorem dX3_ownersWithRightBinders_29 : decode cX3_ownersWithRightBinders 29 = .ok (.iconst 1, 1) := by decide +kernel
theorem dX3_ownersWithRightBinders_30 : decode cX3_ownersWithRightBinders 30 = .ok (.iload_n 2, 1) := by decide +kernel
theorem dX3_ownersWithRightBinders_31 : decode cX3_ownersWithRightBinders 31 = .ok (.ishl, 1) := by decide +kernel
theorem dX3_ownersWithRightBinders_32 : decode cX3_ownersWithRightBinders 32 = .ok (.ior, 1) := by decide +kernel
theorem dX3_ownersWithRightBinders_33 : decode cX3_ownersWithRightBinders 33 = .ok (.istore_n 1, 1) := by decide +kernel
theorem dX3_ownersWithRightBinders_34 : decode cX3_ownersWithRightBinders 34 = .ok (.iinc 2 1, 3) := by decide +kernel
theorem dX3_ownersWithRightBinders_37 : decode cX3_ownersWithRightBinders 37 = .ok (.goto (-33), 3) := by decide +kernel
theorem dX3_ownersWithRightBinders_40 : decode cX3_ownersWithRightBinders 40 = .ok (.iload_n 1, 1) := by decide +kernel
theorem dX3_ownersWithRightBinders_41 : decode cX3_ownersWithRightBinders 41 = .ok (.ireturn, 1) := by decide +kernel
set_option maxRecDepth 20000 in
theorem ggX3_parcelWithMostLeaves_X0_leavesOf : GoodIn wsX3_parcelWithMostLeaves wsX0_leavesOf := goodIn_r _ [7, 8, 9, 10, 11, 6, 12, 21, 22] (by decide +kernel) (by decide +kernel)
set_option maxRecDepth 20000 in
theorem gX3_parcelWithMostLeaves_X0_leavesOf : GoodIn wsX3_parcelWithMostLeaves (wsV RX3 83 RX0 yX0_leavesOf wsX0_leavesOf) := goodIn_app (goodIn_of _ (by decide +kernel)) ggX3_parcelWithMostLeaves_X0_leavesOf
theorem dX3_parcelWithMostLeaves_0 : decode cX3_parcelWithMostLeaves 0 = .ok (.bipush (-6), 2) := by decide +kernel
theorem dX3_parcelWithMostLeaves_2 : decode cX3_parcelWithMostLeaves 2 = .ok (.istore_n 1, 1) := by decide +kernel
theorem dX3_parcelWithMostLeaves_3 : decode cX3_parcelWithMostLeaves 3 = .ok (.iconst 0, 1) := by decide +kernel
theorem dX3_parcelWithMostLeaves_4 : decode cX3_parcelWithMostLeaves 4 = .ok (.istore_n 2, 1) := by decide +kernel
theorem dX3_parcelWithMostLeaves_5 : decode cX3_parcelWithMostLeaves 5 = .ok (.iconst 0, 1) := by decide +kernel
theorem dX3_parcelWithMostLeaves_6 : decode cX3_parcelWithMostLeaves 6 = .ok (.istore_n 3, 1) := by decide +kernel
theorem dX3_parcelWithMostLeaves_7 : decode cX3_parcelWithMostLeaves 7 = .ok (.iload_n 3, 1) := by decide +kernel
theorem dX3_parcelWithMostLeaves_8 : decode cX3_parcelWithMostLeaves 8 = .ok (.aload_n 0, 1) := by decide +kernel
theorem dX3_parcelWithMostLeaves_9 : decode cX3_parcelWithMostLeaves 9 = .ok (.getfield 41, 3) := by decide +kernel
theorem dX3_parcelWithMostLeaves_12 : decode cX3_parcelWithMostLeaves 12 = .ok (.if_icmp .ge 30, 3) := by decide +kernel
theorem dX3_parcelWithMostLeaves_15 : decode cX3_parcelWithMostLeaves 15 = .ok (.aload_n 0, 1) := by decide +kernel
theorem dX3_parcelWithMostLeaves_16 : decode cX3_parcelWithMostLeaves 16 = .ok (.getfield 21, 3) := by decide +kernel
theorem dX3_parcelWithMostLeaves_19 : decode cX3_parcelWithMostLeaves 19 = .ok (.iload_n 3, 1) := by decide +kernel
theorem dX3_parcelWithMostLeaves_20 : decode cX3_parcelWithMostLeaves 20 = .ok (.invokevirtual 83, 3) := by decide +kernel
theorem dX3_parcelWithMostLeaves_23 : decode cX3_parcelWithMostLeaves 23 = .ok (.istore 4, 2) := by decide +kernel
theorem dX3_parcelWithMostLeaves_25 : decode cX3_parcelWithMostLeaves 25 = .ok (.iload 4, 2) := by decide +kernel
theorem dX3_parcelWithMostLeaves_27 : decode cX3_parcelWithMostLeaves 27 = .ok (.iload_n 2, 1) := by decide +kernel
theorem dX3_parcelWithMostLeaves_28 : decode cX3_parcelWithMostLeaves 28 = .ok (.if_icmp .le 8, 3) := by decide +kernel
theorem dX3_parcelWithMostLeaves_31 : decode cX3_parcelWithMostLeaves 31 = .ok (.iload_n 3, 1) := by decide +kernel
theorem dX3_parcelWithMostLeaves_32 : decode cX3_parcelWithMostLeaves 32 = .ok (.istore_n 1, 1) := by decide +kernel
theorem dX3_parcelWithMostLeaves_33 : decode cX3_parcelWithMostLeaves 33 = .ok (.iload 4, 2) := by decide +kernel
theorem dX3_parcelWithMostLeaves_35 : decode cX3_parcelWithMostLeaves 35 = .ok (.istore_n 2, 1) := by decide +kernel
theorem dX3_parcelWithMostLeaves_36 : decode cX3_parcelWithMostLeaves 36 = .ok (.iinc 3 1, 3) := by decide +kernel
theorem dX3_parcelWithMostLeaves_39 : decode cX3_parcelWithMostLeaves 39 = .ok (.goto (-32), 3) := by decide +kernel
theorem dX3_parcelWithMostLeaves_42 : decode cX3_parcelWithMostLeaves 42 = .ok (.iload_n 1, 1) := by decide +kernel
theorem dX3_parcelWithMostLeaves_43 : decode cX3_parcelWithMostLeaves 43 = .ok (.ireturn, 1) := by decide +kernel
set_option maxRecDepth 20000 in
theorem ggX4_init_X3_init : GoodIn wsX4_init wsX3_init := goodIn_r _ [25, 26, 2, 3, 27, 28, 29, 30, 21, 22, 31, 32, 33, 34, 35, 36, 37, 38, 51, 52, 53, 54, 55, 56, 57, 58, 70, 71] (by decide +kernel) (by decide +kernel)
set_option maxRecDepth 20000 in
theorem gX4_init_X3_init : GoodIn wsX4_init (wsX3_init) := ggX4_init_X3_init
set_option maxRecDepth 20000 in
theorem ggX4_init_X1_init : GoodIn wsX4_init wsX1_init := goodIn_r _ [41, 42, 2, 3, 43, 44, 5, 6, 45, 24, 25, 26, 27, 28, 29, 30, 21, 22, 31, 32, 33, 34, 35, 36, 37, 38, 65, 66, 67, 51, 52, 53, 54, 55, 56, 57, 58, 70, 71] (by decide +kernel) (by decide +kernel)
set_option maxRecDepth 20000 in
theorem gX4_init_X1_init : GoodIn wsX4_init (wsX1_init) := ggX4_init_X1_init
set_option maxRecDepth 20000 in
theorem ggX4_init_X2_init : GoodIn wsX4_init wsX2_init := goodIn_r _ [47, 48, 2, 3, 49, 50, 68, 69] (by decide +kernel) (by decide +kernel)
set_option maxRecDepth 20000 in
theorem gX4_init_X2_init_n33 : GoodIn wsX4_init (wsX2_init) := ggX4_init_X2_init
set_option maxRecDepth 20000 in
theorem ggX4_init_X0_init : GoodIn wsX4_init wsX0_init := goodIn_r _ [36, 37, 2, 3, 27, 38, 70, 71] (by decide +kernel) (by decide +kernel)
set_option maxRecDepth 20000 in
theorem gX4_init_X0_init_n44 : GoodIn wsX4_init (wsX0_init) := ggX4_init_X0_init
theorem dX4_init_0 : decode cX4_init 0 = .ok (.aload_n 0, 1) := by decide +kernel
theorem dX4_init_1 : decode cX4_init 1 = .ok (.invokespecial 1, 3) := by decide +kernel
theorem dX4_init_4 : decode cX4_init 4 = .ok (.aload_n 0, 1) := by decide +kernel
theorem dX4_init_5 : decode cX4_init 5 = .ok (.new 7, 3) := by decide +kernel
theorem dX4_init_8 : decode cX4_init 8 = .ok (.dup, 1) := by decide +kernel
theorem dX4_init_9 : decode cX4_init 9 = .ok (.invokespecial 9, 3) := by decide +kernel
theorem dX4_init_12 : decode cX4_init 12 = .ok (.putfield 10, 3) := by decide +kernel
theorem dX4_init_15 : decode cX4_init 15 = .ok (.aload_n 0, 1) := by decide +kernel
theorem dX4_init_16 : decode cX4_init 16 = .ok (.new 16, 3) := by decide +kernel
theorem dX4_init_19 : decode cX4_init 19 = .ok (.dup, 1) := by decide +kernel
theorem dX4_init_20 : decode cX4_init 20 = .ok (.invokespecial 18, 3) := by decide +kernel
theorem dX4_init_23 : decode cX4_init 23 = .ok (.putfield 19, 3) := by decide +kernel
theorem dX4_init_26 : decode cX4_init 26 = .ok (.aload_n 0, 1) := by decide +kernel
theorem dX4_init_27 : decode cX4_init 27 = .ok (.iconst 2, 1) := by decide +kernel
theorem dX4_init_28 : decode cX4_init 28 = .ok (.anewarray 7, 3) := by decide +kernel
theorem dX4_init_31 : decode cX4_init 31 = .ok (.putfield 23, 3) := by decide +kernel
theorem dX4_init_34 : decode cX4_init 34 = .ok (.aload_n 0, 1) := by decide +kernel
theorem dX4_init_35 : decode cX4_init 35 = .ok (.iconst 2, 1) := by decide +kernel
theorem dX4_init_36 : decode cX4_init 36 = .ok (.newarray .boolean, 2) := by decide +kernel
theorem dX4_init_38 : decode cX4_init 38 = .ok (.putfield 27, 3) := by decide +kernel
theorem dX4_init_41 : decode cX4_init 41 = .ok (.aload_n 0, 1) := by decide +kernel
theorem dX4_init_42 : decode cX4_init 42 = .ok (.new 31, 3) := by decide +kernel
theorem dX4_init_45 : decode cX4_init 45 = .ok (.dup, 1) := by decide +kernel
theorem dX4_init_46 : decode cX4_init 46 = .ok (.invokespecial 33, 3) := by decide +kernel
theorem dX4_init_49 : decode cX4_init 49 = .ok (.putfield 34, 3) := by decide +kernel
theorem dX4_init_52 : decode cX4_init 52 = .ok (.aload_n 0, 1) := by decide +kernel
theorem dX4_init_53 : decode cX4_init 53 = .ok (.iconst 4, 1) := by decide +kernel
theorem dX4_init_54 : decode cX4_init 54 = .ok (.anewarray 38, 3) := by decide +kernel
theorem dX4_init_57 : decode cX4_init 57 = .ok (.putfield 40, 3) := by decide +kernel
theorem dX4_init_60 : decode cX4_init 60 = .ok (.iconst 0, 1) := by decide +kernel
theorem dX4_init_61 : decode cX4_init 61 = .ok (.istore_n 1, 1) := by decide +kernel
theorem dX4_init_62 : decode cX4_init 62 = .ok (.iload_n 1, 1) := by decide +kernel
theorem dX4_init_63 : decode cX4_init 63 = .ok (.aload_n 0, 1) := by decide +kernel
theorem dX4_init_64 : decode cX4_init 64 = .ok (.getfield 23, 3) := by decide +kernel
theorem dX4_init_67 : decode cX4_init 67 = .ok (.arraylength, 1) := by decide +kernel
theorem dX4_init_68 : decode cX4_init 68 = .ok (.if_icmp .ge 22, 3) := by decide +kernel
theorem dX4_init_71 : decode cX4_init 71 = .ok (.aload_n 0, 1) := by decide +kernel
theorem dX4_init_72 : decode cX4_init 72 = .ok (.getfield 23, 3) := by decide +kernel
theorem dX4_init_75 : decode cX4_init 75 = .ok (.iload_n 1, 1) := by decide +kernel
theorem dX4_init_76 : decode cX4_init 76 = .ok (.new 7, 3) := by decide +kernel
theorem dX4_init_79 : decode cX4_init 79 = .ok (.dup, 1) := by decide +kernel
theorem dX4_init_80 : decode cX4_init 80 = .ok (.invokespecial 9, 3) := by decide +kernel
theorem dX4_init_83 : decode cX4_init 83 = .ok (.aastore, 1) := by decide +kernel
theorem dX4_init_84 : decode cX4_init 84 = .ok (.iinc 1 1, 3) := by decide +kernel
theorem dX4_init_87 : decode cX4_init 87 = .ok (.goto (-25), 3) := by decide +kernel
theorem dX4_init_90 : decode cX4_init 90 = .ok (.iconst 0, 1) := by decide +kernel
theorem dX4_init_91 : decode cX4_init 91 = .ok (.istore_n 1, 1) := by decide +kernel
theorem dX4_init_92 : decode cX4_init 92 = .ok (.iload_n 1, 1) := by decide +kernel
theorem dX4_init_93 : decode cX4_init 93 = .ok (.aload_n 0, 1) := by decide +kernel
theorem dX4_init_94 : decode cX4_init 94 = .ok (.getfield 40, 3) := by decide +kernel
theorem dX4_init_97 : decode cX4_init 97 = .ok (.arraylength, 1) := by decide +kernel
