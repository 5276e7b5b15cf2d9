set_option maxRecDepth 20000 in
theorem ggX6_init_X6_nearest : GoodIn wsX6_init wsX6_nearest := goodIn_r _ [29, 30, 31, 32, 33, 34, 35, 36] (by decide +kernel) (by decide +kernel)
set_option maxRecDepth 20000 in
theorem gX6_init_X6_nearest : GoodIn wsX6_init (va_wsS RX6 7 yX6_nearest wsX6_nearest) := goodIn_app (goodIn_of _ (by decide +kernel)) ggX6_init_X6_nearest
set_option maxRecDepth 20000 in
theorem ggX6_init_X3_init : GoodIn wsX6_init wsX3_init := goodIn_r _ [38, 39, 2, 3, 40, 41, 42, 43, 44, 124, 125, 126, 127, 128, 129, 130, 131] (by decide +kernel) (by decide +kernel)
set_option maxRecDepth 20000 in
theorem gX6_init_X3_init_n19 : GoodIn wsX6_init (wsX3_init) := ggX6_init_X3_init
set_option maxRecDepth 20000 in
theorem ggX6_init_X5_init : GoodIn wsX6_init wsX5_init := goodIn_r _ [46, 47, 2, 3] (by decide +kernel) (by decide +kernel)
set_option maxRecDepth 20000 in
theorem gX6_init_X5_init_n29 : GoodIn wsX6_init (wsX5_init) := ggX6_init_X5_init
set_option maxRecDepth 20000 in
theorem ggX6_init_X0_init : GoodIn wsX6_init wsX0_init := goodIn_r _ [50, 51, 2, 3, 40, 52, 53, 139, 140, 141, 142] (by decide +kernel) (by decide +kernel)
set_option maxRecDepth 20000 in
theorem gX6_init_X0_init : GoodIn wsX6_init (wsX0_init) := ggX6_init_X0_init
set_option maxRecDepth 20000 in
theorem ggX6_init_X4_init : GoodIn wsX6_init wsX4_init := goodIn_r _ [55, 56, 2, 3] (by decide +kernel) (by decide +kernel)
set_option maxRecDepth 20000 in
theorem gX6_init_X4_init_n45 : GoodIn wsX6_init (wsX4_init) := ggX6_init_X4_init
set_option maxRecDepth 20000 in
theorem ggX6_init_X1_init : GoodIn wsX6_init wsX1_init := goodIn_r _ [59, 60, 2, 3, 61, 62, 63, 64, 145, 146, 147, 148, 149] (by decide +kernel) (by decide +kernel)
set_option maxRecDepth 20000 in
theorem gX6_init_X1_init : GoodIn wsX6_init (wsX1_init) := ggX6_init_X1_init
set_option maxRecDepth 20000 in
theorem ggX6_init_X6_beginAnew : GoodIn wsX6_init wsX6_beginAnew := goodIn_r _ [68, 69, 70, 71, 72, 73, 74, 75, 76, 77, 78, 5, 17, 21, 25, 79, 80, 81, 7, 82, 83, 84, 85, 86, 87, 88, 89, 90, 91, 16, 92, 52, 93, 94, 95, 96, 97, 20, 98, 99, 100, 101, 102, 103, 24, 104, 105, 106, 107, 108, 109, 110, 111, 112, 113, 114, 115, 116, 117, 118, 119, 120, 121, 122, 123, 124, 125, 126, 127, 128, 129, 130, 131, 139, 140, 141, 142, 143, 144, 145, 146, 147, 148, 149] (by decide +kernel) (by decide +kernel)
set_option maxRecDepth 20000 in
theorem gX6_init_X6_beginAnew : GoodIn wsX6_init (wsV RX6 57 RX6 yX6_beginAnew wsX6_beginAnew) := goodIn_app (goodIn_of _ (by decide +kernel)) ggX6_init_X6_beginAnew
theorem dX6_init_0 : decode cX6_init 0 = .ok (.aload_n 0, 1) := by decide +kernel
theorem dX6_init_1 : decode cX6_init 1 = .ok (.invokespecial 1, 3) := by decide +kernel
theorem dX6_init_4 : decode cX6_init 4 = .ok (.aload_n 0, 1) := by decide +kernel
theorem dX6_init_5 : decode cX6_init 5 = .ok (.iload_n 1, 1) := by decide +kernel
theorem dX6_init_6 : decode cX6_init 6 = .ok (.iconst 1, 1) := by decide +kernel
theorem dX6_init_7 : decode cX6_init 7 = .ok (.iconst 4, 1) := by decide +kernel
theorem dX6_init_8 : decode cX6_init 8 = .ok (.invokestatic 7, 3) := by decide +kernel
theorem dX6_init_11 : decode cX6_init 11 = .ok (.anewarray 13, 3) := by decide +kernel
theorem dX6_init_14 : decode cX6_init 14 = .ok (.putfield 15, 3) := by decide +kernel
theorem dX6_init_17 : decode cX6_init 17 = .ok (.iconst 0, 1) := by decide +kernel
theorem dX6_init_18 : decode cX6_init 18 = .ok (.istore 6, 2) := by decide +kernel
theorem dX6_init_20 : decode cX6_init 20 = .ok (.iload 6, 2) := by decide +kernel
theorem dX6_init_22 : decode cX6_init 22 = .ok (.aload_n 0, 1) := by decide +kernel
theorem dX6_init_23 : decode cX6_init 23 = .ok (.getfield 15, 3) := by decide +kernel
theorem dX6_init_26 : decode cX6_init 26 = .ok (.arraylength, 1) := by decide +kernel
theorem dX6_init_27 : decode cX6_init 27 = .ok (.if_icmp .ge 23, 3) := by decide +kernel
theorem dX6_init_30 : decode cX6_init 30 = .ok (.aload_n 0, 1) := by decide +kernel
theorem dX6_init_31 : decode cX6_init 31 = .ok (.getfield 15, 3) := by decide +kernel
theorem dX6_init_34 : decode cX6_init 34 = .ok (.iload 6, 2) := by decide +kernel
theorem dX6_init_36 : decode cX6_init 36 = .ok (.new 13, 3) := by decide +kernel
theorem dX6_init_39 : decode cX6_init 39 = .ok (.dup, 1) := by decide +kernel
theorem dX6_init_40 : decode cX6_init 40 = .ok (.invokespecial 19, 3) := by decide +kernel
theorem dX6_init_43 : decode cX6_init 43 = .ok (.aastore, 1) := by decide +kernel
theorem dX6_init_44 : decode cX6_init 44 = .ok (.iinc 6 1, 3) := by decide +kernel
theorem dX6_init_47 : decode cX6_init 47 = .ok (.goto (-27), 3) := by decide +kernel
theorem dX6_init_50 : decode cX6_init 50 = .ok (.aload_n 0, 1) := by decide +kernel
theorem dX6_init_51 : decode cX6_init 51 = .ok (.iload_n 3, 1) := by decide +kernel
theorem dX6_init_52 : decode cX6_init 52 = .ok (.iconst 1, 1) := by decide +kernel
theorem dX6_init_53 : decode cX6_init 53 = .ok (.sipush 4000, 3) := by decide +kernel
theorem dX6_init_56 : decode cX6_init 56 = .ok (.invokestatic 7, 3) := by decide +kernel
theorem dX6_init_59 : decode cX6_init 59 = .ok (.bipush 100, 2) := by decide +kernel
theorem dX6_init_61 : decode cX6_init 61 = .ok (.imul, 1) := by decide +kernel
theorem dX6_init_62 : decode cX6_init 62 = .ok (.putfield 20, 3) := by decide +kernel
theorem dX6_init_65 : decode cX6_init 65 = .ok (.aload_n 0, 1) := by decide +kernel
theorem dX6_init_66 : decode cX6_init 66 = .ok (.iload 5, 2) := by decide +kernel
theorem dX6_init_68 : decode cX6_init 68 = .ok (.iconst 1, 1) := by decide +kernel
theorem dX6_init_69 : decode cX6_init 69 = .ok (.bipush 50, 2) := by decide +kernel
theorem dX6_init_71 : decode cX6_init 71 = .ok (.invokestatic 7, 3) := by decide +kernel
theorem dX6_init_74 : decode cX6_init 74 = .ok (.putfield 24, 3) := by decide +kernel
theorem dX6_init_77 : decode cX6_init 77 = .ok (.aload_n 0, 1) := by decide +kernel
theorem dX6_init_78 : decode cX6_init 78 = .ok (.new 27, 3) := by decide +kernel
theorem dX6_init_81 : decode cX6_init 81 = .ok (.dup, 1) := by decide +kernel
theorem dX6_init_82 : decode cX6_init 82 = .ok (.invokespecial 29, 3) := by decide +kernel
theorem dX6_init_85 : decode cX6_init 85 = .ok (.putfield 30, 3) := by decide +kernel
theorem dX6_init_88 : decode cX6_init 88 = .ok (.aload_n 0, 1) := by decide +kernel
theorem dX6_init_89 : decode cX6_init 89 = .ok (.new 34, 3) := by decide +kernel
theorem dX6_init_92 : decode cX6_init 92 = .ok (.dup, 1) := by decide +kernel
theorem dX6_init_93 : decode cX6_init 93 = .ok (.iload 4, 2) := by decide +kernel
theorem dX6_init_95 : decode cX6_init 95 = .ok (.iconst 1, 1) := by decide +kernel
theorem dX6_init_96 : decode cX6_init 96 = .ok (.bipush 20, 2) := by decide +kernel
theorem dX6_init_98 : decode cX6_init 98 = .ok (.invokestatic 7, 3) := by decide +kernel
theorem dX6_init_101 : decode cX6_init 101 = .ok (.invokespecial 36, 3) := by decide +kernel
theorem dX6_init_104 : decode cX6_init 104 = .ok (.putfield 39, 3) := by decide +kernel
theorem dX6_init_107 : decode cX6_init 107 = .ok (.aload_n 0, 1) := by decide +kernel
theorem dX6_init_108 : decode cX6_init 108 = .ok (.new 43, 3) := by decide +kernel
theorem dX6_init_111 : decode cX6_init 111 = .ok (.dup, 1) := by decide +kernel
theorem dX6_init_112 : decode cX6_init 112 = .ok (.invokespecial 45, 3) := by decide +kernel
theorem dX6_init_115 : decode cX6_init 115 = .ok (.putfield 46, 3) := by decide +kernel
theorem dX6_init_118 : decode cX6_init 118 = .ok (.aload_n 0, 1) := by decide +kernel
theorem dX6_init_119 : decode cX6_init 119 = .ok (.new 50, 3) := by decide +kernel
theorem dX6_init_122 : decode cX6_init 122 = .ok (.dup, 1) := by decide +kernel
theorem dX6_init_123 : decode cX6_init 123 = .ok (.iload_n 2, 1) := by decide +kernel
theorem dX6_init_124 : decode cX6_init 124 = .ok (.iconst 2, 1) := by decide +kernel
theorem dX6_init_125 : decode cX6_init 125 = .ok (.bipush 16, 2) := by decide +kernel
theorem dX6_init_127 : decode cX6_init 127 = .ok (.invokestatic 7, 3) := by decide +kernel
theorem dX6_init_130 : decode cX6_init 130 = .ok (.invokespecial 52, 3) := by decide +kernel
theorem dX6_init_133 : decode cX6_init 133 = .ok (.putfield 53, 3) := by decide +kernel
theorem dX6_init_136 : decode cX6_init 136 = .ok (.aload_n 0, 1) := by decide +kernel
theorem dX6_init_137 : decode cX6_init 137 = .ok (.invokevirtual 57, 3) := by decide +kernel
theorem dX6_init_140 : decode cX6_init 140 = .ok (.return_, 1) := by decide +kernel
theorem dX6_chips_0 : decode cX6_chips 0 = .ok (.aload_n 0, 1) := by decide +kernel
theorem dX6_chips_1 : decode cX6_chips 1 = .ok (.getfield 15, 3) := by decide +kernel
theorem dX6_chips_4 : decode cX6_chips 4 = .ok (.arraylength, 1) := by decide +kernel
theorem dX6_chips_5 : decode cX6_chips 5 = .ok (.ireturn, 1) := by decide +kernel
set_option maxRecDepth 20000 in
theorem ggX6_seal_X2_ofReply : GoodIn wsX6_seal wsX2_ofReply := goodIn_r _ [4, 5, 6, 3, 7] (by decide +kernel) (by decide +kernel)
set_option maxRecDepth 20000 in
theorem gX6_seal_X2_ofReply : GoodIn wsX6_seal (va_wsS RX6 60 yX2_ofReply wsX2_ofReply) := goodIn_app (goodIn_of _ (by decide +kernel)) ggX6_seal_X2_ofReply
theorem dX6_seal_0 : decode cX6_seal 0 = .ok (.lload_n 1, 1) := by decide +kernel
theorem dX6_seal_1 : decode cX6_seal 1 = .ok (.lload_n 3, 1) := by decide +kernel
theorem dX6_seal_2 : decode cX6_seal 2 = .ok (.invokestatic 60, 3) := by decide +kernel
theorem dX6_seal_5 : decode cX6_seal 5 = .ok (.ireturn, 1) := by decide +kernel
set_option maxRecDepth 20000 in
theorem ggX6_reply_X6_needChip : GoodIn wsX6_reply wsX6_needChip := goodIn_ca (goodIn_r _ [8, 2, 9, 10, 7, 11, 12, 13, 47, 48, 49, 50, 51, 52, 53, 54, 55, 56, 57, 58, 59, 60, 61, 62, 63] (by decide +kernel) (by decide +kernel)) (goodIn_sub (fun _ h => List.mem_cons_of_mem _ (List.mem_append_left _ (List.mem_append_right _ h))) (by decide +kernel))
set_option maxRecDepth 20000 in
theorem gX6_reply_X6_needChip : GoodIn wsX6_reply (wsV RX6 66 RX6 yX6_needChip wsX6_needChip) := goodIn_app (goodIn_of _ (by decide +kernel)) ggX6_reply_X6_needChip
set_option maxRecDepth 20000 in
theorem ggX6_reply_X6_needPower : GoodIn wsX6_reply wsX6_needPower := goodIn_ca (goodIn_r _ [17, 18, 19, 20, 47, 48, 49, 50, 51, 52, 53, 54, 55, 56, 57, 58, 59, 60, 61, 62, 63] (by decide +kernel) (by decide +kernel)) (goodIn_sub (fun _ h => List.mem_cons_of_mem _ (List.mem_append_right _ h)) (by decide +kernel))
set_option maxRecDepth 20000 in
theorem gX6_reply_X6_needPower : GoodIn wsX6_reply (wsV RX6 69 RX6 yX6_needPower wsX6_needPower) := goodIn_app (goodIn_of _ (by decide +kernel)) ggX6_reply_X6_needPower
set_option maxRecDepth 20000 in
theorem ggX6_reply_X2_ofReply : GoodIn wsX6_reply wsX2_ofReply := goodIn_r _ [24, 25, 26, 23, 27] (by decide +kernel) (by decide +kernel)
set_option maxRecDepth 20000 in
theorem gX6_reply_X2_ofReply : GoodIn wsX6_reply (va_wsS RX6 60 yX2_ofReply wsX2_ofReply) := goodIn_app (goodIn_of _ (by decide +kernel)) ggX6_reply_X2_ofReply
set_option maxRecDepth 20000 in
theorem ggX6_reply_X3_take : GoodIn wsX6_reply wsX3_take := goodIn_r _ [32, 33, 34, 35, 36, 37, 38, 39, 40, 41, 31, 42, 43, 44, 45, 46, 64, 65, 66, 67, 68, 69, 70, 71] (by decide +kernel) (by decide +kernel)
set_option maxRecDepth 20000 in
theorem gX6_reply_X3_take : GoodIn wsX6_reply (wsV RX6 78 RX3 yX3_take wsX3_take) := goodIn_app (goodIn_of _ (by decide +kernel)) ggX6_reply_X3_take
theorem dX6_reply_0 : decode cX6_reply 0 = .ok (.aload_n 0, 1) := by decide +kernel
theorem dX6_reply_1 : decode cX6_reply 1 = .ok (.iload_n 1, 1) := by decide +kernel
theorem dX6_reply_2 : decode cX6_reply 2 = .ok (.invokevirtual 66, 3) := by decide +kernel
theorem dX6_reply_5 : decode cX6_reply 5 = .ok (.aload_n 0, 1) := by decide +kernel
theorem dX6_reply_6 : decode cX6_reply 6 = .ok (.invokevirtual 69, 3) := by decide +kernel
theorem dX6_reply_9 : decode cX6_reply 9 = .ok (.lload 4, 2) := by decide +kernel
theorem dX6_reply_11 : decode cX6_reply 11 = .ok (.ldc2_w 72, 3) := by decide +kernel
theorem dX6_reply_14 : decode cX6_reply 14 = .ok (.land, 1) := by decide +kernel
theorem dX6_reply_15 : decode cX6_reply 15 = .ok (.lload_n 2, 1) := by decide +kernel
theorem dX6_reply_16 : decode cX6_reply 16 = .ok (.lload 4, 2) := by decide +kernel
theorem dX6_reply_18 : decode cX6_reply 18 = .ok (.invokestatic 60, 3) := by decide +kernel
theorem dX6_reply_21 : decode cX6_reply 21 = .ok (.i2l, 1) := by decide +kernel
theorem dX6_reply_22 : decode cX6_reply 22 = .ok (.lcmp, 1) := by decide +kernel
theorem dX6_reply_23 : decode cX6_reply 23 = .ok (.ifCond .eq 5, 3) := by decide +kernel
theorem dX6_reply_26 : decode cX6_reply 26 = .ok (.iconst 0, 1) := by decide +kernel
theorem dX6_reply_27 : decode cX6_reply 27 = .ok (.ireturn, 1) := by decide +kernel
theorem dX6_reply_28 : decode cX6_reply 28 = .ok (.aload_n 0, 1) := by decide +kernel
theorem dX6_reply_29 : decode cX6_reply 29 = .ok (.getfield 15, 3) := by decide +kernel
theorem dX6_reply_32 : decode cX6_reply 32 = .ok (.iload_n 1, 1) := by decide +kernel
theorem dX6_reply_33 : decode cX6_reply 33 = .ok (.aaload, 1) := by decide +kernel
theorem dX6_reply_34 : decode cX6_reply 34 = .ok (.lload_n 2, 1) := by decide +kernel
theorem dX6_reply_35 : decode cX6_reply 35 = .ok (.lload 4, 2) := by decide +kernel
theorem dX6_reply_37 : decode cX6_reply 37 = .ok (.aload_n 0, 1) := by decide +kernel
theorem dX6_reply_38 : decode cX6_reply 38 = .ok (.getfield 74, 3) := by decide +kernel
theorem dX6_reply_41 : decode cX6_reply 41 = .ok (.invokevirtual 78, 3) := by decide +kernel
theorem dX6_reply_44 : decode cX6_reply 44 = .ok (.iconst 1, 1) := by decide +kernel
theorem dX6_reply_45 : decode cX6_reply 45 = .ok (.ireturn, 1) := by decide +kernel
set_option maxRecDepth 20000 in
theorem ggX6_current_X6_needAmount : GoodIn wsX6_current wsX6_needAmount := goodIn_ca (goodIn_r _ [5, 6, 7, 8] (by decide +kernel) (by decide +kernel)) (goodIn_sub (fun _ h => List.mem_cons_of_mem _ (List.mem_append_left _ (List.mem_append_right _ h))) (by decide +kernel))
set_option maxRecDepth 20000 in
theorem gX6_current_X6_needAmount : GoodIn wsX6_current (va_wsS RX6 82 yX6_needAmount wsX6_needAmount) := goodIn_app (goodIn_of _ (by decide +kernel)) ggX6_current_X6_needAmount
set_option maxRecDepth 20000 in
theorem ggX6_current_X6_needPower : GoodIn wsX6_current wsX6_needPower := goodIn_ca (goodIn_r _ [12, 13, 14, 15, 16, 17, 18, 19, 20, 21, 22, 23, 24, 25, 26, 27, 28, 29, 30, 31, 32] (by decide +kernel) (by decide +kernel)) (goodIn_sub (fun _ h => List.mem_cons_of_mem _ (List.mem_append_right _ h)) (by decide +kernel))
set_option maxRecDepth 20000 in
theorem gX6_current_X6_needPower : GoodIn wsX6_current (wsV RX6 69 RX6 yX6_needPower wsX6_needPower) := goodIn_app (goodIn_of _ (by decide +kernel)) ggX6_current_X6_needPower
theorem dX6_current_0 : decode cX6_current 0 = .ok (.dload_n 1, 1) := by decide +kernel
theorem dX6_current_1 : decode cX6_current 1 = .ok (.sipush (-2000), 3) := by decide +kernel
theorem dX6_current_4 : decode cX6_current 4 = .ok (.sipush 2000, 3) := by decide +kernel
theorem dX6_current_7 : decode cX6_current 7 = .ok (.invokestatic 82, 3) := by decide +kernel
theorem dX6_current_10 : decode cX6_current 10 = .ok (.aload_n 0, 1) := by decide +kernel
theorem dX6_current_11 : decode cX6_current 11 = .ok (.invokevirtual 69, 3) := by decide +kernel
theorem dX6_current_14 : decode cX6_current 14 = .ok (.aload_n 0, 1) := by decide +kernel
theorem dX6_current_15 : decode cX6_current 15 = .ok (.dload_n 1, 1) := by decide +kernel
theorem dX6_current_16 : decode cX6_current 16 = .ok (.putfield 74, 3) := by decide +kernel
theorem dX6_current_19 : decode cX6_current 19 = .ok (.return_, 1) := by decide +kernel
set_option maxRecDepth 20000 in
theorem ggX6_warm_X6_needChip : GoodIn wsX6_warm wsX6_needChip := goodIn_ca (goodIn_r _ [7, 1, 8, 9, 6, 10, 11, 12, 26, 27, 28, 29, 30, 31, 32, 33, 34, 35, 36, 37, 38, 39, 40, 41, 42] (by decide +kernel) (by decide +kernel)) (goodIn_sub (fun _ h => List.mem_cons_of_mem _ (List.mem_append_left _ (List.mem_append_left _ (List.mem_append_right _ h)))) (by decide +kernel))
set_option maxRecDepth 20000 in
theorem gX6_warm_X6_needChip : GoodIn wsX6_warm (wsV RX6 66 RX6 yX6_needChip wsX6_needChip) := goodIn_app (goodIn_of _ (by decide +kernel)) ggX6_warm_X6_needChip
set_option maxRecDepth 20000 in
theorem ggX6_warm_X6_needAmount : GoodIn wsX6_warm wsX6_needAmount := goodIn_ca (goodIn_r _ [15, 16, 17, 18] (by decide +kernel) (by decide +kernel)) (goodIn_sub (fun _ h => List.mem_cons_of_mem _ (List.mem_append_left _ (List.mem_append_right _ h))) (by decide +kernel))
set_option maxRecDepth 20000 in
theorem gX6_warm_X6_needAmount : GoodIn wsX6_warm (va_wsS RX6 82 yX6_needAmount wsX6_needAmount) := goodIn_app (goodIn_of _ (by decide +kernel)) ggX6_warm_X6_needAmount
set_option maxRecDepth 20000 in
theorem ggX6_warm_X6_needPower : GoodIn wsX6_warm wsX6_needPower := goodIn_ca (goodIn_r _ [22, 23, 24, 25, 26, 27, 28, 29, 30, 31, 32, 33, 34, 35, 36, 37, 38, 39, 40, 41, 42] (by decide +kernel) (by decide +kernel)) (goodIn_sub (fun _ h => List.mem_cons_of_mem _ (List.mem_append_right _ h)) (by decide +kernel))
set_option maxRecDepth 20000 in
theorem gX6_warm_X6_needPower : GoodIn wsX6_warm (wsV RX6 69 RX6 yX6_needPower wsX6_needPower) := goodIn_app (goodIn_of _ (by decide +kernel)) ggX6_warm_X6_needPower
theorem dX6_warm_0 : decode cX6_warm 0 = .ok (.aload_n 0, 1) := by decide +kernel
theorem dX6_warm_1 : decode cX6_warm 1 = .ok (.iload_n 1, 1) := by decide +kernel
theorem dX6_warm_2 : decode cX6_warm 2 = .ok (.invokevirtual 66, 3) := by decide +kernel
theorem dX6_warm_5 : decode cX6_warm 5 = .ok (.dload_n 2, 1) := by decide +kernel
theorem dX6_warm_6 : decode cX6_warm 6 = .ok (.bipush (-100), 2) := by decide +kernel
theorem dX6_warm_8 : decode cX6_warm 8 = .ok (.sipush 200, 3) := by decide +kernel
theorem dX6_warm_11 : decode cX6_warm 11 = .ok (.invokestatic 82, 3) := by decide +kernel
theorem dX6_warm_14 : decode cX6_warm 14 = .ok (.aload_n 0, 1) := by decide +kernel
theorem dX6_warm_15 : decode cX6_warm 15 = .ok (.invokevirtual 69, 3) := by decide +kernel
theorem dX6_warm_18 : decode cX6_warm 18 = .ok (.aload_n 0, 1) := by decide +kernel
theorem dX6_warm_19 : decode cX6_warm 19 = .ok (.getfield 15, 3) := by decide +kernel
theorem dX6_warm_22 : decode cX6_warm 22 = .ok (.iload_n 1, 1) := by decide +kernel
theorem dX6_warm_23 : decode cX6_warm 23 = .ok (.aaload, 1) := by decide +kernel
theorem dX6_warm_24 : decode cX6_warm 24 = .ok (.dload_n 2, 1) := by decide +kernel
theorem dX6_warm_25 : decode cX6_warm 25 = .ok (.putfield 86, 3) := by decide +kernel
theorem dX6_warm_28 : decode cX6_warm 28 = .ok (.return_, 1) := by decide +kernel
set_option maxRecDepth 20000 in
theorem ggX6_bus_X6_needWhole : GoodIn wsX6_bus wsX6_needWhole := goodIn_ca (goodIn_r _ [6, 7, 8] (by decide +kernel) (by decide +kernel)) (goodIn_sub (fun _ h => List.mem_cons_of_mem _ (List.mem_append_left _ (List.mem_append_right _ h))) (by decide +kernel))
set_option maxRecDepth 20000 in
theorem gX6_bus_X6_needWhole : GoodIn wsX6_bus (va_wsS RX6 90 yX6_needWhole wsX6_needWhole) := goodIn_app (goodIn_of _ (by decide +kernel)) ggX6_bus_X6_needWhole
set_option maxRecDepth 20000 in
theorem ggX6_bus_X6_needPower : GoodIn wsX6_bus wsX6_needPower := goodIn_ca (goodIn_r _ [12, 13, 14, 15, 16, 17, 18, 19, 20, 21, 22, 23, 24, 25, 26, 27, 28, 29, 30, 31, 32] (by decide +kernel) (by decide +kernel)) (goodIn_sub (fun _ h => List.mem_cons_of_mem _ (List.mem_append_right _ h)) (by decide +kernel))
set_option maxRecDepth 20000 in
theorem gX6_bus_X6_needPower : GoodIn wsX6_bus (wsV RX6 69 RX6 yX6_needPower wsX6_needPower) := goodIn_app (goodIn_of _ (by decide +kernel)) ggX6_bus_X6_needPower
theorem dX6_bus_0 : decode cX6_bus 0 = .ok (.iload_n 1, 1) := by decide +kernel
theorem dX6_bus_1 : decode cX6_bus 1 = .ok (.iconst 0, 1) := by decide +kernel
theorem dX6_bus_2 : decode cX6_bus 2 = .ok (.ldc 89, 2) := by decide +kernel
theorem dX6_bus_4 : decode cX6_bus 4 = .ok (.invokestatic 90, 3) := by decide +kernel
theorem dX6_bus_7 : decode cX6_bus 7 = .ok (.aload_n 0, 1) := by decide +kernel
theorem dX6_bus_8 : decode cX6_bus 8 = .ok (.invokevirtual 69, 3) := by decide +kernel
theorem dX6_bus_11 : decode cX6_bus 11 = .ok (.aload_n 0, 1) := by decide +kernel
theorem dX6_bus_12 : decode cX6_bus 12 = .ok (.iload_n 1, 1) := by decide +kernel
theorem dX6_bus_13 : decode cX6_bus 13 = .ok (.putfield 94, 3) := by decide +kernel
theorem dX6_bus_16 : decode cX6_bus 16 = .ok (.return_, 1) := by decide +kernel
set_option maxRecDepth 20000 in
theorem ggX6_want_X6_needPower : GoodIn wsX6_want wsX6_needPower := goodIn_ca (goodIn_r _ [6, 7, 8, 9, 10, 11, 12, 13, 14, 15, 16, 17, 18, 19, 20, 21, 22, 23, 24, 25, 26] (by decide +kernel) (by decide +kernel)) (goodIn_sub (fun _ h => List.mem_cons_of_mem _ (List.mem_append_right _ h)) (by decide +kernel))
set_option maxRecDepth 20000 in
theorem gX6_want_X6_needPower : GoodIn wsX6_want (wsV RX6 69 RX6 yX6_needPower wsX6_needPower) := goodIn_app (goodIn_of _ (by decide +kernel)) ggX6_want_X6_needPower
theorem dX6_want_0 : decode cX6_want 0 = .ok (.aload_n 0, 1) := by decide +kernel
theorem dX6_want_1 : decode cX6_want 1 = .ok (.invokevirtual 69, 3) := by decide +kernel
theorem dX6_want_4 : decode cX6_want 4 = .ok (.aload_n 0, 1) := by decide +kernel
theorem dX6_want_5 : decode cX6_want 5 = .ok (.iload_n 1, 1) := by decide +kernel
theorem dX6_want_6 : decode cX6_want 6 = .ok (.putfield 97, 3) := by decide +kernel
theorem dX6_want_9 : decode cX6_want 9 = .ok (.return_, 1) := by decide +kernel
set_option maxRecDepth 20000 in
theorem ggX6_set_X6_needAmount : GoodIn wsX6_set wsX6_needAmount := goodIn_ca (goodIn_r _ [6, 7, 8, 9] (by decide +kernel) (by decide +kernel)) (goodIn_sub (fun _ h => List.mem_cons_of_mem _ (List.mem_append_left _ (List.mem_append_right _ h))) (by decide +kernel))
set_option maxRecDepth 20000 in
theorem gX6_set_X6_needAmount : GoodIn wsX6_set (va_wsS RX6 82 yX6_needAmount wsX6_needAmount) := goodIn_app (goodIn_of _ (by decide +kernel)) ggX6_set_X6_needAmount
set_option maxRecDepth 20000 in
theorem ggX6_set_X6_needPower : GoodIn wsX6_set wsX6_needPower := goodIn_ca (goodIn_r _ [13, 14, 15, 16, 17, 18, 19, 20, 21, 22, 23, 24, 25, 26, 27, 28, 29, 30, 31, 32, 33] (by decide +kernel) (by decide +kernel)) (goodIn_sub (fun _ h => List.mem_cons_of_mem _ (List.mem_append_right _ h)) (by decide +kernel))
set_option maxRecDepth 20000 in
theorem gX6_set_X6_needPower : GoodIn wsX6_set (wsV RX6 69 RX6 yX6_needPower wsX6_needPower) := goodIn_app (goodIn_of _ (by decide +kernel)) ggX6_set_X6_needPower
theorem dX6_set_0 : decode cX6_set 0 = .ok (.dload_n 1, 1) := by decide +kernel
theorem dX6_set_1 : decode cX6_set 1 = .ok (.iconst 0, 1) := by decide +kernel
theorem dX6_set_2 : decode cX6_set 2 = .ok (.aload_n 0, 1) := by decide +kernel
theorem dX6_set_3 : decode cX6_set 3 = .ok (.getfield 20, 3) := by decide +kernel
theorem dX6_set_6 : decode cX6_set 6 = .ok (.invokestatic 82, 3) := by decide +kernel
theorem dX6_set_9 : decode cX6_set 9 = .ok (.aload_n 0, 1) := by decide +kernel
theorem dX6_set_10 : decode cX6_set 10 = .ok (.invokevirtual 69, 3) := by decide +kernel
theorem dX6_set_13 : decode cX6_set 13 = .ok (.aload_n 0, 1) := by decide +kernel
theorem dX6_set_14 : decode cX6_set 14 = .ok (.dload_n 1, 1) := by decide +kernel
theorem dX6_set_15 : decode cX6_set 15 = .ok (.putfield 101, 3) := by decide +kernel
theorem dX6_set_18 : decode cX6_set 18 = .ok (.return_, 1) := by decide +kernel
set_option maxRecDepth 20000 in
theorem ggX6_tick_X6_needWhole : GoodIn wsX6_tick wsX6_needWhole := goodIn_ca (goodIn_r _ [7, 8, 9] (by decide +kernel) (by decide +kernel)) (goodIn_sub (fun _ h => List.mem_cons_of_mem _ (List.mem_append_left _ (List.mem_append_right _ h))) (by decide +kernel))
set_option maxRecDepth 20000 in
theorem gX6_tick_X6_needWhole : GoodIn wsX6_tick (va_wsS RX6 90 yX6_needWhole wsX6_needWhole) := goodIn_app (goodIn_of _ (by decide +kernel)) ggX6_tick_X6_needWhole
set_option maxRecDepth 20000 in
theorem ggX6_tick_X6_needPower : GoodIn wsX6_tick wsX6_needPower := goodIn_ca (goodIn_r _ [13, 14, 15, 1, 243, 244, 245, 246, 247, 248, 249, 250, 251, 252, 253, 254, 255, 256, 257, 258, 259] (by decide +kernel) (by decide +kernel)) (goodIn_sub (fun _ h => List.mem_cons_of_mem _ (List.mem_append_right _ h)) (by decide +kernel))
set_option maxRecDepth 20000 in
theorem gX6_tick_X6_needPower : GoodIn wsX6_tick (wsV RX6 69 RX6 yX6_needPower wsX6_needPower) := goodIn_app (goodIn_of _ (by decide +kernel)) ggX6_tick_X6_needPower
set_option maxRecDepth 20000 in
theorem ggX6_tick_X6_passOneTick : GoodIn wsX6_tick wsX6_passOneTick := goodIn_r _ [19, 20, 21, 22, 23, 2, 24, 25, 26, 27, 28, 29, 30, 31, 32, 33, 34, 35, 36, 37, 38, 39, 40, 41, 42, 43, 44, 45, 46, 47, 48, 49, 50, 51, 52, 53, 54, 55, 56, 57, 58, 59, 60, 61, 62, 63, 64, 65, 66, 67, 68, 69, 70, 71, 72, 73, 74, 75, 76, 77, 78, 79, 80, 81, 82, 83, 84, 6, 85, 86, 87, 88, 89, 90, 91, 92, 93, 94, 95, 96, 97, 98, 99, 100, 101, 102, 103, 104, 105, 106, 107, 108, 109, 110, 111, 112, 113, 114, 115, 116, 117, 118, 119, 120, 121, 122, 123, 124, 125, 126, 127, 128, 129, 130, 131, 132, 133, 134, 135, 136, 137, 138, 139, 140, 141, 142, 143, 144, 145, 146, 147, 148, 149, 150, 151, 152, 153, 154, 155, 156, 157, 158, 159, 160, 161, 162, 163, 164, 165, 166, 167, 168, 169, 170, 171, 172, 173, 174, 175, 176, 177, 178, 179, 180, 181, 182, 183, 184, 185, 186, 187, 188, 189, 190, 191, 192, 193, 194, 195, 196, 197, 3, 198, 199, 200, 201, 202, 203, 204, 205, 206, 207, 208, 209, 210, 211, 1, 212, 213, 214, 215, 216, 217, 218, 219, 220, 221, 222, 223, 224, 225, 226, 227, 228, 229, 230, 231, 232, 233, 234, 235, 236, 237, 238, 239, 240, 241, 242, 243, 244, 245, 246, 247, 248, 249, 250, 251, 252, 253, 254, 255, 256, 257, 258, 259, 262, 263, 264, 265, 266, 267, 268, 269, 270, 271, 272, 273, 274, 275, 276, 277, 278, 279, 280, 260, 261, 281, 282, 283, 284, 285] (by decide +kernel) (by decide +kernel)
set_option maxRecDepth 20000 in
theorem gX6_tick_X6_passOneTick : GoodIn wsX6_tick (wsV RX6 107 RX6 yX6_passOneTick wsX6_passOneTick) := goodIn_app (goodIn_of _ (by decide +kernel)) ggX6_tick_X6_passOneTick
theorem dX6_tick_0 : decode cX6_tick 0 = .ok (.iload_n 1, 1) := by decide +kernel
theorem dX6_tick_1 : decode cX6_tick 1 = .ok (.iconst 1, 1) := by decide +kernel
theorem dX6_tick_2 : decode cX6_tick 2 = .ok (.bipush 100, 2) := by decide +kernel
theorem dX6_tick_4 : decode cX6_tick 4 = .ok (.invokestatic 90, 3) := by decide +kernel
theorem dX6_tick_7 : decode cX6_tick 7 = .ok (.aload_n 0, 1) := by decide +kernel
theorem dX6_tick_8 : decode cX6_tick 8 = .ok (.invokevirtual 69, 3) := by decide +kernel
theorem dX6_tick_11 : decode cX6_tick 11 = .ok (.iconst 0, 1) := by decide +kernel
theorem dX6_tick_12 : decode cX6_tick 12 = .ok (.istore_n 2, 1) := by decide +kernel
theorem dX6_tick_13 : decode cX6_tick 13 = .ok (.iload_n 2, 1) := by decide +kernel
theorem dX6_tick_14 : decode cX6_tick 14 = .ok (.iload_n 1, 1) := by decide +kernel
theorem dX6_tick_15 : decode cX6_tick 15 = .ok (.if_icmp .ge 20, 3) := by decide +kernel
theorem dX6_tick_18 : decode cX6_tick 18 = .ok (.aload_n 0, 1) := by decide +kernel
theorem dX6_tick_19 : decode cX6_tick 19 = .ok (.getfield 104, 3) := by decide +kernel
theorem dX6_tick_22 : decode cX6_tick 22 = .ok (.ifCond .ne 13, 3) := by decide +kernel
theorem dX6_tick_25 : decode cX6_tick 25 = .ok (.aload_n 0, 1) := by decide +kernel
theorem dX6_tick_26 : decode cX6_tick 26 = .ok (.invokevirtual 107, 3) := by decide +kernel
theorem dX6_tick_29 : decode cX6_tick 29 = .ok (.iinc 2 1, 3) := by decide +kernel
theorem dX6_tick_32 : decode cX6_tick 32 = .ok (.goto (-19), 3) := by decide +kernel
theorem dX6_tick_35 : decode cX6_tick 35 = .ok (.aload_n 0, 1) := by decide +kernel
theorem dX6_tick_36 : decode cX6_tick 36 = .ok (.getfield 46, 3) := by decide +kernel
theorem dX6_tick_39 : decode cX6_tick 39 = .ok (.getfield 110, 3) := by decide +kernel
theorem dX6_tick_42 : decode cX6_tick 42 = .ok (.ireturn, 1) := by decide +kernel
set_option maxRecDepth 20000 in
theorem ggX6_reset_X6_needIndex : GoodIn wsX6_reset wsX6_needIndex := goodIn_ca (goodIn_r _ [7, 8, 9] (by decide +kernel) (by decide +kernel)) (goodIn_sub (fun _ h => List.mem_cons_of_mem _ (List.mem_append_left _ (List.mem_append_right _ h))) (by decide +kernel))
set_option maxRecDepth 20000 in
theorem gX6_reset_X6_needIndex : GoodIn wsX6_reset (va_wsS RX6 113 yX6_needIndex wsX6_needIndex) := goodIn_app (goodIn_of _ (by decide +kernel)) ggX6_reset_X6_needIndex
set_option maxRecDepth 20000 in
theorem ggX6_reset_X6_needPower : GoodIn wsX6_reset wsX6_needPower := goodIn_ca (goodIn_r _ [13, 14, 15, 16, 28, 29, 30, 31, 32, 33, 34, 35, 36, 37, 38, 39, 40, 41, 42, 43, 44] (by decide +kernel) (by decide +kernel)) (goodIn_sub (fun _ h => List.mem_cons_of_mem _ (List.mem_append_right _ h)) (by decide +kernel))
set_option maxRecDepth 20000 in
theorem gX6_reset_X6_needPower : GoodIn wsX6_reset (wsV RX6 69 RX6 yX6_needPower wsX6_needPower) := goodIn_app (goodIn_of _ (by decide +kernel)) ggX6_reset_X6_needPower
set_option maxRecDepth 20000 in
theorem ggX6_reset_X0_dismiss : GoodIn wsX6_reset wsX0_dismiss := goodIn_r _ [21, 22, 23, 24, 25, 26, 20, 27, 47, 48, 49, 50] (by decide +kernel) (by decide +kernel)
set_option maxRecDepth 20000 in
theorem gX6_reset_X0_dismiss : GoodIn wsX6_reset (wsV RX6 117 RX0 yX0_dismiss wsX0_dismiss) := goodIn_app (goodIn_of _ (by decide +kernel)) ggX6_reset_X0_dismiss
theorem dX6_reset_0 : decode cX6_reset 0 = .ok (.iload_n 1, 1) := by decide +kernel
theorem dX6_reset_1 : decode cX6_reset 1 = .ok (.bipush 9, 2) := by decide +kernel
theorem dX6_reset_3 : decode cX6_reset 3 = .ok (.invokestatic 113, 3) := by decide +kernel
theorem dX6_reset_6 : decode cX6_reset 6 = .ok (.aload_n 0, 1) := by decide +kernel
theorem dX6_reset_7 : decode cX6_reset 7 = .ok (.invokevirtual 69, 3) := by decide +kernel
theorem dX6_reset_10 : decode cX6_reset 10 = .ok (.aload_n 0, 1) := by decide +kernel
theorem dX6_reset_11 : decode cX6_reset 11 = .ok (.getfield 39, 3) := by decide +kernel
theorem dX6_reset_14 : decode cX6_reset 14 = .ok (.iload_n 1, 1) := by decide +kernel
theorem dX6_reset_15 : decode cX6_reset 15 = .ok (.aload_n 0, 1) := by decide +kernel
theorem dX6_reset_16 : decode cX6_reset 16 = .ok (.getfield 46, 3) := by decide +kernel
theorem dX6_reset_19 : decode cX6_reset 19 = .ok (.getfield 110, 3) := by decide +kernel
theorem dX6_reset_22 : decode cX6_reset 22 = .ok (.ifCond .ne 7, 3) := by decide +kernel
theorem dX6_reset_25 : decode cX6_reset 25 = .ok (.iconst 1, 1) := by decide +kernel
theorem dX6_reset_26 : decode cX6_reset 26 = .ok (.goto 4, 3) := by decide +kernel
theorem dX6_reset_29 : decode cX6_reset 29 = .ok (.iconst 0, 1) := by decide +kernel
theorem dX6_reset_30 : decode cX6_reset 30 = .ok (.invokevirtual 117, 3) := by decide +kernel
theorem dX6_reset_33 : decode cX6_reset 33 = .ok (.ireturn, 1) := by decide +kernel
set_option maxRecDepth 20000 in
theorem ggX6_cut_X6_needWhole : GoodIn wsX6_cut wsX6_needWhole := goodIn_ca (goodIn_r _ [6, 7, 8] (by decide +kernel) (by decide +kernel)) (goodIn_sub (fun _ h => List.mem_cons_of_mem _ (List.mem_append_left _ (List.mem_append_right _ h))) (by decide +kernel))
set_option maxRecDepth 20000 in
theorem gX6_cut_X6_needWhole : GoodIn wsX6_cut (va_wsS RX6 90 yX6_needWhole wsX6_needWhole) := goodIn_app (goodIn_of _ (by decide +kernel)) ggX6_cut_X6_needWhole
set_option maxRecDepth 20000 in
theorem ggX6_cut_X6_needPower : GoodIn wsX6_cut wsX6_needPower := goodIn_ca (goodIn_r _ [12, 13, 14, 15, 16, 17, 18, 19, 20, 21, 22, 23, 24, 25, 26, 27, 28, 29, 30, 31, 32] (by decide +kernel) (by decide +kernel)) (goodIn_sub (fun _ h => List.mem_cons_of_mem _ (List.mem_append_right _ h)) (by decide +kernel))
set_option maxRecDepth 20000 in
theorem gX6_cut_X6_needPower : GoodIn wsX6_cut (wsV RX6 69 RX6 yX6_needPower wsX6_needPower) := goodIn_app (goodIn_of _ (by decide +kernel)) ggX6_cut_X6_needPower
theorem dX6_cut_0 : decode cX6_cut 0 = .ok (.iload_n 1, 1) := by decide +kernel
theorem dX6_cut_1 : decode cX6_cut 1 = .ok (.iconst 0, 1) := by decide +kernel
theorem dX6_cut_2 : decode cX6_cut 2 = .ok (.bipush 32, 2) := by decide +kernel
theorem dX6_cut_4 : decode cX6_cut 4 = .ok (.invokestatic 90, 3) := by decide +kernel
theorem dX6_cut_7 : decode cX6_cut 7 = .ok (.aload_n 0, 1) := by decide +kernel
theorem dX6_cut_8 : decode cX6_cut 8 = .ok (.invokevirtual 69, 3) := by decide +kernel
theorem dX6_cut_11 : decode cX6_cut 11 = .ok (.aload_n 0, 1) := by decide +kernel
theorem dX6_cut_12 : decode cX6_cut 12 = .ok (.getfield 53, 3) := by decide +kernel
theorem dX6_cut_15 : decode cX6_cut 15 = .ok (.iload_n 1, 1) := by decide +kernel
theorem dX6_cut_16 : decode cX6_cut 16 = .ok (.putfield 121, 3) := by decide +kernel
theorem dX6_cut_19 : decode cX6_cut 19 = .ok (.return_, 1) := by decide +kernel
set_option maxRecDepth 20000 in
theorem ggX6_power_X6_beginAnew : GoodIn wsX6_power wsX6_beginAnew := goodIn_r _ [11, 12, 3, 4, 13, 14, 15, 16, 17, 18, 19, 20, 5, 21, 1, 22, 23, 24, 25, 26, 27, 28, 29, 30, 31, 32, 33, 34, 35, 36, 37, 38, 39, 40, 41, 42, 43, 44, 45, 46, 47, 48, 49, 50, 51, 52, 53, 54, 123, 124, 125, 126, 127, 128, 129, 130, 131, 132, 133, 134, 135, 136, 137, 138, 139, 149, 150, 151, 152, 153, 154, 155, 156, 145, 146, 147, 148, 157, 158, 140, 141, 142, 143, 144] (by decide +kernel) (by decide +kernel)
set_option maxRecDepth 20000 in
theorem gX6_power_X6_beginAnew : GoodIn wsX6_power (wsV RX6 57 RX6 yX6_beginAnew wsX6_beginAnew) := goodIn_app (goodIn_of _ (by decide +kernel)) ggX6_power_X6_beginAnew
set_option maxRecDepth 20000 in
theorem ggX6_power_X1_newestPlace : GoodIn wsX6_power wsX1_newestPlace := goodIn_r _ [58, 59, 60, 61, 62, 51, 63, 64, 65, 66, 67, 68, 69, 70, 71, 72, 73, 74, 75, 76, 77, 78, 79, 80, 81, 82, 83, 84, 85, 86, 87, 88, 89, 90, 91, 92, 93, 94, 95, 96, 140, 141, 142, 143, 144] (by decide +kernel) (by decide +kernel)
set_option maxRecDepth 20000 in
theorem gX6_power_X1_newestPlace : GoodIn wsX6_power (wsV RX6 124 RX1 yX1_newestPlace wsX1_newestPlace) := goodIn_app (goodIn_of _ (by decide +kernel)) ggX6_power_X1_newestPlace
set_option maxRecDepth 20000 in
theorem ggX6_power_X1_numberAt : GoodIn wsX6_power wsX1_numberAt := goodIn_r _ [69, 70, 71, 72, 51, 73, 65, 74, 140, 141, 142, 143, 144] (by decide +kernel) (by decide +kernel)
set_option maxRecDepth 20000 in
theorem gX6_power_X1_numberAt : GoodIn wsX6_power (wsV RX6 128 RX1 yX1_numberAt wsX1_numberAt) := goodIn_app (goodIn_of _ (by decide +kernel)) ggX6_power_X1_numberAt
set_option maxRecDepth 20000 in
theorem ggX6_power_X1_timeAt : GoodIn wsX6_power wsX1_timeAt := goodIn_r _ [101, 70, 71, 72, 51, 73, 65, 74, 140, 141, 142, 143, 144] (by decide +kernel) (by decide +kernel)
set_option maxRecDepth 20000 in
theorem gX6_power_X1_timeAt : GoodIn wsX6_power (wsV RX6 135 RX1 yX1_timeAt wsX1_timeAt) := goodIn_app (goodIn_of _ (by decide +kernel)) ggX6_power_X1_timeAt
set_option maxRecDepth 20000 in
theorem ggX6_power_X1_partsAt : GoodIn wsX6_power wsX1_partsAt := goodIn_r _ [105, 70, 71, 72, 51, 73, 65, 74, 140, 141, 142, 143, 144] (by decide +kernel) (by decide +kernel)
set_option maxRecDepth 20000 in
theorem gX6_power_X1_partsAt : GoodIn wsX6_power (wsV RX6 141 RX1 yX1_partsAt wsX1_partsAt) := goodIn_app (goodIn_of _ (by decide +kernel)) ggX6_power_X1_partsAt
set_option maxRecDepth 20000 in
theorem ggX6_power_X6_chargeOfParts : GoodIn wsX6_power wsX6_chargeOfParts := goodIn_r _ [109, 110, 111, 112, 113, 89, 114, 115, 116, 117, 118, 123, 124, 125, 126, 127, 128, 129, 130, 131, 132, 133, 134, 135, 136, 137, 138, 139] (by decide +kernel) (by decide +kernel)
set_option maxRecDepth 20000 in
theorem gX6_power_X6_chargeOfParts : GoodIn wsX6_power (wsV RX6 145 RX6 yX6_chargeOfParts wsX6_chargeOfParts) := goodIn_app (goodIn_of _ (by decide +kernel)) ggX6_power_X6_chargeOfParts
set_option maxRecDepth 20000 in
theorem ggX6_power_X1_faultsAt : GoodIn wsX6_power wsX1_faultsAt := goodIn_r _ [122, 70, 71, 72, 51, 73, 65, 74, 140, 141, 142, 143, 144] (by decide +kernel) (by decide +kernel)
set_option maxRecDepth 20000 in
theorem gX6_power_X1_faultsAt : GoodIn wsX6_power (wsV RX6 149 RX1 yX1_faultsAt wsX1_faultsAt) := goodIn_app (goodIn_of _ (by decide +kernel)) ggX6_power_X1_faultsAt
theorem dX6_power_0 : decode cX6_power 0 = .ok (.aload_n 0, 1) := by decide +kernel
theorem dX6_power_1 : decode cX6_power 1 = .ok (.invokevirtual 57, 3) := by decide +kernel
theorem dX6_power_4 : decode cX6_power 4 = .ok (.aload_n 0, 1) := by decide +kernel
theorem dX6_power_5 : decode cX6_power 5 = .ok (.getfield 53, 3) := by decide +kernel
theorem dX6_power_8 : decode cX6_power 8 = .ok (.invokevirtual 124, 3) := by decide +kernel
theorem dX6_power_11 : decode cX6_power 11 = .ok (.istore_n 1, 1) := by decide +kernel
theorem dX6_power_12 : decode cX6_power 12 = .ok (.iload_n 1, 1) := by decide +kernel
theorem dX6_power_13 : decode cX6_power 13 = .ok (.ifCond .lt 63, 3) := by decide +kernel
theorem dX6_power_16 : decode cX6_power 16 = .ok (.aload_n 0, 1) := by decide +kernel
theorem dX6_power_17 : decode cX6_power 17 = .ok (.getfield 53, 3) := by decide +kernel
theorem dX6_power_20 : decode cX6_power 20 = .ok (.aload_n 0, 1) := by decide +kernel
theorem dX6_power_21 : decode cX6_power 21 = .ok (.getfield 53, 3) := by decide +kernel
theorem dX6_power_24 : decode cX6_power 24 = .ok (.iload_n 1, 1) := by decide +kernel
theorem dX6_power_25 : decode cX6_power 25 = .ok (.invokevirtual 128, 3) := by decide +kernel
theorem dX6_power_28 : decode cX6_power 28 = .ok (.iconst 1, 1) := by decide +kernel
theorem dX6_power_29 : decode cX6_power 29 = .ok (.iadd, 1) := by decide +kernel
theorem dX6_power_30 : decode cX6_power 30 = .ok (.putfield 132, 3) := by decide +kernel
theorem dX6_power_33 : decode cX6_power 33 = .ok (.aload_n 0, 1) := by decide +kernel
theorem dX6_power_34 : decode cX6_power 34 = .ok (.aload_n 0, 1) := by decide +kernel
theorem dX6_power_35 : decode cX6_power 35 = .ok (.getfield 53, 3) := by decide +kernel
theorem dX6_power_38 : decode cX6_power 38 = .ok (.iload_n 1, 1) := by decide +kernel
theorem dX6_power_39 : decode cX6_power 39 = .ok (.invokevirtual 135, 3) := by decide +kernel
theorem dX6_power_42 : decode cX6_power 42 = .ok (.putfield 138, 3) := by decide +kernel
theorem dX6_power_45 : decode cX6_power 45 = .ok (.aload_n 0, 1) := by decide +kernel
theorem dX6_power_46 : decode cX6_power 46 = .ok (.aload_n 0, 1) := by decide +kernel
theorem dX6_power_47 : decode cX6_power 47 = .ok (.aload_n 0, 1) := by decide +kernel
theorem dX6_power_48 : decode cX6_power 48 = .ok (.getfield 53, 3) := by decide +kernel
theorem dX6_power_51 : decode cX6_power 51 = .ok (.iload_n 1, 1) := by decide +kernel
theorem dX6_power_52 : decode cX6_power 52 = .ok (.invokevirtual 141, 3) := by decide +kernel
theorem dX6_power_55 : decode cX6_power 55 = .ok (.invokevirtual 145, 3) := by decide +kernel
theorem dX6_power_58 : decode cX6_power 58 = .ok (.putfield 101, 3) := by decide +kernel
theorem dX6_power_61 : decode cX6_power 61 = .ok (.aload_n 0, 1) := by decide +kernel
theorem dX6_power_62 : decode cX6_power 62 = .ok (.getfield 39, 3) := by decide +kernel
theorem dX6_power_65 : decode cX6_power 65 = .ok (.aload_n 0, 1) := by decide +kernel
theorem dX6_power_66 : decode cX6_power 66 = .ok (.getfield 53, 3) := by decide +kernel
theorem dX6_power_69 : decode cX6_power 69 = .ok (.iload_n 1, 1) := by decide +kernel
theorem dX6_power_70 : decode cX6_power 70 = .ok (.invokevirtual 149, 3) := by decide +kernel
theorem dX6_power_73 : decode cX6_power 73 = .ok (.putfield 152, 3) := by decide +kernel
theorem dX6_power_76 : decode cX6_power 76 = .ok (.aload_n 0, 1) := by decide +kernel
theorem dX6_power_77 : decode cX6_power 77 = .ok (.getfield 138, 3) := by decide +kernel
theorem dX6_power_80 : decode cX6_power 80 = .ok (.ireturn, 1) := by decide +kernel
theorem dX6_off_0 : decode cX6_off 0 = .ok (.aload_n 0, 1) := by decide +kernel
theorem dX6_off_1 : decode cX6_off 1 = .ok (.getfield 104, 3) := by decide +kernel
theorem dX6_off_4 : decode cX6_off 4 = .ok (.ireturn, 1) := by decide +kernel
set_option maxRecDepth 20000 in
theorem ggX6_time_X6_needPower : GoodIn wsX6_time wsX6_needPower := goodIn_ca (goodIn_r _ [6, 7, 8, 9, 10, 11, 12, 13, 14, 15, 16, 17, 18, 19, 20, 21, 22, 23, 24, 25, 26] (by decide +kernel) (by decide +kernel)) (goodIn_sub (fun _ h => List.mem_cons_of_mem _ (List.mem_append_right _ h)) (by decide +kernel))
set_option maxRecDepth 20000 in
theorem gX6_time_X6_needPower : GoodIn wsX6_time (wsV RX6 69 RX6 yX6_needPower wsX6_needPower) := goodIn_app (goodIn_of _ (by decide +kernel)) ggX6_time_X6_needPower
theorem dX6_time_0 : decode cX6_time 0 = .ok (.aload_n 0, 1) := by decide +kernel
theorem dX6_time_1 : decode cX6_time 1 = .ok (.invokevirtual 69, 3) := by decide +kernel
theorem dX6_time_4 : decode cX6_time 4 = .ok (.aload_n 0, 1) := by decide +kernel
theorem dX6_time_5 : decode cX6_time 5 = .ok (.getfield 138, 3) := by decide +kernel
theorem dX6_time_8 : decode cX6_time 8 = .ok (.ireturn, 1) := by decide +kernel
set_option maxRecDepth 20000 in
theorem ggX6_charge_X6_needPower : GoodIn wsX6_charge wsX6_needPower := goodIn_ca (goodIn_r _ [6, 7, 8, 9, 10, 11, 12, 13, 14, 15, 16, 17, 18, 19, 20, 21, 22, 23, 24, 25, 26] (by decide +kernel) (by decide +kernel)) (goodIn_sub (fun _ h => List.mem_cons_of_mem _ (List.mem_append_right _ h)) (by decide +kernel))
set_option maxRecDepth 20000 in
theorem gX6_charge_X6_needPower : GoodIn wsX6_charge (wsV RX6 69 RX6 yX6_needPower wsX6_needPower) := goodIn_app (goodIn_of _ (by decide +kernel)) ggX6_charge_X6_needPower
theorem dX6_charge_0 : decode cX6_charge 0 = .ok (.aload_n 0, 1) := by decide +kernel
theorem dX6_charge_1 : decode cX6_charge 1 = .ok (.invokevirtual 69, 3) := by decide +kernel
theorem dX6_charge_4 : decode cX6_charge 4 = .ok (.aload_n 0, 1) := by decide +kernel
theorem dX6_charge_5 : decode cX6_charge 5 = .ok (.getfield 101, 3) := by decide +kernel
theorem dX6_charge_8 : decode cX6_charge 8 = .ok (.dreturn, 1) := by decide +kernel
set_option maxRecDepth 20000 in
theorem ggX6_percent_X6_needPower : GoodIn wsX6_percent wsX6_needPower := goodIn_ca (goodIn_r _ [7, 8, 9, 10, 16, 17, 18, 19, 20, 21, 22, 23, 24, 25, 26, 27, 28, 29, 30, 31, 32] (by decide +kernel) (by decide +kernel)) (goodIn_sub (fun _ h => List.mem_cons_of_mem _ (List.mem_append_right _ h)) (by decide +kernel))
set_option maxRecDepth 20000 in
theorem gX6_percent_X6_needPower : GoodIn wsX6_percent (wsV RX6 69 RX6 yX6_needPower wsX6_needPower) := goodIn_app (goodIn_of _ (by decide +kernel)) ggX6_percent_X6_needPower
set_option maxRecDepth 20000 in
theorem ggX6_percent_X6_wholeCapacities : GoodIn wsX6_percent wsX6_wholeCapacities := goodIn_r _ [14, 15, 16, 17, 18, 19, 20, 21, 22, 23, 24, 25, 26, 27, 28, 29, 30, 31, 32] (by decide +kernel) (by decide +kernel)
set_option maxRecDepth 20000 in
theorem gX6_percent_X6_wholeCapacities : GoodIn wsX6_percent (wsV RX6 157 RX6 yX6_wholeCapacities wsX6_wholeCapacities) := goodIn_app (goodIn_of _ (by decide +kernel)) ggX6_percent_X6_wholeCapacities
theorem dX6_percent_0 : decode cX6_percent 0 = .ok (.aload_n 0, 1) := by decide +kernel
theorem dX6_percent_1 : decode cX6_percent 1 = .ok (.invokevirtual 69, 3) := by decide +kernel
theorem dX6_percent_4 : decode cX6_percent 4 = .ok (.aload_n 0, 1) := by decide +kernel
theorem dX6_percent_5 : decode cX6_percent 5 = .ok (.ldc2_w 155, 3) := by decide +kernel
theorem dX6_percent_8 : decode cX6_percent 8 = .ok (.aload_n 0, 1) := by decide +kernel
theorem dX6_percent_9 : decode cX6_percent 9 = .ok (.getfield 101, 3) := by decide +kernel
theorem dX6_percent_12 : decode cX6_percent 12 = .ok (.dmul, 1) := by decide +kernel
theorem dX6_percent_13 : decode cX6_percent 13 = .ok (.invokevirtual 157, 3) := by decide +kernel
theorem dX6_percent_16 : decode cX6_percent 16 = .ok (.ireturn, 1) := by decide +kernel
set_option maxRecDepth 20000 in
theorem ggX6_through_X6_needPower : GoodIn wsX6_through wsX6_needPower := goodIn_ca (goodIn_r _ [6, 7, 8, 9, 10, 11, 12, 13, 14, 15, 16, 17, 18, 19, 20, 21, 22, 23, 24, 25, 26] (by decide +kernel) (by decide +kernel)) (goodIn_sub (fun _ h => List.mem_cons_of_mem _ (List.mem_append_right _ h)) (by decide +kernel))
set_option maxRecDepth 20000 in
theorem gX6_through_X6_needPower : GoodIn wsX6_through (wsV RX6 69 RX6 yX6_needPower wsX6_needPower) := goodIn_app (goodIn_of _ (by decide +kernel)) ggX6_through_X6_needPower
theorem dX6_through_0 : decode cX6_through 0 = .ok (.aload_n 0, 1) := by decide +kernel
theorem dX6_through_1 : decode cX6_through 1 = .ok (.invokevirtual 69, 3) := by decide +kernel
theorem dX6_through_4 : decode cX6_through 4 = .ok (.aload_n 0, 1) := by decide +kernel
theorem dX6_through_5 : decode cX6_through 5 = .ok (.getfield 161, 3) := by decide +kernel
theorem dX6_through_8 : decode cX6_through 8 = .ok (.dreturn, 1) := by decide +kernel
set_option maxRecDepth 20000 in
theorem ggX6_allowed_X6_needPower : GoodIn wsX6_allowed wsX6_needPower := goodIn_ca (goodIn_r _ [7, 8, 9, 10, 11, 12, 13, 14, 15, 16, 17, 18, 19, 20, 21, 22, 23, 24, 25, 26, 27] (by decide +kernel) (by decide +kernel)) (goodIn_sub (fun _ h => List.mem_cons_of_mem _ (List.mem_append_right _ h)) (by decide +kernel))
set_option maxRecDepth 20000 in
theorem gX6_allowed_X6_needPower : GoodIn wsX6_allowed (wsV RX6 69 RX6 yX6_needPower wsX6_needPower) := goodIn_app (goodIn_of _ (by decide +kernel)) ggX6_allowed_X6_needPower
theorem dX6_allowed_0 : decode cX6_allowed 0 = .ok (.aload_n 0, 1) := by decide +kernel
theorem dX6_allowed_1 : decode cX6_allowed 1 = .ok (.invokevirtual 69, 3) := by decide +kernel
theorem dX6_allowed_4 : decode cX6_allowed 4 = .ok (.iload_n 1, 1) := by decide +kernel
theorem dX6_allowed_5 : decode cX6_allowed 5 = .ok (.ifCond .eq 10, 3) := by decide +kernel
theorem dX6_allowed_8 : decode cX6_allowed 8 = .ok (.aload_n 0, 1) := by decide +kernel
theorem dX6_allowed_9 : decode cX6_allowed 9 = .ok (.getfield 164, 3) := by decide +kernel
theorem dX6_allowed_12 : decode cX6_allowed 12 = .ok (.goto 7, 3) := by decide +kernel
theorem dX6_allowed_15 : decode cX6_allowed 15 = .ok (.aload_n 0, 1) := by decide +kernel
theorem dX6_allowed_16 : decode cX6_allowed 16 = .ok (.getfield 167, 3) := by decide +kernel
theorem dX6_allowed_19 : decode cX6_allowed 19 = .ok (.dreturn, 1) := by decide +kernel
set_option maxRecDepth 20000 in
theorem ggX6_valid_X6_needChip : GoodIn wsX6_valid wsX6_needChip := goodIn_ca (goodIn_r _ [6, 1, 7, 8, 5, 9, 10, 11, 43, 44, 45, 46, 47, 48, 49, 50, 51, 52, 53, 54, 55, 56, 57, 58, 59] (by decide +kernel) (by decide +kernel)) (goodIn_sub (fun _ h => List.mem_cons_of_mem _ (List.mem_append_left _ (List.mem_append_right _ h))) (by decide +kernel))
set_option maxRecDepth 20000 in
theorem gX6_valid_X6_needChip : GoodIn wsX6_valid (wsV RX6 66 RX6 yX6_needChip wsX6_needChip) := goodIn_app (goodIn_of _ (by decide +kernel)) ggX6_valid_X6_needChip
set_option maxRecDepth 20000 in
theorem ggX6_valid_X6_needIndex : GoodIn wsX6_valid wsX6_needIndex := goodIn_ca (goodIn_r _ [9, 10, 11] (by decide +kernel) (by decide +kernel)) (goodIn_sub (fun _ h => List.mem_cons_of_mem _ (List.mem_append_left _ (List.mem_append_right _ h))) (by decide +kernel))
set_option maxRecDepth 20000 in
theorem gX6_valid_X6_needIndex : GoodIn wsX6_valid (va_wsS RX6 113 yX6_needIndex wsX6_needIndex) := goodIn_app (goodIn_of _ (by decide +kernel)) ggX6_valid_X6_needIndex
set_option maxRecDepth 20000 in
theorem ggX6_valid_X6_needPower : GoodIn wsX6_valid wsX6_needPower := goodIn_ca (goodIn_r _ [15, 16, 17, 18, 43, 44, 45, 46, 47, 48, 49, 50, 51, 52, 53, 54, 55, 56, 57, 58, 59] (by decide +kernel) (by decide +kernel)) (goodIn_sub (fun _ h => List.mem_cons_of_mem _ (List.mem_append_right _ h)) (by decide +kernel))
set_option maxRecDepth 20000 in
theorem gX6_valid_X6_needPower : GoodIn wsX6_valid (wsV RX6 69 RX6 yX6_needPower wsX6_needPower) := goodIn_app (goodIn_of _ (by decide +kernel)) ggX6_valid_X6_needPower
set_option maxRecDepth 20000 in
theorem ggX6_valid_X3_isValid : GoodIn wsX6_valid wsX3_isValid := goodIn_r _ [23, 24, 25, 26, 27, 28, 22, 29, 30, 31, 32, 33, 34, 35, 36, 37, 38, 39, 40, 41, 42, 60, 61, 62, 63, 64, 65, 66, 67] (by decide +kernel) (by decide +kernel)
set_option maxRecDepth 20000 in
theorem gX6_valid_X3_isValid : GoodIn wsX6_valid (wsV RX6 170 RX3 yX3_isValid wsX3_isValid) := goodIn_app (goodIn_of _ (by decide +kernel)) ggX6_valid_X3_isValid
theorem dX6_valid_0 : decode cX6_valid 0 = .ok (.aload_n 0, 1) := by decide +kernel
theorem dX6_valid_1 : decode cX6_valid 1 = .ok (.iload_n 1, 1) := by decide +kernel
theorem dX6_valid_2 : decode cX6_valid 2 = .ok (.invokevirtual 66, 3) := by decide +kernel
theorem dX6_valid_5 : decode cX6_valid 5 = .ok (.iload_n 2, 1) := by decide +kernel
theorem dX6_valid_6 : decode cX6_valid 6 = .ok (.bipush 6, 2) := by decide +kernel
theorem dX6_valid_8 : decode cX6_valid 8 = .ok (.invokestatic 113, 3) := by decide +kernel
theorem dX6_valid_11 : decode cX6_valid 11 = .ok (.aload_n 0, 1) := by decide +kernel
theorem dX6_valid_12 : decode cX6_valid 12 = .ok (.invokevirtual 69, 3) := by decide +kernel
theorem dX6_valid_15 : decode cX6_valid 15 = .ok (.aload_n 0, 1) := by decide +kernel
theorem dX6_valid_16 : decode cX6_valid 16 = .ok (.getfield 15, 3) := by decide +kernel
theorem dX6_valid_19 : decode cX6_valid 19 = .ok (.iload_n 1, 1) := by decide +kernel
theorem dX6_valid_20 : decode cX6_valid 20 = .ok (.aaload, 1) := by decide +kernel
theorem dX6_valid_21 : decode cX6_valid 21 = .ok (.iload_n 2, 1) := by decide +kernel
theorem dX6_valid_22 : decode cX6_valid 22 = .ok (.invokevirtual 170, 3) := by decide +kernel
theorem dX6_valid_25 : decode cX6_valid 25 = .ok (.ireturn, 1) := by decide +kernel
set_option maxRecDepth 20000 in
theorem ggX6_bleeding_X6_needChip : GoodIn wsX6_bleeding wsX6_needChip := goodIn_ca (goodIn_r _ [7, 1, 8, 9, 6, 10, 11, 12, 20, 21, 22, 23, 24, 25, 26, 27, 28, 29, 30, 31, 32, 33, 34, 35, 36] (by decide +kernel) (by decide +kernel)) (goodIn_sub (fun _ h => List.mem_cons_of_mem _ (List.mem_append_left _ (List.mem_append_right _ h))) (by decide +kernel))
set_option maxRecDepth 20000 in
theorem gX6_bleeding_X6_needChip : GoodIn wsX6_bleeding (wsV RX6 66 RX6 yX6_needChip wsX6_needChip) := goodIn_app (goodIn_of _ (by decide +kernel)) ggX6_bleeding_X6_needChip
set_option maxRecDepth 20000 in
theorem ggX6_bleeding_X6_needPower : GoodIn wsX6_bleeding wsX6_needPower := goodIn_ca (goodIn_r _ [16, 17, 18, 19, 20, 21, 22, 23, 24, 25, 26, 27, 28, 29, 30, 31, 32, 33, 34, 35, 36] (by decide +kernel) (by decide +kernel)) (goodIn_sub (fun _ h => List.mem_cons_of_mem _ (List.mem_append_right _ h)) (by decide +kernel))
set_option maxRecDepth 20000 in
theorem gX6_bleeding_X6_needPower : GoodIn wsX6_bleeding (wsV RX6 69 RX6 yX6_needPower wsX6_needPower) := goodIn_app (goodIn_of _ (by decide +kernel)) ggX6_bleeding_X6_needPower
theorem dX6_bleeding_0 : decode cX6_bleeding 0 = .ok (.aload_n 0, 1) := by decide +kernel
theorem dX6_bleeding_1 : decode cX6_bleeding 1 = .ok (.iload_n 1, 1) := by decide +kernel
theorem dX6_bleeding_2 : decode cX6_bleeding 2 = .ok (.invokevirtual 66, 3) := by decide +kernel
theorem dX6_bleeding_5 : decode cX6_bleeding 5 = .ok (.aload_n 0, 1) := by decide +kernel
theorem dX6_bleeding_6 : decode cX6_bleeding 6 = .ok (.invokevirtual 69, 3) := by decide +kernel
theorem dX6_bleeding_9 : decode cX6_bleeding 9 = .ok (.aload_n 0, 1) := by decide +kernel
theorem dX6_bleeding_10 : decode cX6_bleeding 10 = .ok (.getfield 15, 3) := by decide +kernel
theorem dX6_bleeding_13 : decode cX6_bleeding 13 = .ok (.iload_n 1, 1) := by decide +kernel
theorem dX6_bleeding_14 : decode cX6_bleeding 14 = .ok (.aaload, 1) := by decide +kernel
theorem dX6_bleeding_15 : decode cX6_bleeding 15 = .ok (.getfield 174, 3) := by decide +kernel
theorem dX6_bleeding_18 : decode cX6_bleeding 18 = .ok (.ireturn, 1) := by decide +kernel
set_option maxRecDepth 20000 in
theorem ggX6_faults_X6_needPower : GoodIn wsX6_faults wsX6_needPower := goodIn_ca (goodIn_r _ [7, 8, 9, 10, 11, 12, 13, 14, 15, 16, 17, 18, 19, 20, 21, 22, 23, 24, 25, 26, 27] (by decide +kernel) (by decide +kernel)) (goodIn_sub (fun _ h => List.mem_cons_of_mem _ (List.mem_append_right _ h)) (by decide +kernel))
set_option maxRecDepth 20000 in
theorem gX6_faults_X6_needPower : GoodIn wsX6_faults (wsV RX6 69 RX6 yX6_needPower wsX6_needPower) := goodIn_app (goodIn_of _ (by decide +kernel)) ggX6_faults_X6_needPower
theorem dX6_faults_0 : decode cX6_faults 0 = .ok (.aload_n 0, 1) := by decide +kernel
theorem dX6_faults_1 : decode cX6_faults 1 = .ok (.invokevirtual 69, 3) := by decide +kernel
theorem dX6_faults_4 : decode cX6_faults 4 = .ok (.aload_n 0, 1) := by decide +kernel
theorem dX6_faults_5 : decode cX6_faults 5 = .ok (.getfield 39, 3) := by decide +kernel
theorem dX6_faults_8 : decode cX6_faults 8 = .ok (.getfield 152, 3) := by decide +kernel
theorem dX6_faults_11 : decode cX6_faults 11 = .ok (.ireturn, 1) := by decide +kernel
set_option maxRecDepth 20000 in
theorem ggX6_count_X6_needIndex : GoodIn wsX6_count wsX6_needIndex := goodIn_ca (goodIn_r _ [6, 7, 8] (by decide +kernel) (by decide +kernel)) (goodIn_sub (fun _ h => List.mem_cons_of_mem _ (List.mem_append_left _ (List.mem_append_right _ h))) (by decide +kernel))
set_option maxRecDepth 20000 in
theorem gX6_count_X6_needIndex : GoodIn wsX6_count (va_wsS RX6 113 yX6_needIndex wsX6_needIndex) := goodIn_app (goodIn_of _ (by decide +kernel)) ggX6_count_X6_needIndex
set_option maxRecDepth 20000 in
theorem ggX6_count_X6_needPower : GoodIn wsX6_count wsX6_needPower := goodIn_ca (goodIn_r _ [12, 13, 14, 15, 16, 17, 18, 19, 20, 21, 22, 23, 24, 25, 26, 27, 28, 29, 30, 31, 32] (by decide +kernel) (by decide +kernel)) (goodIn_sub (fun _ h => List.mem_cons_of_mem _ (List.mem_append_right _ h)) (by decide +kernel))
set_option maxRecDepth 20000 in
theorem gX6_count_X6_needPower : GoodIn wsX6_count (wsV RX6 69 RX6 yX6_needPower wsX6_needPower) := goodIn_app (goodIn_of _ (by decide +kernel)) ggX6_count_X6_needPower
theorem dX6_count_0 : decode cX6_count 0 = .ok (.iload_n 1, 1) := by decide +kernel
theorem dX6_count_1 : decode cX6_count 1 = .ok (.bipush 7, 2) := by decide +kernel
theorem dX6_count_3 : decode cX6_count 3 = .ok (.invokestatic 113, 3) := by decide +kernel
theorem dX6_count_6 : decode cX6_count 6 = .ok (.aload_n 0, 1) := by decide +kernel
theorem dX6_count_7 : decode cX6_count 7 = .ok (.invokevirtual 69, 3) := by decide +kernel
theorem dX6_count_10 : decode cX6_count 10 = .ok (.aload_n 0, 1) := by decide +kernel
theorem dX6_count_11 : decode cX6_count 11 = .ok (.getfield 39, 3) := by decide +kernel
theorem dX6_count_14 : decode cX6_count 14 = .ok (.getfield 177, 3) := by decide +kernel
theorem dX6_count_17 : decode cX6_count 17 = .ok (.iload_n 1, 1) := by decide +kernel
theorem dX6_count_18 : decode cX6_count 18 = .ok (.iaload, 1) := by decide +kernel
theorem dX6_count_19 : decode cX6_count 19 = .ok (.ireturn, 1) := by decide +kernel
set_option maxRecDepth 20000 in
theorem ggX6_journal_X6_needIndex : GoodIn wsX6_journal wsX6_needIndex := goodIn_ca (goodIn_r _ [6, 7, 8] (by decide +kernel) (by decide +kernel)) (goodIn_sub (fun _ h => List.mem_cons_of_mem _ (List.mem_append_right _ h)) (by decide +kernel))
set_option maxRecDepth 20000 in
theorem gX6_journal_X6_needIndex : GoodIn wsX6_journal (va_wsS RX6 113 yX6_needIndex wsX6_needIndex) := goodIn_app (goodIn_of _ (by decide +kernel)) ggX6_journal_X6_needIndex
theorem dX6_journal_0 : decode cX6_journal 0 = .ok (.iload_n 1, 1) := by decide +kernel
theorem dX6_journal_1 : decode cX6_journal 1 = .ok (.aload_n 0, 1) := by decide +kernel
theorem dX6_journal_2 : decode cX6_journal 2 = .ok (.getfield 53, 3) := by decide +kernel
theorem dX6_journal_5 : decode cX6_journal 5 = .ok (.getfield 181, 3) := by decide +kernel
theorem dX6_journal_8 : decode cX6_journal 8 = .ok (.arraylength, 1) := by decide +kernel
theorem dX6_journal_9 : decode cX6_journal 9 = .ok (.invokestatic 113, 3) := by decide +kernel
theorem dX6_journal_12 : decode cX6_journal 12 = .ok (.aload_n 0, 1) := by decide +kernel
theorem dX6_journal_13 : decode cX6_journal 13 = .ok (.getfield 53, 3) := by decide +kernel
theorem dX6_journal_16 : decode cX6_journal 16 = .ok (.getfield 181, 3) := by decide +kernel
theorem dX6_journal_19 : decode cX6_journal 19 = .ok (.iload_n 1, 1) := by decide +kernel
theorem dX6_journal_20 : decode cX6_journal 20 = .ok (.baload, 1) := by decide +kernel
theorem dX6_journal_21 : decode cX6_journal 21 = .ok (.sipush 255, 3) := by decide +kernel
theorem dX6_journal_24 : decode cX6_journal 24 = .ok (.iand, 1) := by decide +kernel
theorem dX6_journal_25 : decode cX6_journal 25 = .ok (.ireturn, 1) := by decide +kernel
set_option maxRecDepth 20000 in
theorem ggX6_spoil_X6_needIndex : GoodIn wsX6_spoil wsX6_needIndex := goodIn_ca (goodIn_r _ [6, 7, 8] (by decide +kernel) (by decide +kernel)) (goodIn_sub (fun _ h => List.mem_cons_of_mem _ (List.mem_append_left _ (List.mem_append_right _ h))) (by decide +kernel))
set_option maxRecDepth 20000 in
theorem gX6_spoil_X6_needIndex : GoodIn wsX6_spoil (va_wsS RX6 113 yX6_needIndex wsX6_needIndex) := goodIn_app (goodIn_of _ (by decide +kernel)) ggX6_spoil_X6_needIndex
set_option maxRecDepth 20000 in
theorem ggX6_spoil_X6_needWhole : GoodIn wsX6_spoil wsX6_needWhole := goodIn_ca (goodIn_r _ [11, 12, 13] (by decide +kernel) (by decide +kernel)) (goodIn_sub (fun _ h => List.mem_cons_of_mem _ (List.mem_append_right _ h)) (by decide +kernel))
set_option maxRecDepth 20000 in
theorem gX6_spoil_X6_needWhole : GoodIn wsX6_spoil (va_wsS RX6 90 yX6_needWhole wsX6_needWhole) := goodIn_app (goodIn_of _ (by decide +kernel)) ggX6_spoil_X6_needWhole
theorem dX6_spoil_0 : decode cX6_spoil 0 = .ok (.iload_n 1, 1) := by decide +kernel
theorem dX6_spoil_1 : decode cX6_spoil 1 = .ok (.aload_n 0, 1) := by decide +kernel
theorem dX6_spoil_2 : decode cX6_spoil 2 = .ok (.getfield 53, 3) := by decide +kernel
theorem dX6_spoil_5 : decode cX6_spoil 5 = .ok (.getfield 181, 3) := by decide +kernel
theorem dX6_spoil_8 : decode cX6_spoil 8 = .ok (.arraylength, 1) := by decide +kernel
theorem dX6_spoil_9 : decode cX6_spoil 9 = .ok (.invokestatic 113, 3) := by decide +kernel
theorem dX6_spoil_12 : decode cX6_spoil 12 = .ok (.iload_n 2, 1) := by decide +kernel
theorem dX6_spoil_13 : decode cX6_spoil 13 = .ok (.iconst 0, 1) := by decide +kernel
theorem dX6_spoil_14 : decode cX6_spoil 14 = .ok (.sipush 255, 3) := by decide +kernel
theorem dX6_spoil_17 : decode cX6_spoil 17 = .ok (.invokestatic 90, 3) := by decide +kernel
theorem dX6_spoil_20 : decode cX6_spoil 20 = .ok (.aload_n 0, 1) := by decide +kernel
theorem dX6_spoil_21 : decode cX6_spoil 21 = .ok (.getfield 53, 3) := by decide +kernel
theorem dX6_spoil_24 : decode cX6_spoil 24 = .ok (.getfield 181, 3) := by decide +kernel
theorem dX6_spoil_27 : decode cX6_spoil 27 = .ok (.iload_n 1, 1) := by decide +kernel
theorem dX6_spoil_28 : decode cX6_spoil 28 = .ok (.aload_n 0, 1) := by decide +kernel
theorem dX6_spoil_29 : decode cX6_spoil 29 = .ok (.getfield 53, 3) := by decide +kernel
theorem dX6_spoil_32 : decode cX6_spoil 32 = .ok (.getfield 181, 3) := by decide +kernel
theorem dX6_spoil_35 : decode cX6_spoil 35 = .ok (.iload_n 1, 1) := by decide +kernel
theorem dX6_spoil_36 : decode cX6_spoil 36 = .ok (.baload, 1) := by decide +kernel
theorem dX6_spoil_37 : decode cX6_spoil 37 = .ok (.iload_n 2, 1) := by decide +kernel
theorem dX6_spoil_38 : decode cX6_spoil 38 = .ok (.ixor, 1) := by decide +kernel
theorem dX6_spoil_39 : decode cX6_spoil 39 = .ok (.i2b, 1) := by decide +kernel
theorem dX6_spoil_40 : decode cX6_spoil 40 = .ok (.bastore, 1) := by decide +kernel
theorem dX6_spoil_41 : decode cX6_spoil 41 = .ok (.return_, 1) := by decide +kernel
theorem dX6_nearest_0 : decode cX6_nearest 0 = .ok (.iload_n 1, 1) := by decide +kernel
theorem dX6_nearest_1 : decode cX6_nearest 1 = .ok (.iload_n 2, 1) := by decide +kernel
theorem dX6_nearest_2 : decode cX6_nearest 2 = .ok (.iload_n 0, 1) := by decide +kernel
theorem dX6_nearest_3 : decode cX6_nearest 3 = .ok (.invokestatic 185, 3) := by decide +kernel
theorem dX6_nearest_6 : decode cX6_nearest 6 = .ok (.invokestatic 191, 3) := by decide +kernel
theorem dX6_nearest_9 : decode cX6_nearest 9 = .ok (.ireturn, 1) := by decide +kernel
theorem dX6_needPower_0 : decode cX6_needPower 0 = .ok (.aload_n 0, 1) := by decide +kernel
theorem dX6_needPower_1 : decode cX6_needPower 1 = .ok (.getfield 104, 3) := by decide +kernel
theorem dX6_needPower_4 : decode cX6_needPower 4 = .ok (.ifCond .eq 13, 3) := by decide +kernel
theorem dX6_needPower_7 : decode cX6_needPower 7 = .ok (.new 194, 3) := by decide +kernel
theorem dX6_needPower_10 : decode cX6_needPower 10 = .ok (.dup, 1) := by decide +kernel
theorem dX6_needPower_11 : decode cX6_needPower 11 = .ok (.ldc 196, 2) := by decide +kernel
theorem dX6_needPower_13 : decode cX6_needPower 13 = .ok (.invokespecial 198, 3) := by decide +kernel
theorem dX6_needPower_16 : decode cX6_needPower 16 = .ok (.athrow, 1) := by decide +kernel
theorem dX6_needPower_17 : decode cX6_needPower 17 = .ok (.return_, 1) := by decide +kernel
set_option maxRecDepth 20000 in
theorem ggX6_needChip_X6_needIndex : GoodIn wsX6_needChip wsX6_needIndex := goodIn_ca (goodIn_r _ [5, 6, 7] (by decide +kernel) (by decide +kernel)) (goodIn_sub (fun _ h => List.mem_cons_of_mem _ (List.mem_append_right _ h)) (by decide +kernel))
set_option maxRecDepth 20000 in
theorem gX6_needChip_X6_needIndex : GoodIn wsX6_needChip (va_wsS RX6 113 yX6_needIndex wsX6_needIndex) := goodIn_app (goodIn_of _ (by decide +kernel)) ggX6_needChip_X6_needIndex
theorem dX6_needChip_0 : decode cX6_needChip 0 = .ok (.iload_n 1, 1) := by decide +kernel
theorem dX6_needChip_1 : decode cX6_needChip 1 = .ok (.aload_n 0, 1) := by decide +kernel
theorem dX6_needChip_2 : decode cX6_needChip 2 = .ok (.getfield 15, 3) := by decide +kernel
theorem dX6_needChip_5 : decode cX6_needChip 5 = .ok (.arraylength, 1) := by decide +kernel
theorem dX6_needChip_6 : decode cX6_needChip 6 = .ok (.invokestatic 113, 3) := by decide +kernel
theorem dX6_needChip_9 : decode cX6_needChip 9 = .ok (.return_, 1) := by decide +kernel
theorem dX6_needIndex_0 : decode cX6_needIndex 0 = .ok (.iload_n 0, 1) := by decide +kernel
theorem dX6_needIndex_1 : decode cX6_needIndex 1 = .ok (.ifCond .lt 8, 3) := by decide +kernel
theorem dX6_needIndex_4 : decode cX6_needIndex 4 = .ok (.iload_n 0, 1) := by decide +kernel
theorem dX6_needIndex_5 : decode cX6_needIndex 5 = .ok (.iload_n 1, 1) := by decide +kernel
theorem dX6_needIndex_6 : decode cX6_needIndex 6 = .ok (.if_icmp .lt 13, 3) := by decide +kernel
theorem dX6_needIndex_9 : decode cX6_needIndex 9 = .ok (.new 201, 3) := by decide +kernel
theorem dX6_needIndex_12 : decode cX6_needIndex 12 = .ok (.dup, 1) := by decide +kernel
theorem dX6_needIndex_13 : decode cX6_needIndex 13 = .ok (.ldc 203, 2) := by decide +kernel
theorem dX6_needIndex_15 : decode cX6_needIndex 15 = .ok (.invokespecial 205, 3) := by decide +kernel
theorem dX6_needIndex_18 : decode cX6_needIndex 18 = .ok (.athrow, 1) := by decide +kernel
theorem dX6_needIndex_19 : decode cX6_needIndex 19 = .ok (.return_, 1) := by decide +kernel
theorem dX6_needWhole_0 : decode cX6_needWhole 0 = .ok (.iload_n 0, 1) := by decide +kernel
theorem dX6_needWhole_1 : decode cX6_needWhole 1 = .ok (.iload_n 1, 1) := by decide +kernel
theorem dX6_needWhole_2 : decode cX6_needWhole 2 = .ok (.if_icmp .lt 8, 3) := by decide +kernel
theorem dX6_needWhole_5 : decode cX6_needWhole 5 = .ok (.iload_n 0, 1) := by decide +kernel
theorem dX6_needWhole_6 : decode cX6_needWhole 6 = .ok (.iload_n 2, 1) := by decide +kernel
theorem dX6_needWhole_7 : decode cX6_needWhole 7 = .ok (.if_icmp .le 13, 3) := by decide +kernel
theorem dX6_needWhole_10 : decode cX6_needWhole 10 = .ok (.new 206, 3) := by decide +kernel
theorem dX6_needWhole_13 : decode cX6_needWhole 13 = .ok (.dup, 1) := by decide +kernel
theorem dX6_needWhole_14 : decode cX6_needWhole 14 = .ok (.ldc 208, 2) := by decide +kernel
theorem dX6_needWhole_16 : decode cX6_needWhole 16 = .ok (.invokespecial 210, 3) := by decide +kernel
theorem dX6_needWhole_19 : decode cX6_needWhole 19 = .ok (.athrow, 1) := by decide +kernel
theorem dX6_needWhole_20 : decode cX6_needWhole 20 = .ok (.return_, 1) := by decide +kernel
theorem dX6_needAmount_0 : decode cX6_needAmount 0 = .ok (.dload_n 0, 1) := by decide +kernel
theorem dX6_needAmount_1 : decode cX6_needAmount 1 = .ok (.iload_n 2, 1) := by decide +kernel
theorem dX6_needAmount_2 : decode cX6_needAmount 2 = .ok (.i2d, 1) := by decide +kernel
theorem dX6_needAmount_3 : decode cX6_needAmount 3 = .ok (.dcmp .l, 1) := by decide +kernel
theorem dX6_needAmount_4 : decode cX6_needAmount 4 = .ok (.ifCond .lt 30, 3) := by decide +kernel
theorem dX6_needAmount_7 : decode cX6_needAmount 7 = .ok (.dload_n 0, 1) := by decide +kernel
theorem dX6_needAmount_8 : decode cX6_needAmount 8 = .ok (.iload_n 3, 1) := by decide +kernel
theorem dX6_needAmount_9 : decode cX6_needAmount 9 = .ok (.i2d, 1) := by decide +kernel
theorem dX6_needAmount_10 : decode cX6_needAmount 10 = .ok (.dcmp .g, 1) := by decide +kernel
theorem dX6_needAmount_11 : decode cX6_needAmount 11 = .ok (.ifCond .gt 23, 3) := by decide +kernel
theorem dX6_needAmount_14 : decode cX6_needAmount 14 = .ok (.dload_n 0, 1) := by decide +kernel
theorem dX6_needAmount_15 : decode cX6_needAmount 15 = .ok (.ldc2_w 211, 3) := by decide +kernel
theorem dX6_needAmount_18 : decode cX6_needAmount 18 = .ok (.dmul, 1) := by decide +kernel
theorem dX6_needAmount_19 : decode cX6_needAmount 19 = .ok (.dload_n 0, 1) := by decide +kernel
theorem dX6_needAmount_20 : decode cX6_needAmount 20 = .ok (.ldc2_w 211, 3) := by decide +kernel
theorem dX6_needAmount_23 : decode cX6_needAmount 23 = .ok (.dmul, 1) := by decide +kernel
theorem dX6_needAmount_24 : decode cX6_needAmount 24 = .ok (.d2i, 1) := by decide +kernel
theorem dX6_needAmount_25 : decode cX6_needAmount 25 = .ok (.i2d, 1) := by decide +kernel
theorem dX6_needAmount_26 : decode cX6_needAmount 26 = .ok (.dcmp .l, 1) := by decide +kernel
theorem dX6_needAmount_27 : decode cX6_needAmount 27 = .ok (.ifCond .ne 7, 3) := by decide +kernel
theorem dX6_needAmount_30 : decode cX6_needAmount 30 = .ok (.iconst 1, 1) := by decide +kernel
theorem dX6_needAmount_31 : decode cX6_needAmount 31 = .ok (.goto 4, 3) := by decide +kernel
theorem dX6_needAmount_34 : decode cX6_needAmount 34 = .ok (.iconst 0, 1) := by decide +kernel
theorem dX6_needAmount_35 : decode cX6_needAmount 35 = .ok (.istore 4, 2) := by decide +kernel
theorem dX6_needAmount_37 : decode cX6_needAmount 37 = .ok (.iload 4, 2) := by decide +kernel
theorem dX6_needAmount_39 : decode cX6_needAmount 39 = .ok (.ifCond .ne 13, 3) := by decide +kernel
theorem dX6_needAmount_42 : decode cX6_needAmount 42 = .ok (.new 206, 3) := by decide +kernel
theorem dX6_needAmount_45 : decode cX6_needAmount 45 = .ok (.dup, 1) := by decide +kernel
theorem dX6_needAmount_46 : decode cX6_needAmount 46 = .ok (.ldc 213, 2) := by decide +kernel
theorem dX6_needAmount_48 : decode cX6_needAmount 48 = .ok (.invokespecial 210, 3) := by decide +kernel
theorem dX6_needAmount_51 : decode cX6_needAmount 51 = .ok (.athrow, 1) := by decide +kernel
theorem dX6_needAmount_52 : decode cX6_needAmount 52 = .ok (.return_, 1) := by decide +kernel
set_option maxRecDepth 20000 in
theorem ggX6_beginAnew_X3_beginAnew : GoodIn wsX6_beginAnew wsX3_beginAnew := goodIn_r _ [19, 20, 21, 22, 23, 24, 25, 65, 66, 67, 68, 69, 70, 71, 72] (by decide +kernel) (by decide +kernel)
set_option maxRecDepth 20000 in
theorem gX6_beginAnew_X3_beginAnew : GoodIn wsX6_beginAnew (wsV RX6 218 RX3 yX3_beginAnew wsX3_beginAnew) := goodIn_app (goodIn_of _ (by decide +kernel)) ggX6_beginAnew_X3_beginAnew
set_option maxRecDepth 20000 in
theorem ggX6_beginAnew_X0_beginAnew : GoodIn wsX6_beginAnew wsX0_beginAnew := goodIn_r _ [30, 31, 32, 33, 73, 74, 75, 76] (by decide +kernel) (by decide +kernel)
set_option maxRecDepth 20000 in
theorem gX6_beginAnew_X0_beginAnew : GoodIn wsX6_beginAnew (wsV RX6 219 RX0 yX0_beginAnew wsX0_beginAnew) := goodIn_app (goodIn_of _ (by decide +kernel)) ggX6_beginAnew_X0_beginAnew
set_option maxRecDepth 20000 in
theorem ggX6_beginAnew_X4_beginAnew : GoodIn wsX6_beginAnew wsX4_beginAnew := goodIn_r _ [38, 39, 40, 77, 78] (by decide +kernel) (by decide +kernel)
set_option maxRecDepth 20000 in
theorem gX6_beginAnew_X4_beginAnew : GoodIn wsX6_beginAnew (wsV RX6 220 RX4 yX4_beginAnew wsX4_beginAnew) := goodIn_app (goodIn_of _ (by decide +kernel)) ggX6_beginAnew_X4_beginAnew
set_option maxRecDepth 20000 in
theorem ggX6_beginAnew_X1_beginAnew : GoodIn wsX6_beginAnew wsX1_beginAnew := goodIn_r _ [45, 46, 47, 79, 80, 81, 82, 83] (by decide +kernel) (by decide +kernel)
set_option maxRecDepth 20000 in
theorem gX6_beginAnew_X1_beginAnew : GoodIn wsX6_beginAnew (wsV RX6 221 RX1 yX1_beginAnew wsX1_beginAnew) := goodIn_app (goodIn_of _ (by decide +kernel)) ggX6_beginAnew_X1_beginAnew
theorem dX6_beginAnew_0 : decode cX6_beginAnew 0 = .ok (.aload_n 0, 1) := by decide +kernel
theorem dX6_beginAnew_1 : decode cX6_beginAnew 1 = .ok (.iconst 0, 1) := by decide +kernel
theorem dX6_beginAnew_2 : decode cX6_beginAnew 2 = .ok (.putfield 104, 3) := by decide +kernel
theorem dX6_beginAnew_5 : decode cX6_beginAnew 5 = .ok (.aload_n 0, 1) := by decide +kernel
theorem dX6_beginAnew_6 : decode cX6_beginAnew 6 = .ok (.iconst 0, 1) := by decide +kernel
theorem dX6_beginAnew_7 : decode cX6_beginAnew 7 = .ok (.putfield 138, 3) := by decide +kernel
theorem dX6_beginAnew_10 : decode cX6_beginAnew 10 = .ok (.aload_n 0, 1) := by decide +kernel
theorem dX6_beginAnew_11 : decode cX6_beginAnew 11 = .ok (.dconst 0, 1) := by decide +kernel
theorem dX6_beginAnew_12 : decode cX6_beginAnew 12 = .ok (.putfield 101, 3) := by decide +kernel
theorem dX6_beginAnew_15 : decode cX6_beginAnew 15 = .ok (.aload_n 0, 1) := by decide +kernel
theorem dX6_beginAnew_16 : decode cX6_beginAnew 16 = .ok (.dconst 0, 1) := by decide +kernel
theorem dX6_beginAnew_17 : decode cX6_beginAnew 17 = .ok (.putfield 161, 3) := by decide +kernel
theorem dX6_beginAnew_20 : decode cX6_beginAnew 20 = .ok (.aload_n 0, 1) := by decide +kernel
theorem dX6_beginAnew_21 : decode cX6_beginAnew 21 = .ok (.iconst 0, 1) := by decide +kernel
theorem dX6_beginAnew_22 : decode cX6_beginAnew 22 = .ok (.putfield 215, 3) := by decide +kernel
theorem dX6_beginAnew_25 : decode cX6_beginAnew 25 = .ok (.aload_n 0, 1) := by decide +kernel
theorem dX6_beginAnew_26 : decode cX6_beginAnew 26 = .ok (.dconst 0, 1) := by decide +kernel
theorem dX6_beginAnew_27 : decode cX6_beginAnew 27 = .ok (.putfield 74, 3) := by decide +kernel
theorem dX6_beginAnew_30 : decode cX6_beginAnew 30 = .ok (.aload_n 0, 1) := by decide +kernel
theorem dX6_beginAnew_31 : decode cX6_beginAnew 31 = .ok (.iconst 0, 1) := by decide +kernel
theorem dX6_beginAnew_32 : decode cX6_beginAnew 32 = .ok (.putfield 94, 3) := by decide +kernel
theorem dX6_beginAnew_35 : decode cX6_beginAnew 35 = .ok (.aload_n 0, 1) := by decide +kernel
theorem dX6_beginAnew_36 : decode cX6_beginAnew 36 = .ok (.iconst 0, 1) := by decide +kernel
theorem dX6_beginAnew_37 : decode cX6_beginAnew 37 = .ok (.putfield 97, 3) := by decide +kernel
theorem dX6_beginAnew_40 : decode cX6_beginAnew 40 = .ok (.aload_n 0, 1) := by decide +kernel
theorem dX6_beginAnew_41 : decode cX6_beginAnew 41 = .ok (.dconst 0, 1) := by decide +kernel
theorem dX6_beginAnew_42 : decode cX6_beginAnew 42 = .ok (.putfield 167, 3) := by decide +kernel
theorem dX6_beginAnew_45 : decode cX6_beginAnew 45 = .ok (.aload_n 0, 1) := by decide +kernel
theorem dX6_beginAnew_46 : decode cX6_beginAnew 46 = .ok (.dconst 0, 1) := by decide +kernel
theorem dX6_beginAnew_47 : decode cX6_beginAnew 47 = .ok (.putfield 164, 3) := by decide +kernel
theorem dX6_beginAnew_50 : decode cX6_beginAnew 50 = .ok (.aload_n 0, 1) := by decide +kernel
theorem dX6_beginAnew_51 : decode cX6_beginAnew 51 = .ok (.getfield 15, 3) := by decide +kernel
theorem dX6_beginAnew_54 : decode cX6_beginAnew 54 = .ok (.astore_n 1, 1) := by decide +kernel
theorem dX6_beginAnew_55 : decode cX6_beginAnew 55 = .ok (.aload_n 1, 1) := by decide +kernel
theorem dX6_beginAnew_56 : decode cX6_beginAnew 56 = .ok (.arraylength, 1) := by decide +kernel
theorem dX6_beginAnew_57 : decode cX6_beginAnew 57 = .ok (.istore_n 2, 1) := by decide +kernel
theorem dX6_beginAnew_58 : decode cX6_beginAnew 58 = .ok (.iconst 0, 1) := by decide +kernel
theorem dX6_beginAnew_59 : decode cX6_beginAnew 59 = .ok (.istore_n 3, 1) := by decide +kernel
theorem dX6_beginAnew_60 : decode cX6_beginAnew 60 = .ok (.iload_n 3, 1) := by decide +kernel
theorem dX6_beginAnew_61 : decode cX6_beginAnew 61 = .ok (.iload_n 2, 1) := by decide +kernel
theorem dX6_beginAnew_62 : decode cX6_beginAnew 62 = .ok (.if_icmp .ge 19, 3) := by decide +kernel
theorem dX6_beginAnew_65 : decode cX6_beginAnew 65 = .ok (.aload_n 1, 1) := by decide +kernel
theorem dX6_beginAnew_66 : decode cX6_beginAnew 66 = .ok (.iload_n 3, 1) := by decide +kernel
theorem dX6_beginAnew_67 : decode cX6_beginAnew 67 = .ok (.aaload, 1) := by decide +kernel
theorem dX6_beginAnew_68 : decode cX6_beginAnew 68 = .ok (.astore 4, 2) := by decide +kernel
theorem dX6_beginAnew_70 : decode cX6_beginAnew 70 = .ok (.aload 4, 2) := by decide +kernel
theorem dX6_beginAnew_72 : decode cX6_beginAnew 72 = .ok (.invokevirtual 218, 3) := by decide +kernel
theorem dX6_beginAnew_75 : decode cX6_beginAnew 75 = .ok (.iinc 3 1, 3) := by decide +kernel
theorem dX6_beginAnew_78 : decode cX6_beginAnew 78 = .ok (.goto (-18), 3) := by decide +kernel
theorem dX6_beginAnew_81 : decode cX6_beginAnew 81 = .ok (.aload_n 0, 1) := by decide +kernel
theorem dX6_beginAnew_82 : decode cX6_beginAnew 82 = .ok (.getfield 39, 3) := by decide +kernel
theorem dX6_beginAnew_85 : decode cX6_beginAnew 85 = .ok (.invokevirtual 219, 3) := by decide +kernel
theorem dX6_beginAnew_88 : decode cX6_beginAnew 88 = .ok (.aload_n 0, 1) := by decide +kernel
theorem dX6_beginAnew_89 : decode cX6_beginAnew 89 = .ok (.getfield 46, 3) := by decide +kernel
theorem dX6_beginAnew_92 : decode cX6_beginAnew 92 = .ok (.invokevirtual 220, 3) := by decide +kernel
theorem dX6_beginAnew_95 : decode cX6_beginAnew 95 = .ok (.aload_n 0, 1) := by decide +kernel
theorem dX6_beginAnew_96 : decode cX6_beginAnew 96 = .ok (.getfield 53, 3) := by decide +kernel
theorem dX6_beginAnew_99 : decode cX6_beginAnew 99 = .ok (.invokevirtual 221, 3) := by decide +kernel
theorem dX6_beginAnew_102 : decode cX6_beginAnew 102 = .ok (.return_, 1) := by decide +kernel
theorem dX6_chargeOfParts_0 : decode cX6_chargeOfParts 0 = .ok (.aload_n 0, 1) := by decide +kernel
theorem dX6_chargeOfParts_1 : decode cX6_chargeOfParts 1 = .ok (.getfield 20, 3) := by decide +kernel
theorem dX6_chargeOfParts_4 : decode cX6_chargeOfParts 4 = .ok (.i2l, 1) := by decide +kernel
theorem dX6_chargeOfParts_5 : decode cX6_chargeOfParts 5 = .ok (.ldc2_w 222, 3) := by decide +kernel
theorem dX6_chargeOfParts_8 : decode cX6_chargeOfParts 8 = .ok (.lmul, 1) := by decide +kernel
theorem dX6_chargeOfParts_9 : decode cX6_chargeOfParts 9 = .ok (.lstore_n 3, 1) := by decide +kernel
theorem dX6_chargeOfParts_10 : decode cX6_chargeOfParts 10 = .ok (.lconst 0, 1) := by decide +kernel
theorem dX6_chargeOfParts_11 : decode cX6_chargeOfParts 11 = .ok (.lload_n 3, 1) := by decide +kernel
theorem dX6_chargeOfParts_12 : decode cX6_chargeOfParts 12 = .ok (.lload_n 1, 1) := by decide +kernel
theorem dX6_chargeOfParts_13 : decode cX6_chargeOfParts 13 = .ok (.invokestatic 224, 3) := by decide +kernel
theorem dX6_chargeOfParts_16 : decode cX6_chargeOfParts 16 = .ok (.invokestatic 227, 3) := by decide +kernel
theorem dX6_chargeOfParts_19 : decode cX6_chargeOfParts 19 = .ok (.l2d, 1) := by decide +kernel
theorem dX6_chargeOfParts_20 : decode cX6_chargeOfParts 20 = .ok (.ldc2_w 229, 3) := by decide +kernel
theorem dX6_chargeOfParts_23 : decode cX6_chargeOfParts 23 = .ok (.ddiv, 1) := by decide +kernel
theorem dX6_chargeOfParts_24 : decode cX6_chargeOfParts 24 = .ok (.dreturn, 1) := by decide +kernel
set_option maxRecDepth 20000 in
theorem ggX6_passOneTick_X5_look : GoodIn wsX6_passOneTick wsX5_look := goodIn_r _ [15, 16, 17, 18, 19, 20, 21, 22, 23, 24, 25, 26, 27, 28, 29, 30, 31, 32, 33, 34, 35, 36, 14, 37, 38, 39, 40, 41, 42, 43, 44, 45, 46, 47, 48, 49, 50, 51, 52, 53, 54, 55, 56, 57, 58, 59, 60, 61, 62, 63, 257, 258, 259, 260, 261, 262, 263, 245, 246, 247, 248, 249, 250, 251, 252] (by decide +kernel) (by decide +kernel)
set_option maxRecDepth 20000 in
theorem gX6_passOneTick_X5_look : GoodIn wsX6_passOneTick (wsV RX6 234 RX5 yX5_look wsX5_look) := goodIn_app (goodIn_of _ (by decide +kernel)) ggX6_passOneTick_X5_look
set_option maxRecDepth 20000 in
theorem ggX6_passOneTick_X6_moveCharge : GoodIn wsX6_passOneTick wsX6_moveCharge := goodIn_r _ [68, 69, 70, 71, 72, 73, 74, 75, 4, 76, 2, 77, 44, 41, 45, 78, 79, 80, 81, 67, 82, 83, 84, 85, 14, 86, 16, 17, 87, 88, 89, 90, 91, 228, 229, 230, 231, 232, 233, 234, 235, 236, 237, 238, 239, 240, 241, 242, 243, 244, 257, 258, 259, 260, 261, 262, 263] (by decide +kernel) (by decide +kernel)
set_option maxRecDepth 20000 in
theorem gX6_passOneTick_X6_moveCharge : GoodIn wsX6_passOneTick (wsV RX6 238 RX6 yX6_moveCharge wsX6_moveCharge) := goodIn_app (goodIn_of _ (by decide +kernel)) ggX6_passOneTick_X6_moveCharge
set_option maxRecDepth 20000 in
theorem ggX6_passOneTick_X6_tellAllowed : GoodIn wsX6_passOneTick wsX6_tellAllowed := goodIn_r _ [95, 4, 96, 97, 98, 40, 41, 42, 99, 69, 100, 101, 102, 71, 103, 104, 105, 67, 106, 107, 108, 109, 110, 111, 112, 113, 114, 115, 116, 117, 118, 119, 120, 121, 122, 123, 124, 125, 126, 228, 229, 230, 231, 232, 233, 234, 235, 236, 237, 238, 239, 240, 241, 242, 243, 244, 257, 258, 259, 260, 261, 262, 263] (by decide +kernel) (by decide +kernel)
set_option maxRecDepth 20000 in
theorem gX6_passOneTick_X6_tellAllowed : GoodIn wsX6_passOneTick (wsV RX6 241 RX6 yX6_tellAllowed wsX6_tellAllowed) := goodIn_app (goodIn_of _ (by decide +kernel)) ggX6_passOneTick_X6_tellAllowed
set_option maxRecDepth 20000 in
theorem ggX6_passOneTick_X6_watchCauses : GoodIn wsX6_passOneTick wsX6_watchCauses := goodIn_r _ [130, 8, 9, 4, 131, 132, 133, 134, 96, 135, 97, 136, 70, 101, 113, 103, 137, 138, 139, 140, 141, 142, 143, 40, 41, 42, 144, 145, 146, 147, 148, 149, 150, 151, 152, 153, 154, 228, 229, 230, 231, 232, 233, 234, 235, 236, 237, 238, 239, 240, 241, 242, 243, 244, 253, 254, 255, 256, 257, 258, 259, 260, 261, 262, 263] (by decide +kernel) (by decide +kernel)
set_option maxRecDepth 20000 in
theorem gX6_passOneTick_X6_watchCauses : GoodIn wsX6_passOneTick (wsV RX6 244 RX6 yX6_watchCauses wsX6_watchCauses) := goodIn_app (goodIn_of _ (by decide +kernel)) ggX6_passOneTick_X6_watchCauses
set_option maxRecDepth 20000 in
theorem ggX6_passOneTick_X4_step : GoodIn wsX6_passOneTick wsX4_step := goodIn_r _ [159, 160, 161, 162, 163, 164, 140, 165, 149, 166, 167, 168, 158, 169, 170, 171, 146, 147, 148, 150, 151, 152, 153, 154, 172, 173, 174, 175, 176, 84, 85, 14, 86, 16, 17, 264, 265, 253, 254, 255, 256, 257, 258, 259, 260, 261, 262, 263] (by decide +kernel) (by decide +kernel)
set_option maxRecDepth 20000 in
theorem gX6_passOneTick_X4_step : GoodIn wsX6_passOneTick (wsV RX6 247 RX4 yX4_step wsX4_step) := goodIn_app (goodIn_of _ (by decide +kernel)) ggX6_passOneTick_X4_step
set_option maxRecDepth 20000 in
theorem ggX6_passOneTick_X6_letBleed : GoodIn wsX6_passOneTick wsX6_letBleed := goodIn_r _ [180, 5, 181, 8, 115, 2, 4, 134, 1, 182, 183, 163, 164, 140, 165, 149, 79, 80, 81, 67, 82, 70, 184, 185, 186, 30, 187, 50, 188, 47, 48, 49, 51, 52, 28, 29, 31, 32, 33, 53, 54, 55, 56, 57, 58, 59, 60, 61, 62, 63, 228, 229, 230, 231, 232, 233, 234, 235, 236, 237, 238, 239, 240, 241, 242, 243, 244, 264, 265, 257, 258, 259, 260, 261, 262, 263, 245, 246, 247, 248, 249, 250, 251, 252, 253, 254, 255, 256] (by decide +kernel) (by decide +kernel)
set_option maxRecDepth 20000 in
theorem gX6_passOneTick_X6_letBleed : GoodIn wsX6_passOneTick (wsV RX6 251 RX6 yX6_letBleed wsX6_letBleed) := goodIn_app (goodIn_of _ (by decide +kernel)) ggX6_passOneTick_X6_letBleed
set_option maxRecDepth 20000 in
theorem ggX6_passOneTick_X6_writeBlock : GoodIn wsX6_passOneTick wsX6_writeBlock := goodIn_r _ [192, 69, 193, 194, 1, 8, 195, 5, 181, 196, 197, 198, 199, 200, 201, 202, 203, 204, 205, 206, 207, 208, 209, 210, 211, 212, 213, 214, 40, 41, 42, 215, 44, 45, 216, 217, 218, 219, 220, 221, 222, 223, 224, 225, 226, 227, 228, 229, 230, 231, 232, 233, 234, 235, 236, 237, 238, 239, 240, 241, 242, 243, 244, 253, 254, 255, 256, 264, 265, 266, 267, 268, 269, 270] (by decide +kernel) (by decide +kernel)
set_option maxRecDepth 20000 in
theorem gX6_passOneTick_X6_writeBlock : GoodIn wsX6_passOneTick (wsV RX6 257 RX6 yX6_writeBlock wsX6_writeBlock) := goodIn_app (goodIn_of _ (by decide +kernel)) ggX6_passOneTick_X6_writeBlock
theorem dX6_passOneTick_0 : decode cX6_passOneTick 0 = .ok (.aload_n 0, 1) := by decide +kernel
theorem dX6_passOneTick_1 : decode cX6_passOneTick 1 = .ok (.dup, 1) := by decide +kernel
theorem dX6_passOneTick_2 : decode cX6_passOneTick 2 = .ok (.getfield 138, 3) := by decide +kernel
theorem dX6_passOneTick_5 : decode cX6_passOneTick 5 = .ok (.iconst 1, 1) := by decide +kernel
theorem dX6_passOneTick_6 : decode cX6_passOneTick 6 = .ok (.iadd, 1) := by decide +kernel
theorem dX6_passOneTick_7 : decode cX6_passOneTick 7 = .ok (.putfield 138, 3) := by decide +kernel
theorem dX6_passOneTick_10 : decode cX6_passOneTick 10 = .ok (.aload_n 0, 1) := by decide +kernel
theorem dX6_passOneTick_11 : decode cX6_passOneTick 11 = .ok (.getfield 15, 3) := by decide +kernel
theorem dX6_passOneTick_14 : decode cX6_passOneTick 14 = .ok (.astore_n 1, 1) := by decide +kernel
theorem dX6_passOneTick_15 : decode cX6_passOneTick 15 = .ok (.aload_n 1, 1) := by decide +kernel
theorem dX6_passOneTick_16 : decode cX6_passOneTick 16 = .ok (.arraylength, 1) := by decide +kernel
theorem dX6_passOneTick_17 : decode cX6_passOneTick 17 = .ok (.istore_n 2, 1) := by decide +kernel
theorem dX6_passOneTick_18 : decode cX6_passOneTick 18 = .ok (.iconst 0, 1) := by decide +kernel
theorem dX6_passOneTick_19 : decode cX6_passOneTick 19 = .ok (.istore_n 3, 1) := by decide +kernel
theorem dX6_passOneTick_20 : decode cX6_passOneTick 20 = .ok (.iload_n 3, 1) := by decide +kernel
theorem dX6_passOneTick_21 : decode cX6_passOneTick 21 = .ok (.iload_n 2, 1) := by decide +kernel
theorem dX6_passOneTick_22 : decode cX6_passOneTick 22 = .ok (.if_icmp .ge 25, 3) := by decide +kernel
theorem dX6_passOneTick_25 : decode cX6_passOneTick 25 = .ok (.aload_n 1, 1) := by decide +kernel
theorem dX6_passOneTick_26 : decode cX6_passOneTick 26 = .ok (.iload_n 3, 1) := by decide +kernel
theorem dX6_passOneTick_27 : decode cX6_passOneTick 27 = .ok (.aaload, 1) := by decide +kernel
theorem dX6_passOneTick_28 : decode cX6_passOneTick 28 = .ok (.astore 4, 2) := by decide +kernel
theorem dX6_passOneTick_30 : decode cX6_passOneTick 30 = .ok (.aload 4, 2) := by decide +kernel
theorem dX6_passOneTick_32 : decode cX6_passOneTick 32 = .ok (.dup, 1) := by decide +kernel
theorem dX6_passOneTick_33 : decode cX6_passOneTick 33 = .ok (.getfield 231, 3) := by decide +kernel
theorem dX6_passOneTick_36 : decode cX6_passOneTick 36 = .ok (.iconst 1, 1) := by decide +kernel
theorem dX6_passOneTick_37 : decode cX6_passOneTick 37 = .ok (.iadd, 1) := by decide +kernel
theorem dX6_passOneTick_38 : decode cX6_passOneTick 38 = .ok (.putfield 231, 3) := by decide +kernel
theorem dX6_passOneTick_41 : decode cX6_passOneTick 41 = .ok (.iinc 3 1, 3) := by decide +kernel
theorem dX6_passOneTick_44 : decode cX6_passOneTick 44 = .ok (.goto (-24), 3) := by decide +kernel
theorem dX6_passOneTick_47 : decode cX6_passOneTick 47 = .ok (.aload_n 0, 1) := by decide +kernel
theorem dX6_passOneTick_48 : decode cX6_passOneTick 48 = .ok (.getfield 30, 3) := by decide +kernel
theorem dX6_passOneTick_51 : decode cX6_passOneTick 51 = .ok (.aload_n 0, 1) := by decide +kernel
theorem dX6_passOneTick_52 : decode cX6_passOneTick 52 = .ok (.getfield 15, 3) := by decide +kernel
theorem dX6_passOneTick_55 : decode cX6_passOneTick 55 = .ok (.invokevirtual 234, 3) := by decide +kernel
theorem dX6_passOneTick_58 : decode cX6_passOneTick 58 = .ok (.aload_n 0, 1) := by decide +kernel
theorem dX6_passOneTick_59 : decode cX6_passOneTick 59 = .ok (.invokevirtual 238, 3) := by decide +kernel
theorem dX6_passOneTick_62 : decode cX6_passOneTick 62 = .ok (.aload_n 0, 1) := by decide +kernel
theorem dX6_passOneTick_63 : decode cX6_passOneTick 63 = .ok (.invokevirtual 241, 3) := by decide +kernel
theorem dX6_passOneTick_66 : decode cX6_passOneTick 66 = .ok (.aload_n 0, 1) := by decide +kernel
theorem dX6_passOneTick_67 : decode cX6_passOneTick 67 = .ok (.invokevirtual 244, 3) := by decide +kernel
theorem dX6_passOneTick_70 : decode cX6_passOneTick 70 = .ok (.aload_n 0, 1) := by decide +kernel
theorem dX6_passOneTick_71 : decode cX6_passOneTick 71 = .ok (.getfield 46, 3) := by decide +kernel
theorem dX6_passOneTick_74 : decode cX6_passOneTick 74 = .ok (.aload_n 0, 1) := by decide +kernel
theorem dX6_passOneTick_75 : decode cX6_passOneTick 75 = .ok (.getfield 97, 3) := by decide +kernel
theorem dX6_passOneTick_78 : decode cX6_passOneTick 78 = .ok (.aload_n 0, 1) := by decide +kernel
theorem dX6_passOneTick_79 : decode cX6_passOneTick 79 = .ok (.getfield 94, 3) := by decide +kernel
theorem dX6_passOneTick_82 : decode cX6_passOneTick 82 = .ok (.aload_n 0, 1) := by decide +kernel
theorem dX6_passOneTick_83 : decode cX6_passOneTick 83 = .ok (.getfield 30, 3) := by decide +kernel
theorem dX6_passOneTick_86 : decode cX6_passOneTick 86 = .ok (.aload_n 0, 1) := by decide +kernel
theorem dX6_passOneTick_87 : decode cX6_passOneTick 87 = .ok (.getfield 39, 3) := by decide +kernel
theorem dX6_passOneTick_90 : decode cX6_passOneTick 90 = .ok (.invokevirtual 247, 3) := by decide +kernel
theorem dX6_passOneTick_93 : decode cX6_passOneTick 93 = .ok (.aload_n 0, 1) := by decide +kernel
theorem dX6_passOneTick_94 : decode cX6_passOneTick 94 = .ok (.invokevirtual 251, 3) := by decide +kernel
theorem dX6_passOneTick_97 : decode cX6_passOneTick 97 = .ok (.aload_n 0, 1) := by decide +kernel
theorem dX6_passOneTick_98 : decode cX6_passOneTick 98 = .ok (.getfield 39, 3) := by decide +kernel
theorem dX6_passOneTick_101 : decode cX6_passOneTick 101 = .ok (.getfield 254, 3) := by decide +kernel
theorem dX6_passOneTick_104 : decode cX6_passOneTick 104 = .ok (.ifCond .ne 15, 3) := by decide +kernel
theorem dX6_passOneTick_107 : decode cX6_passOneTick 107 = .ok (.aload_n 0, 1) := by decide +kernel
theorem dX6_passOneTick_108 : decode cX6_passOneTick 108 = .ok (.getfield 138, 3) := by decide +kernel
theorem dX6_passOneTick_111 : decode cX6_passOneTick 111 = .ok (.aload_n 0, 1) := by decide +kernel
theorem dX6_passOneTick_112 : decode cX6_passOneTick 112 = .ok (.getfield 24, 3) := by decide +kernel
theorem dX6_passOneTick_115 : decode cX6_passOneTick 115 = .ok (.irem, 1) := by decide +kernel
theorem dX6_passOneTick_116 : decode cX6_passOneTick 116 = .ok (.ifCond .ne 7, 3) := by decide +kernel
theorem dX6_passOneTick_119 : decode cX6_passOneTick 119 = .ok (.aload_n 0, 1) := by decide +kernel
theorem dX6_passOneTick_120 : decode cX6_passOneTick 120 = .ok (.invokevirtual 257, 3) := by decide +kernel
theorem dX6_passOneTick_123 : decode cX6_passOneTick 123 = .ok (.return_, 1) := by decide +kernel
theorem dX6_currentSize_0 : decode cX6_currentSize 0 = .ok (.aload_n 0, 1) := by decide +kernel
theorem dX6_currentSize_1 : decode cX6_currentSize 1 = .ok (.getfield 74, 3) := by decide +kernel
theorem dX6_currentSize_4 : decode cX6_currentSize 4 = .ok (.dconst 0, 1) := by decide +kernel
theorem dX6_currentSize_5 : decode cX6_currentSize 5 = .ok (.dcmp .g, 1) := by decide +kernel
theorem dX6_currentSize_6 : decode cX6_currentSize 6 = .ok (.ifCond .ge 11, 3) := by decide +kernel
theorem dX6_currentSize_9 : decode cX6_currentSize 9 = .ok (.aload_n 0, 1) := by decide +kernel
theorem dX6_currentSize_10 : decode cX6_currentSize 10 = .ok (.getfield 74, 3) := by decide +kernel
theorem dX6_currentSize_13 : decode cX6_currentSize 13 = .ok (.dneg, 1) := by decide +kernel
theorem dX6_currentSize_14 : decode cX6_currentSize 14 = .ok (.goto 7, 3) := by decide +kernel
theorem dX6_currentSize_17 : decode cX6_currentSize 17 = .ok (.aload_n 0, 1) := by decide +kernel
theorem dX6_currentSize_18 : decode cX6_currentSize 18 = .ok (.getfield 74, 3) := by decide +kernel
theorem dX6_currentSize_21 : decode cX6_currentSize 21 = .ok (.dreturn, 1) := by decide +kernel
set_option maxRecDepth 20000 in
theorem ggX6_moveCharge_X6_currentSize : GoodIn wsX6_moveCharge wsX6_currentSize := goodIn_r _ [20, 2, 33, 34, 35, 36, 37, 38, 39, 40, 41, 42, 43, 44, 45, 46, 47, 48, 49] (by decide +kernel) (by decide +kernel)
set_option maxRecDepth 20000 in
theorem gX6_moveCharge_X6_currentSize : GoodIn wsX6_moveCharge (wsV RX6 260 RX6 yX6_currentSize wsX6_currentSize) := goodIn_app (goodIn_of _ (by decide +kernel)) ggX6_moveCharge_X6_currentSize
set_option maxRecDepth 20000 in
theorem ggX6_moveCharge_X5_allValid : GoodIn wsX6_moveCharge wsX5_allValid := goodIn_r _ [25, 26, 27, 50, 51, 52, 53, 54, 55, 56] (by decide +kernel) (by decide +kernel)
set_option maxRecDepth 20000 in
theorem gX6_moveCharge_X5_allValid : GoodIn wsX6_moveCharge (wsV RX6 268 RX5 yX5_allValid wsX5_allValid) := goodIn_app (goodIn_of _ (by decide +kernel)) ggX6_moveCharge_X5_allValid
set_option maxRecDepth 20000 in
theorem ggX6_moveCharge_X6_partsAtRest : GoodIn wsX6_moveCharge wsX6_partsAtRest := goodIn_r _ [30, 31, 32] (by decide +kernel) (by decide +kernel)
set_option maxRecDepth 20000 in
theorem gX6_moveCharge_X6_partsAtRest : GoodIn wsX6_moveCharge (va_wsS RX6 275 yX6_partsAtRest wsX6_partsAtRest) := goodIn_app (goodIn_of _ (by decide +kernel)) ggX6_moveCharge_X6_partsAtRest
theorem dX6_moveCharge_0 : decode cX6_moveCharge 0 = .ok (.aload_n 0, 1) := by decide +kernel
theorem dX6_moveCharge_1 : decode cX6_moveCharge 1 = .ok (.aload_n 0, 1) := by decide +kernel
theorem dX6_moveCharge_2 : decode cX6_moveCharge 2 = .ok (.getfield 101, 3) := by decide +kernel
theorem dX6_moveCharge_5 : decode cX6_moveCharge 5 = .ok (.aload_n 0, 1) := by decide +kernel
theorem dX6_moveCharge_6 : decode cX6_moveCharge 6 = .ok (.getfield 74, 3) := by decide +kernel
theorem dX6_moveCharge_9 : decode cX6_moveCharge 9 = .ok (.dsub, 1) := by decide +kernel
theorem dX6_moveCharge_10 : decode cX6_moveCharge 10 = .ok (.putfield 101, 3) := by decide +kernel
theorem dX6_moveCharge_13 : decode cX6_moveCharge 13 = .ok (.aload_n 0, 1) := by decide +kernel
theorem dX6_moveCharge_14 : decode cX6_moveCharge 14 = .ok (.getfield 101, 3) := by decide +kernel
theorem dX6_moveCharge_17 : decode cX6_moveCharge 17 = .ok (.dconst 0, 1) := by decide +kernel
theorem dX6_moveCharge_18 : decode cX6_moveCharge 18 = .ok (.dcmp .g, 1) := by decide +kernel
theorem dX6_moveCharge_19 : decode cX6_moveCharge 19 = .ok (.ifCond .ge 11, 3) := by decide +kernel
theorem dX6_moveCharge_22 : decode cX6_moveCharge 22 = .ok (.aload_n 0, 1) := by decide +kernel
theorem dX6_moveCharge_23 : decode cX6_moveCharge 23 = .ok (.dconst 0, 1) := by decide +kernel
theorem dX6_moveCharge_24 : decode cX6_moveCharge 24 = .ok (.putfield 101, 3) := by decide +kernel
theorem dX6_moveCharge_27 : decode cX6_moveCharge 27 = .ok (.goto 25, 3) := by decide +kernel
theorem dX6_moveCharge_30 : decode cX6_moveCharge 30 = .ok (.aload_n 0, 1) := by decide +kernel
theorem dX6_moveCharge_31 : decode cX6_moveCharge 31 = .ok (.getfield 101, 3) := by decide +kernel
theorem dX6_moveCharge_34 : decode cX6_moveCharge 34 = .ok (.aload_n 0, 1) := by decide +kernel
theorem dX6_moveCharge_35 : decode cX6_moveCharge 35 = .ok (.getfield 20, 3) := by decide +kernel
theorem dX6_moveCharge_38 : decode cX6_moveCharge 38 = .ok (.i2d, 1) := by decide +kernel
theorem dX6_moveCharge_39 : decode cX6_moveCharge 39 = .ok (.dcmp .l, 1) := by decide +kernel
theorem dX6_moveCharge_40 : decode cX6_moveCharge 40 = .ok (.ifCond .le 12, 3) := by decide +kernel
theorem dX6_moveCharge_43 : decode cX6_moveCharge 43 = .ok (.aload_n 0, 1) := by decide +kernel
theorem dX6_moveCharge_44 : decode cX6_moveCharge 44 = .ok (.aload_n 0, 1) := by decide +kernel
theorem dX6_moveCharge_45 : decode cX6_moveCharge 45 = .ok (.getfield 20, 3) := by decide +kernel
theorem dX6_moveCharge_48 : decode cX6_moveCharge 48 = .ok (.i2d, 1) := by decide +kernel
theorem dX6_moveCharge_49 : decode cX6_moveCharge 49 = .ok (.putfield 101, 3) := by decide +kernel
theorem dX6_moveCharge_52 : decode cX6_moveCharge 52 = .ok (.aload_n 0, 1) := by decide +kernel
theorem dX6_moveCharge_53 : decode cX6_moveCharge 53 = .ok (.aload_n 0, 1) := by decide +kernel
theorem dX6_moveCharge_54 : decode cX6_moveCharge 54 = .ok (.getfield 161, 3) := by decide +kernel
theorem dX6_moveCharge_57 : decode cX6_moveCharge 57 = .ok (.aload_n 0, 1) := by decide +kernel
theorem dX6_moveCharge_58 : decode cX6_moveCharge 58 = .ok (.invokevirtual 260, 3) := by decide +kernel
theorem dX6_moveCharge_61 : decode cX6_moveCharge 61 = .ok (.dadd, 1) := by decide +kernel
theorem dX6_moveCharge_62 : decode cX6_moveCharge 62 = .ok (.putfield 161, 3) := by decide +kernel
theorem dX6_moveCharge_65 : decode cX6_moveCharge 65 = .ok (.aload_n 0, 1) := by decide +kernel
theorem dX6_moveCharge_66 : decode cX6_moveCharge 66 = .ok (.getfield 161, 3) := by decide +kernel
theorem dX6_moveCharge_69 : decode cX6_moveCharge 69 = .ok (.ldc2_w 264, 3) := by decide +kernel
theorem dX6_moveCharge_72 : decode cX6_moveCharge 72 = .ok (.dcmp .l, 1) := by decide +kernel
theorem dX6_moveCharge_73 : decode cX6_moveCharge 73 = .ok (.ifCond .lt 15, 3) := by decide +kernel
theorem dX6_moveCharge_76 : decode cX6_moveCharge 76 = .ok (.aload_n 0, 1) := by decide +kernel
theorem dX6_moveCharge_77 : decode cX6_moveCharge 77 = .ok (.aload_n 0, 1) := by decide +kernel
theorem dX6_moveCharge_78 : decode cX6_moveCharge 78 = .ok (.getfield 161, 3) := by decide +kernel
theorem dX6_moveCharge_81 : decode cX6_moveCharge 81 = .ok (.ldc2_w 264, 3) := by decide +kernel
theorem dX6_moveCharge_84 : decode cX6_moveCharge 84 = .ok (.dsub, 1) := by decide +kernel
theorem dX6_moveCharge_85 : decode cX6_moveCharge 85 = .ok (.putfield 161, 3) := by decide +kernel
theorem dX6_moveCharge_88 : decode cX6_moveCharge 88 = .ok (.aload_n 0, 1) := by decide +kernel
theorem dX6_moveCharge_89 : decode cX6_moveCharge 89 = .ok (.aload_n 0, 1) := by decide +kernel
theorem dX6_moveCharge_90 : decode cX6_moveCharge 90 = .ok (.invokevirtual 260, 3) := by decide +kernel
theorem dX6_moveCharge_93 : decode cX6_moveCharge 93 = .ok (.ldc2_w 266, 3) := by decide +kernel
theorem dX6_moveCharge_96 : decode cX6_moveCharge 96 = .ok (.dcmp .g, 1) := by decide +kernel
theorem dX6_moveCharge_97 : decode cX6_moveCharge 97 = .ok (.ifCond .ge 12, 3) := by decide +kernel
theorem dX6_moveCharge_100 : decode cX6_moveCharge 100 = .ok (.aload_n 0, 1) := by decide +kernel
theorem dX6_moveCharge_101 : decode cX6_moveCharge 101 = .ok (.getfield 215, 3) := by decide +kernel
theorem dX6_moveCharge_104 : decode cX6_moveCharge 104 = .ok (.iconst 1, 1) := by decide +kernel
theorem dX6_moveCharge_105 : decode cX6_moveCharge 105 = .ok (.iadd, 1) := by decide +kernel
theorem dX6_moveCharge_106 : decode cX6_moveCharge 106 = .ok (.goto 4, 3) := by decide +kernel
theorem dX6_moveCharge_109 : decode cX6_moveCharge 109 = .ok (.iconst 0, 1) := by decide +kernel
theorem dX6_moveCharge_110 : decode cX6_moveCharge 110 = .ok (.putfield 215, 3) := by decide +kernel
theorem dX6_moveCharge_113 : decode cX6_moveCharge 113 = .ok (.aload_n 0, 1) := by decide +kernel
theorem dX6_moveCharge_114 : decode cX6_moveCharge 114 = .ok (.getfield 215, 3) := by decide +kernel
theorem dX6_moveCharge_117 : decode cX6_moveCharge 117 = .ok (.bipush 60, 2) := by decide +kernel
theorem dX6_moveCharge_119 : decode cX6_moveCharge 119 = .ok (.if_icmp .lt 53, 3) := by decide +kernel
theorem dX6_moveCharge_122 : decode cX6_moveCharge 122 = .ok (.aload_n 0, 1) := by decide +kernel
theorem dX6_moveCharge_123 : decode cX6_moveCharge 123 = .ok (.getfield 30, 3) := by decide +kernel
theorem dX6_moveCharge_126 : decode cX6_moveCharge 126 = .ok (.invokevirtual 268, 3) := by decide +kernel
theorem dX6_moveCharge_129 : decode cX6_moveCharge 129 = .ok (.ifCond .eq 43, 3) := by decide +kernel
theorem dX6_moveCharge_132 : decode cX6_moveCharge 132 = .ok (.aload_n 0, 1) := by decide +kernel
theorem dX6_moveCharge_133 : decode cX6_moveCharge 133 = .ok (.getfield 30, 3) := by decide +kernel
theorem dX6_moveCharge_136 : decode cX6_moveCharge 136 = .ok (.getfield 272, 3) := by decide +kernel
theorem dX6_moveCharge_139 : decode cX6_moveCharge 139 = .ok (.bipush 6, 2) := by decide +kernel
theorem dX6_moveCharge_141 : decode cX6_moveCharge 141 = .ok (.iconst 1, 1) := by decide +kernel
theorem dX6_moveCharge_142 : decode cX6_moveCharge 142 = .ok (.aload_n 0, 1) := by decide +kernel
theorem dX6_moveCharge_143 : decode cX6_moveCharge 143 = .ok (.getfield 15, 3) := by decide +kernel
theorem dX6_moveCharge_146 : decode cX6_moveCharge 146 = .ok (.arraylength, 1) := by decide +kernel
theorem dX6_moveCharge_147 : decode cX6_moveCharge 147 = .ok (.invokestatic 191, 3) := by decide +kernel
theorem dX6_moveCharge_150 : decode cX6_moveCharge 150 = .ok (.imul, 1) := by decide +kernel
theorem dX6_moveCharge_151 : decode cX6_moveCharge 151 = .ok (.idiv, 1) := by decide +kernel
theorem dX6_moveCharge_152 : decode cX6_moveCharge 152 = .ok (.istore_n 1, 1) := by decide +kernel
theorem dX6_moveCharge_153 : decode cX6_moveCharge 153 = .ok (.aload_n 0, 1) := by decide +kernel
theorem dX6_moveCharge_154 : decode cX6_moveCharge 154 = .ok (.aload_n 0, 1) := by decide +kernel
theorem dX6_moveCharge_155 : decode cX6_moveCharge 155 = .ok (.getfield 20, 3) := by decide +kernel
theorem dX6_moveCharge_158 : decode cX6_moveCharge 158 = .ok (.i2d, 1) := by decide +kernel
theorem dX6_moveCharge_159 : decode cX6_moveCharge 159 = .ok (.iload_n 1, 1) := by decide +kernel
theorem dX6_moveCharge_160 : decode cX6_moveCharge 160 = .ok (.invokestatic 275, 3) := by decide +kernel
theorem dX6_moveCharge_163 : decode cX6_moveCharge 163 = .ok (.i2d, 1) := by decide +kernel
theorem dX6_moveCharge_164 : decode cX6_moveCharge 164 = .ok (.dmul, 1) := by decide +kernel
theorem dX6_moveCharge_165 : decode cX6_moveCharge 165 = .ok (.ldc2_w 278, 3) := by decide +kernel
theorem dX6_moveCharge_168 : decode cX6_moveCharge 168 = .ok (.ddiv, 1) := by decide +kernel
theorem dX6_moveCharge_169 : decode cX6_moveCharge 169 = .ok (.putfield 101, 3) := by decide +kernel
theorem dX6_moveCharge_172 : decode cX6_moveCharge 172 = .ok (.return_, 1) := by decide +kernel
theorem dX6_partsAtRest_0 : decode cX6_partsAtRest 0 = .ok (.iload_n 0, 1) := by decide +kernel
theorem dX6_partsAtRest_1 : decode cX6_partsAtRest 1 = .ok (.getstatic 280, 3) := by decide +kernel
theorem dX6_partsAtRest_4 : decode cX6_partsAtRest 4 = .ok (.iconst 0, 1) := by decide +kernel
theorem dX6_partsAtRest_5 : decode cX6_partsAtRest 5 = .ok (.iaload, 1) := by decide +kernel
theorem dX6_partsAtRest_6 : decode cX6_partsAtRest 6 = .ok (.if_icmp .gt 9, 3) := by decide +kernel
theorem dX6_partsAtRest_9 : decode cX6_partsAtRest 9 = .ok (.getstatic 283, 3) := by decide +kernel
theorem dX6_partsAtRest_12 : decode cX6_partsAtRest 12 = .ok (.iconst 0, 1) := by decide +kernel
theorem dX6_partsAtRest_13 : decode cX6_partsAtRest 13 = .ok (.iaload, 1) := by decide +kernel
theorem dX6_partsAtRest_14 : decode cX6_partsAtRest 14 = .ok (.ireturn, 1) := by decide +kernel
theorem dX6_partsAtRest_15 : decode cX6_partsAtRest 15 = .ok (.iconst 1, 1) := by decide +kernel
theorem dX6_partsAtRest_16 : decode cX6_partsAtRest 16 = .ok (.istore_n 1, 1) := by decide +kernel
theorem dX6_partsAtRest_17 : decode cX6_partsAtRest 17 = .ok (.iload_n 1, 1) := by decide +kernel
theorem dX6_partsAtRest_18 : decode cX6_partsAtRest 18 = .ok (.getstatic 280, 3) := by decide +kernel
theorem dX6_partsAtRest_21 : decode cX6_partsAtRest 21 = .ok (.arraylength, 1) := by decide +kernel
theorem dX6_partsAtRest_22 : decode cX6_partsAtRest 22 = .ok (.if_icmp .ge 56, 3) := by decide +kernel
theorem dX6_partsAtRest_25 : decode cX6_partsAtRest 25 = .ok (.iload_n 0, 1) := by decide +kernel
theorem dX6_partsAtRest_26 : decode cX6_partsAtRest 26 = .ok (.getstatic 280, 3) := by decide +kernel
theorem dX6_partsAtRest_29 : decode cX6_partsAtRest 29 = .ok (.iload_n 1, 1) := by decide +kernel
theorem dX6_partsAtRest_30 : decode cX6_partsAtRest 30 = .ok (.iaload, 1) := by decide +kernel
theorem dX6_partsAtRest_31 : decode cX6_partsAtRest 31 = .ok (.if_icmp .ge 41, 3) := by decide +kernel
theorem dX6_partsAtRest_34 : decode cX6_partsAtRest 34 = .ok (.getstatic 280, 3) := by decide +kernel
theorem dX6_partsAtRest_37 : decode cX6_partsAtRest 37 = .ok (.iload_n 1, 1) := by decide +kernel
theorem dX6_partsAtRest_38 : decode cX6_partsAtRest 38 = .ok (.iconst 1, 1) := by decide +kernel
theorem dX6_partsAtRest_39 : decode cX6_partsAtRest 39 = .ok (.isub, 1) := by decide +kernel
theorem dX6_partsAtRest_40 : decode cX6_partsAtRest 40 = .ok (.iaload, 1) := by decide +kernel
theorem dX6_partsAtRest_41 : decode cX6_partsAtRest 41 = .ok (.istore_n 2, 1) := by decide +kernel
theorem dX6_partsAtRest_42 : decode cX6_partsAtRest 42 = .ok (.getstatic 283, 3) := by decide +kernel
theorem dX6_partsAtRest_45 : decode cX6_partsAtRest 45 = .ok (.iload_n 1, 1) := by decide +kernel
theorem dX6_partsAtRest_46 : decode cX6_partsAtRest 46 = .ok (.iconst 1, 1) := by decide +kernel
theorem dX6_partsAtRest_47 : decode cX6_partsAtRest 47 = .ok (.isub, 1) := by decide +kernel
theorem dX6_partsAtRest_48 : decode cX6_partsAtRest 48 = .ok (.iaload, 1) := by decide +kernel
theorem dX6_partsAtRest_49 : decode cX6_partsAtRest 49 = .ok (.istore_n 3, 1) := by decide +kernel
theorem dX6_partsAtRest_50 : decode cX6_partsAtRest 50 = .ok (.iload_n 3, 1) := by decide +kernel
theorem dX6_partsAtRest_51 : decode cX6_partsAtRest 51 = .ok (.getstatic 283, 3) := by decide +kernel
theorem dX6_partsAtRest_54 : decode cX6_partsAtRest 54 = .ok (.iload_n 1, 1) := by decide +kernel
theorem dX6_partsAtRest_55 : decode cX6_partsAtRest 55 = .ok (.iaload, 1) := by decide +kernel
theorem dX6_partsAtRest_56 : decode cX6_partsAtRest 56 = .ok (.iload_n 3, 1) := by decide +kernel
theorem dX6_partsAtRest_57 : decode cX6_partsAtRest 57 = .ok (.isub, 1) := by decide +kernel
theorem dX6_partsAtRest_58 : decode cX6_partsAtRest 58 = .ok (.iload_n 0, 1) := by decide +kernel
theorem dX6_partsAtRest_59 : decode cX6_partsAtRest 59 = .ok (.iload_n 2, 1) := by decide +kernel
theorem dX6_partsAtRest_60 : decode cX6_partsAtRest 60 = .ok (.isub, 1) := by decide +kernel
theorem dX6_partsAtRest_61 : decode cX6_partsAtRest 61 = .ok (.imul, 1) := by decide +kernel
theorem dX6_partsAtRest_62 : decode cX6_partsAtRest 62 = .ok (.getstatic 280, 3) := by decide +kernel
theorem dX6_partsAtRest_65 : decode cX6_partsAtRest 65 = .ok (.iload_n 1, 1) := by decide +kernel
theorem dX6_partsAtRest_66 : decode cX6_partsAtRest 66 = .ok (.iaload, 1) := by decide +kernel
theorem dX6_partsAtRest_67 : decode cX6_partsAtRest 67 = .ok (.iload_n 2, 1) := by decide +kernel
theorem dX6_partsAtRest_68 : decode cX6_partsAtRest 68 = .ok (.isub, 1) := by decide +kernel
theorem dX6_partsAtRest_69 : decode cX6_partsAtRest 69 = .ok (.idiv, 1) := by decide +kernel
theorem dX6_partsAtRest_70 : decode cX6_partsAtRest 70 = .ok (.iadd, 1) := by decide +kernel
theorem dX6_partsAtRest_71 : decode cX6_partsAtRest 71 = .ok (.ireturn, 1) := by decide +kernel
theorem dX6_partsAtRest_72 : decode cX6_partsAtRest 72 = .ok (.iinc 1 1, 3) := by decide +kernel
theorem dX6_partsAtRest_75 : decode cX6_partsAtRest 75 = .ok (.goto (-58), 3) := by decide +kernel
theorem dX6_partsAtRest_78 : decode cX6_partsAtRest 78 = .ok (.sipush 1024, 3) := by decide +kernel
theorem dX6_partsAtRest_81 : decode cX6_partsAtRest 81 = .ok (.ireturn, 1) := by decide +kernel
set_option maxRecDepth 20000 in
theorem ggX6_tellAllowed_X6_heatShare : GoodIn wsX6_tellAllowed wsX6_heatShare := goodIn_r _ [18, 19, 20, 10, 21] (by decide +kernel) (by decide +kernel)
set_option maxRecDepth 20000 in
theorem gX6_tellAllowed_X6_heatShare : GoodIn wsX6_tellAllowed (va_wsS RX6 289 yX6_heatShare wsX6_heatShare) := goodIn_app (goodIn_of _ (by decide +kernel)) ggX6_tellAllowed_X6_heatShare
set_option maxRecDepth 20000 in
theorem ggX6_tellAllowed_X6_coldShare : GoodIn wsX6_tellAllowed wsX6_coldShare := goodIn_r _ [24, 25, 26, 27, 28] (by decide +kernel) (by decide +kernel)
set_option maxRecDepth 20000 in
theorem gX6_tellAllowed_X6_coldShare : GoodIn wsX6_tellAllowed (va_wsS RX6 295 yX6_coldShare wsX6_coldShare) := goodIn_app (goodIn_of _ (by decide +kernel)) ggX6_tellAllowed_X6_coldShare
set_option maxRecDepth 20000 in
theorem ggX6_tellAllowed_X6_chargeShare : GoodIn wsX6_tellAllowed wsX6_chargeShare := goodIn_r _ [32, 33, 13, 34, 35, 36, 37, 17, 38, 39, 40, 41, 42, 43, 44, 45, 46, 47, 48, 49, 50, 51, 52, 53, 54, 55] (by decide +kernel) (by decide +kernel)
set_option maxRecDepth 20000 in
theorem gX6_tellAllowed_X6_chargeShare : GoodIn wsX6_tellAllowed (wsV RX6 300 RX6 yX6_chargeShare wsX6_chargeShare) := goodIn_app (goodIn_of _ (by decide +kernel)) ggX6_tellAllowed_X6_chargeShare
theorem dX6_tellAllowed_0 : decode cX6_tellAllowed 0 = .ok (.aload_n 0, 1) := by decide +kernel
theorem dX6_tellAllowed_1 : decode cX6_tellAllowed 1 = .ok (.getfield 30, 3) := by decide +kernel
theorem dX6_tellAllowed_4 : decode cX6_tellAllowed 4 = .ok (.getfield 286, 3) := by decide +kernel
theorem dX6_tellAllowed_7 : decode cX6_tellAllowed 7 = .ok (.invokestatic 289, 3) := by decide +kernel
theorem dX6_tellAllowed_10 : decode cX6_tellAllowed 10 = .ok (.aload_n 0, 1) := by decide +kernel
theorem dX6_tellAllowed_11 : decode cX6_tellAllowed 11 = .ok (.getfield 30, 3) := by decide +kernel
theorem dX6_tellAllowed_14 : decode cX6_tellAllowed 14 = .ok (.getfield 292, 3) := by decide +kernel
theorem dX6_tellAllowed_17 : decode cX6_tellAllowed 17 = .ok (.invokestatic 295, 3) := by decide +kernel
theorem dX6_tellAllowed_20 : decode cX6_tellAllowed 20 = .ok (.invokestatic 185, 3) := by decide +kernel
theorem dX6_tellAllowed_23 : decode cX6_tellAllowed 23 = .ok (.istore_n 1, 1) := by decide +kernel
theorem dX6_tellAllowed_24 : decode cX6_tellAllowed 24 = .ok (.aload_n 0, 1) := by decide +kernel
theorem dX6_tellAllowed_25 : decode cX6_tellAllowed 25 = .ok (.ldc2_w 298, 3) := by decide +kernel
theorem dX6_tellAllowed_28 : decode cX6_tellAllowed 28 = .ok (.iload_n 1, 1) := by decide +kernel
theorem dX6_tellAllowed_29 : decode cX6_tellAllowed 29 = .ok (.aload_n 0, 1) := by decide +kernel
theorem dX6_tellAllowed_30 : decode cX6_tellAllowed 30 = .ok (.aload_n 0, 1) := by decide +kernel
theorem dX6_tellAllowed_31 : decode cX6_tellAllowed 31 = .ok (.getfield 101, 3) := by decide +kernel
theorem dX6_tellAllowed_34 : decode cX6_tellAllowed 34 = .ok (.invokevirtual 300, 3) := by decide +kernel
theorem dX6_tellAllowed_37 : decode cX6_tellAllowed 37 = .ok (.invokestatic 185, 3) := by decide +kernel
theorem dX6_tellAllowed_40 : decode cX6_tellAllowed 40 = .ok (.i2d, 1) := by decide +kernel
theorem dX6_tellAllowed_41 : decode cX6_tellAllowed 41 = .ok (.dmul, 1) := by decide +kernel
theorem dX6_tellAllowed_42 : decode cX6_tellAllowed 42 = .ok (.ldc2_w 303, 3) := by decide +kernel
theorem dX6_tellAllowed_45 : decode cX6_tellAllowed 45 = .ok (.ddiv, 1) := by decide +kernel
theorem dX6_tellAllowed_46 : decode cX6_tellAllowed 46 = .ok (.putfield 167, 3) := by decide +kernel
theorem dX6_tellAllowed_49 : decode cX6_tellAllowed 49 = .ok (.aload_n 0, 1) := by decide +kernel
theorem dX6_tellAllowed_50 : decode cX6_tellAllowed 50 = .ok (.ldc2_w 305, 3) := by decide +kernel
theorem dX6_tellAllowed_53 : decode cX6_tellAllowed 53 = .ok (.iload_n 1, 1) := by decide +kernel
theorem dX6_tellAllowed_54 : decode cX6_tellAllowed 54 = .ok (.aload_n 0, 1) := by decide +kernel
theorem dX6_tellAllowed_55 : decode cX6_tellAllowed 55 = .ok (.aload_n 0, 1) := by decide +kernel
theorem dX6_tellAllowed_56 : decode cX6_tellAllowed 56 = .ok (.getfield 20, 3) := by decide +kernel
theorem dX6_tellAllowed_59 : decode cX6_tellAllowed 59 = .ok (.i2d, 1) := by decide +kernel
theorem dX6_tellAllowed_60 : decode cX6_tellAllowed 60 = .ok (.aload_n 0, 1) := by decide +kernel
theorem dX6_tellAllowed_61 : decode cX6_tellAllowed 61 = .ok (.getfield 101, 3) := by decide +kernel
theorem dX6_tellAllowed_64 : decode cX6_tellAllowed 64 = .ok (.dsub, 1) := by decide +kernel
theorem dX6_tellAllowed_65 : decode cX6_tellAllowed 65 = .ok (.invokevirtual 300, 3) := by decide +kernel
theorem dX6_tellAllowed_68 : decode cX6_tellAllowed 68 = .ok (.invokestatic 185, 3) := by decide +kernel
theorem dX6_tellAllowed_71 : decode cX6_tellAllowed 71 = .ok (.i2d, 1) := by decide +kernel
theorem dX6_tellAllowed_72 : decode cX6_tellAllowed 72 = .ok (.dmul, 1) := by decide +kernel
theorem dX6_tellAllowed_73 : decode cX6_tellAllowed 73 = .ok (.ldc2_w 303, 3) := by decide +kernel
theorem dX6_tellAllowed_76 : decode cX6_tellAllowed 76 = .ok (.ddiv, 1) := by decide +kernel
theorem dX6_tellAllowed_77 : decode cX6_tellAllowed 77 = .ok (.putfield 164, 3) := by decide +kernel
theorem dX6_tellAllowed_80 : decode cX6_tellAllowed 80 = .ok (.return_, 1) := by decide +kernel
theorem dX6_heatShare_0 : decode cX6_heatShare 0 = .ok (.dload_n 0, 1) := by decide +kernel
theorem dX6_heatShare_1 : decode cX6_heatShare 1 = .ok (.ldc2_w 307, 3) := by decide +kernel
theorem dX6_heatShare_4 : decode cX6_heatShare 4 = .ok (.dcmp .g, 1) := by decide +kernel
theorem dX6_heatShare_5 : decode cX6_heatShare 5 = .ok (.ifCond .gt 6, 3) := by decide +kernel
theorem dX6_heatShare_8 : decode cX6_heatShare 8 = .ok (.bipush 64, 2) := by decide +kernel
theorem dX6_heatShare_10 : decode cX6_heatShare 10 = .ok (.ireturn, 1) := by decide +kernel
theorem dX6_heatShare_11 : decode cX6_heatShare 11 = .ok (.dload_n 0, 1) := by decide +kernel
theorem dX6_heatShare_12 : decode cX6_heatShare 12 = .ok (.ldc2_w 309, 3) := by decide +kernel
theorem dX6_heatShare_15 : decode cX6_heatShare 15 = .ok (.dcmp .l, 1) := by decide +kernel
theorem dX6_heatShare_16 : decode cX6_heatShare 16 = .ok (.ifCond .lt 7, 3) := by decide +kernel
theorem dX6_heatShare_19 : decode cX6_heatShare 19 = .ok (.iconst 0, 1) := by decide +kernel
theorem dX6_heatShare_20 : decode cX6_heatShare 20 = .ok (.goto 17, 3) := by decide +kernel
theorem dX6_heatShare_23 : decode cX6_heatShare 23 = .ok (.ldc2_w 303, 3) := by decide +kernel
theorem dX6_heatShare_26 : decode cX6_heatShare 26 = .ok (.ldc2_w 311, 3) := by decide +kernel
theorem dX6_heatShare_29 : decode cX6_heatShare 29 = .ok (.dload_n 0, 1) := by decide +kernel
theorem dX6_heatShare_30 : decode cX6_heatShare 30 = .ok (.ldc2_w 307, 3) := by decide +kernel
theorem dX6_heatShare_33 : decode cX6_heatShare 33 = .ok (.dsub, 1) := by decide +kernel
theorem dX6_heatShare_34 : decode cX6_heatShare 34 = .ok (.dmul, 1) := by decide +kernel
theorem dX6_heatShare_35 : decode cX6_heatShare 35 = .ok (.dsub, 1) := by decide +kernel
theorem dX6_heatShare_36 : decode cX6_heatShare 36 = .ok (.d2i, 1) := by decide +kernel
theorem dX6_heatShare_37 : decode cX6_heatShare 37 = .ok (.ireturn, 1) := by decide +kernel
theorem dX6_coldShare_0 : decode cX6_coldShare 0 = .ok (.dload_n 0, 1) := by decide +kernel
theorem dX6_coldShare_1 : decode cX6_coldShare 1 = .ok (.ldc2_w 313, 3) := by decide +kernel
theorem dX6_coldShare_4 : decode cX6_coldShare 4 = .ok (.dcmp .l, 1) := by decide +kernel
theorem dX6_coldShare_5 : decode cX6_coldShare 5 = .ok (.ifCond .lt 6, 3) := by decide +kernel
theorem dX6_coldShare_8 : decode cX6_coldShare 8 = .ok (.bipush 64, 2) := by decide +kernel
theorem dX6_coldShare_10 : decode cX6_coldShare 10 = .ok (.ireturn, 1) := by decide +kernel
theorem dX6_coldShare_11 : decode cX6_coldShare 11 = .ok (.dload_n 0, 1) := by decide +kernel
theorem dX6_coldShare_12 : decode cX6_coldShare 12 = .ok (.ldc2_w 315, 3) := by decide +kernel
theorem dX6_coldShare_15 : decode cX6_coldShare 15 = .ok (.dcmp .g, 1) := by decide +kernel
theorem dX6_coldShare_16 : decode cX6_coldShare 16 = .ok (.ifCond .gt 7, 3) := by decide +kernel
theorem dX6_coldShare_19 : decode cX6_coldShare 19 = .ok (.iconst 0, 1) := by decide +kernel
theorem dX6_coldShare_20 : decode cX6_coldShare 20 = .ok (.goto 13, 3) := by decide +kernel
theorem dX6_coldShare_23 : decode cX6_coldShare 23 = .ok (.ldc2_w 317, 3) := by decide +kernel
theorem dX6_coldShare_26 : decode cX6_coldShare 26 = .ok (.dload_n 0, 1) := by decide +kernel
theorem dX6_coldShare_27 : decode cX6_coldShare 27 = .ok (.ldc2_w 319, 3) := by decide +kernel
theorem dX6_coldShare_30 : decode cX6_coldShare 30 = .ok (.dadd, 1) := by decide +kernel
theorem dX6_coldShare_31 : decode cX6_coldShare 31 = .ok (.dmul, 1) := by decide +kernel
theorem dX6_coldShare_32 : decode cX6_coldShare 32 = .ok (.d2i, 1) := by decide +kernel
theorem dX6_coldShare_33 : decode cX6_coldShare 33 = .ok (.ireturn, 1) := by decide +kernel
set_option maxRecDepth 20000 in
theorem ggX6_chargeShare_X6_wholeCapacities : GoodIn wsX6_chargeShare wsX6_wholeCapacities := goodIn_r _ [8, 2, 9, 10, 11, 12, 13, 14, 15, 16, 17, 18, 19, 20, 21, 22, 23, 24, 25] (by decide +kernel) (by decide +kernel)
set_option maxRecDepth 20000 in
theorem gX6_chargeShare_X6_wholeCapacities : GoodIn wsX6_chargeShare (wsV RX6 157 RX6 yX6_wholeCapacities wsX6_wholeCapacities) := goodIn_app (goodIn_of _ (by decide +kernel)) ggX6_chargeShare_X6_wholeCapacities
theorem dX6_chargeShare_0 : decode cX6_chargeShare 0 = .ok (.ldc2_w 211, 3) := by decide +kernel
theorem dX6_chargeShare_3 : decode cX6_chargeShare 3 = .ok (.dload_n 1, 1) := by decide +kernel
theorem dX6_chargeShare_4 : decode cX6_chargeShare 4 = .ok (.dmul, 1) := by decide +kernel
theorem dX6_chargeShare_5 : decode cX6_chargeShare 5 = .ok (.aload_n 0, 1) := by decide +kernel
theorem dX6_chargeShare_6 : decode cX6_chargeShare 6 = .ok (.getfield 20, 3) := by decide +kernel
theorem dX6_chargeShare_9 : decode cX6_chargeShare 9 = .ok (.i2d, 1) := by decide +kernel
theorem dX6_chargeShare_10 : decode cX6_chargeShare 10 = .ok (.dcmp .l, 1) := by decide +kernel
theorem dX6_chargeShare_11 : decode cX6_chargeShare 11 = .ok (.ifCond .lt 8, 3) := by decide +kernel
theorem dX6_chargeShare_14 : decode cX6_chargeShare 14 = .ok (.bipush 64, 2) := by decide +kernel
theorem dX6_chargeShare_16 : decode cX6_chargeShare 16 = .ok (.goto 12, 3) := by decide +kernel
theorem dX6_chargeShare_19 : decode cX6_chargeShare 19 = .ok (.aload_n 0, 1) := by decide +kernel
theorem dX6_chargeShare_20 : decode cX6_chargeShare 20 = .ok (.ldc2_w 321, 3) := by decide +kernel
theorem dX6_chargeShare_23 : decode cX6_chargeShare 23 = .ok (.dload_n 1, 1) := by decide +kernel
theorem dX6_chargeShare_24 : decode cX6_chargeShare 24 = .ok (.dmul, 1) := by decide +kernel
theorem dX6_chargeShare_25 : decode cX6_chargeShare 25 = .ok (.invokevirtual 157, 3) := by decide +kernel
theorem dX6_chargeShare_28 : decode cX6_chargeShare 28 = .ok (.ireturn, 1) := by decide +kernel
theorem dX6_wholeCapacities_0 : decode cX6_wholeCapacities 0 = .ok (.dload_n 1, 1) := by decide +kernel
theorem dX6_wholeCapacities_1 : decode cX6_wholeCapacities 1 = .ok (.aload_n 0, 1) := by decide +kernel
theorem dX6_wholeCapacities_2 : decode cX6_wholeCapacities 2 = .ok (.getfield 20, 3) := by decide +kernel
theorem dX6_wholeCapacities_5 : decode cX6_wholeCapacities 5 = .ok (.i2d, 1) := by decide +kernel
theorem dX6_wholeCapacities_6 : decode cX6_wholeCapacities 6 = .ok (.ddiv, 1) := by decide +kernel
theorem dX6_wholeCapacities_7 : decode cX6_wholeCapacities 7 = .ok (.d2i, 1) := by decide +kernel
theorem dX6_wholeCapacities_8 : decode cX6_wholeCapacities 8 = .ok (.istore_n 3, 1) := by decide +kernel
theorem dX6_wholeCapacities_9 : decode cX6_wholeCapacities 9 = .ok (.iload_n 3, 1) := by decide +kernel
theorem dX6_wholeCapacities_10 : decode cX6_wholeCapacities 10 = .ok (.i2d, 1) := by decide +kernel
theorem dX6_wholeCapacities_11 : decode cX6_wholeCapacities 11 = .ok (.aload_n 0, 1) := by decide +kernel
theorem dX6_wholeCapacities_12 : decode cX6_wholeCapacities 12 = .ok (.getfield 20, 3) := by decide +kernel
theorem dX6_wholeCapacities_15 : decode cX6_wholeCapacities 15 = .ok (.i2d, 1) := by decide +kernel
theorem dX6_wholeCapacities_16 : decode cX6_wholeCapacities 16 = .ok (.dmul, 1) := by decide +kernel
theorem dX6_wholeCapacities_17 : decode cX6_wholeCapacities 17 = .ok (.dload_n 1, 1) := by decide +kernel
theorem dX6_wholeCapacities_18 : decode cX6_wholeCapacities 18 = .ok (.dcmp .l, 1) := by decide +kernel
theorem dX6_wholeCapacities_19 : decode cX6_wholeCapacities 19 = .ok (.ifCond .le 9, 3) := by decide +kernel
theorem dX6_wholeCapacities_22 : decode cX6_wholeCapacities 22 = .ok (.iload_n 3, 1) := by decide +kernel
theorem dX6_wholeCapacities_23 : decode cX6_wholeCapacities 23 = .ok (.iconst 1, 1) := by decide +kernel
theorem dX6_wholeCapacities_24 : decode cX6_wholeCapacities 24 = .ok (.isub, 1) := by decide +kernel
theorem dX6_wholeCapacities_25 : decode cX6_wholeCapacities 25 = .ok (.goto 4, 3) := by decide +kernel
theorem dX6_wholeCapacities_28 : decode cX6_wholeCapacities 28 = .ok (.iload_n 3, 1) := by decide +kernel
theorem dX6_wholeCapacities_29 : decode cX6_wholeCapacities 29 = .ok (.ireturn, 1) := by decide +kernel
set_option maxRecDepth 20000 in
theorem ggX6_watchCauses_X0_watch : GoodIn wsX6_watchCauses wsX0_watch := goodIn_r _ [20, 21, 22, 23, 24, 25, 26, 27, 28, 29, 19, 30, 31, 32, 33, 34, 35, 36, 54, 55, 56, 57] (by decide +kernel) (by decide +kernel)
set_option maxRecDepth 20000 in
theorem gX6_watchCauses_X0_watch : GoodIn wsX6_watchCauses (wsV RX6 326 RX0 yX0_watch wsX0_watch) := goodIn_app (goodIn_of _ (by decide +kernel)) ggX6_watchCauses_X0_watch
theorem dX6_watchCauses_0 : decode cX6_watchCauses 0 = .ok (.aload_n 0, 1) := by decide +kernel
theorem dX6_watchCauses_1 : decode cX6_watchCauses 1 = .ok (.getfield 39, 3) := by decide +kernel
theorem dX6_watchCauses_4 : decode cX6_watchCauses 4 = .ok (.iconst 0, 1) := by decide +kernel
theorem dX6_watchCauses_5 : decode cX6_watchCauses 5 = .ok (.putfield 254, 3) := by decide +kernel
theorem dX6_watchCauses_8 : decode cX6_watchCauses 8 = .ok (.aload_n 0, 1) := by decide +kernel
theorem dX6_watchCauses_9 : decode cX6_watchCauses 9 = .ok (.getfield 39, 3) := by decide +kernel
theorem dX6_watchCauses_12 : decode cX6_watchCauses 12 = .ok (.iconst 0, 1) := by decide +kernel
theorem dX6_watchCauses_13 : decode cX6_watchCauses 13 = .ok (.aload_n 0, 1) := by decide +kernel
theorem dX6_watchCauses_14 : decode cX6_watchCauses 14 = .ok (.getfield 30, 3) := by decide +kernel
theorem dX6_watchCauses_17 : decode cX6_watchCauses 17 = .ok (.getfield 323, 3) := by decide +kernel
theorem dX6_watchCauses_20 : decode cX6_watchCauses 20 = .ok (.invokevirtual 326, 3) := by decide +kernel
theorem dX6_watchCauses_23 : decode cX6_watchCauses 23 = .ok (.aload_n 0, 1) := by decide +kernel
theorem dX6_watchCauses_24 : decode cX6_watchCauses 24 = .ok (.getfield 39, 3) := by decide +kernel
theorem dX6_watchCauses_27 : decode cX6_watchCauses 27 = .ok (.iconst 1, 1) := by decide +kernel
theorem dX6_watchCauses_28 : decode cX6_watchCauses 28 = .ok (.aload_n 0, 1) := by decide +kernel
theorem dX6_watchCauses_29 : decode cX6_watchCauses 29 = .ok (.getfield 30, 3) := by decide +kernel
theorem dX6_watchCauses_32 : decode cX6_watchCauses 32 = .ok (.getfield 330, 3) := by decide +kernel
theorem dX6_watchCauses_35 : decode cX6_watchCauses 35 = .ok (.invokevirtual 326, 3) := by decide +kernel
theorem dX6_watchCauses_38 : decode cX6_watchCauses 38 = .ok (.aload_n 0, 1) := by decide +kernel
theorem dX6_watchCauses_39 : decode cX6_watchCauses 39 = .ok (.getfield 39, 3) := by decide +kernel
theorem dX6_watchCauses_42 : decode cX6_watchCauses 42 = .ok (.iconst 2, 1) := by decide +kernel
theorem dX6_watchCauses_43 : decode cX6_watchCauses 43 = .ok (.aload_n 0, 1) := by decide +kernel
theorem dX6_watchCauses_44 : decode cX6_watchCauses 44 = .ok (.getfield 30, 3) := by decide +kernel
theorem dX6_watchCauses_47 : decode cX6_watchCauses 47 = .ok (.getfield 333, 3) := by decide +kernel
theorem dX6_watchCauses_50 : decode cX6_watchCauses 50 = .ok (.sipush 4200, 3) := by decide +kernel
theorem dX6_watchCauses_53 : decode cX6_watchCauses 53 = .ok (.if_icmp .le 7, 3) := by decide +kernel
theorem dX6_watchCauses_56 : decode cX6_watchCauses 56 = .ok (.iconst 1, 1) := by decide +kernel
theorem dX6_watchCauses_57 : decode cX6_watchCauses 57 = .ok (.goto 4, 3) := by decide +kernel
theorem dX6_watchCauses_60 : decode cX6_watchCauses 60 = .ok (.iconst 0, 1) := by decide +kernel
theorem dX6_watchCauses_61 : decode cX6_watchCauses 61 = .ok (.invokevirtual 326, 3) := by decide +kernel
theorem dX6_watchCauses_64 : decode cX6_watchCauses 64 = .ok (.aload_n 0, 1) := by decide +kernel
theorem dX6_watchCauses_65 : decode cX6_watchCauses 65 = .ok (.getfield 39, 3) := by decide +kernel
theorem dX6_watchCauses_68 : decode cX6_watchCauses 68 = .ok (.iconst 3, 1) := by decide +kernel
theorem dX6_watchCauses_69 : decode cX6_watchCauses 69 = .ok (.aload_n 0, 1) := by decide +kernel
theorem dX6_watchCauses_70 : decode cX6_watchCauses 70 = .ok (.getfield 30, 3) := by decide +kernel
theorem dX6_watchCauses_73 : decode cX6_watchCauses 73 = .ok (.getfield 336, 3) := by decide +kernel
theorem dX6_watchCauses_76 : decode cX6_watchCauses 76 = .ok (.sipush 2500, 3) := by decide +kernel
theorem dX6_watchCauses_79 : decode cX6_watchCauses 79 = .ok (.if_icmp .ge 7, 3) := by decide +kernel
theorem dX6_watchCauses_82 : decode cX6_watchCauses 82 = .ok (.iconst 1, 1) := by decide +kernel
theorem dX6_watchCauses_83 : decode cX6_watchCauses 83 = .ok (.goto 4, 3) := by decide +kernel
theorem dX6_watchCauses_86 : decode cX6_watchCauses 86 = .ok (.iconst 0, 1) := by decide +kernel
theorem dX6_watchCauses_87 : decode cX6_watchCauses 87 = .ok (.invokevirtual 326, 3) := by decide +kernel
theorem dX6_watchCauses_90 : decode cX6_watchCauses 90 = .ok (.aload_n 0, 1) := by decide +kernel
theorem dX6_watchCauses_91 : decode cX6_watchCauses 91 = .ok (.getfield 39, 3) := by decide +kernel
theorem dX6_watchCauses_94 : decode cX6_watchCauses 94 = .ok (.iconst 4, 1) := by decide +kernel
theorem dX6_watchCauses_95 : decode cX6_watchCauses 95 = .ok (.aload_n 0, 1) := by decide +kernel
theorem dX6_watchCauses_96 : decode cX6_watchCauses 96 = .ok (.getfield 30, 3) := by decide +kernel
theorem dX6_watchCauses_99 : decode cX6_watchCauses 99 = .ok (.getfield 286, 3) := by decide +kernel
theorem dX6_watchCauses_102 : decode cX6_watchCauses 102 = .ok (.ldc2_w 339, 3) := by decide +kernel
theorem dX6_watchCauses_105 : decode cX6_watchCauses 105 = .ok (.dcmp .l, 1) := by decide +kernel
theorem dX6_watchCauses_106 : decode cX6_watchCauses 106 = .ok (.ifCond .le 7, 3) := by decide +kernel
theorem dX6_watchCauses_109 : decode cX6_watchCauses 109 = .ok (.iconst 1, 1) := by decide +kernel
theorem dX6_watchCauses_110 : decode cX6_watchCauses 110 = .ok (.goto 4, 3) := by decide +kernel
theorem dX6_watchCauses_113 : decode cX6_watchCauses 113 = .ok (.iconst 0, 1) := by decide +kernel
theorem dX6_watchCauses_114 : decode cX6_watchCauses 114 = .ok (.invokevirtual 326, 3) := by decide +kernel
theorem dX6_watchCauses_117 : decode cX6_watchCauses 117 = .ok (.aload_n 0, 1) := by decide +kernel
theorem dX6_watchCauses_118 : decode cX6_watchCauses 118 = .ok (.getfield 39, 3) := by decide +kernel
theorem dX6_watchCauses_121 : decode cX6_watchCauses 121 = .ok (.iconst 5, 1) := by decide +kernel
theorem dX6_watchCauses_122 : decode cX6_watchCauses 122 = .ok (.aload_n 0, 1) := by decide +kernel
theorem dX6_watchCauses_123 : decode cX6_watchCauses 123 = .ok (.getfield 30, 3) := by decide +kernel
theorem dX6_watchCauses_126 : decode cX6_watchCauses 126 = .ok (.getfield 292, 3) := by decide +kernel
theorem dX6_watchCauses_129 : decode cX6_watchCauses 129 = .ok (.ldc2_w 341, 3) := by decide +kernel
theorem dX6_watchCauses_132 : decode cX6_watchCauses 132 = .ok (.dcmp .g, 1) := by decide +kernel
theorem dX6_watchCauses_133 : decode cX6_watchCauses 133 = .ok (.ifCond .ge 7, 3) := by decide +kernel
theorem dX6_watchCauses_136 : decode cX6_watchCauses 136 = .ok (.iconst 1, 1) := by decide +kernel
theorem dX6_watchCauses_137 : decode cX6_watchCauses 137 = .ok (.goto 4, 3) := by decide +kernel
theorem dX6_watchCauses_140 : decode cX6_watchCauses 140 = .ok (.iconst 0, 1) := by decide +kernel
theorem dX6_watchCauses_141 : decode cX6_watchCauses 141 = .ok (.invokevirtual 326, 3) := by decide +kernel
theorem dX6_watchCauses_144 : decode cX6_watchCauses 144 = .ok (.aload_n 0, 1) := by decide +kernel
theorem dX6_watchCauses_145 : decode cX6_watchCauses 145 = .ok (.getfield 39, 3) := by decide +kernel
theorem dX6_watchCauses_148 : decode cX6_watchCauses 148 = .ok (.bipush 6, 2) := by decide +kernel
theorem dX6_watchCauses_150 : decode cX6_watchCauses 150 = .ok (.aload_n 0, 1) := by decide +kernel
theorem dX6_watchCauses_151 : decode cX6_watchCauses 151 = .ok (.getfield 74, 3) := by decide +kernel
theorem dX6_watchCauses_154 : decode cX6_watchCauses 154 = .ok (.aload_n 0, 1) := by decide +kernel
theorem dX6_watchCauses_155 : decode cX6_watchCauses 155 = .ok (.getfield 167, 3) := by decide +kernel
theorem dX6_watchCauses_158 : decode cX6_watchCauses 158 = .ok (.ldc2_w 313, 3) := by decide +kernel
theorem dX6_watchCauses_161 : decode cX6_watchCauses 161 = .ok (.dadd, 1) := by decide +kernel
theorem dX6_watchCauses_162 : decode cX6_watchCauses 162 = .ok (.dcmp .l, 1) := by decide +kernel
theorem dX6_watchCauses_163 : decode cX6_watchCauses 163 = .ok (.ifCond .gt 20, 3) := by decide +kernel
theorem dX6_watchCauses_166 : decode cX6_watchCauses 166 = .ok (.aload_n 0, 1) := by decide +kernel
theorem dX6_watchCauses_167 : decode cX6_watchCauses 167 = .ok (.getfield 74, 3) := by decide +kernel
theorem dX6_watchCauses_170 : decode cX6_watchCauses 170 = .ok (.dneg, 1) := by decide +kernel
theorem dX6_watchCauses_171 : decode cX6_watchCauses 171 = .ok (.aload_n 0, 1) := by decide +kernel
theorem dX6_watchCauses_172 : decode cX6_watchCauses 172 = .ok (.getfield 164, 3) := by decide +kernel
theorem dX6_watchCauses_175 : decode cX6_watchCauses 175 = .ok (.ldc2_w 313, 3) := by decide +kernel
theorem dX6_watchCauses_178 : decode cX6_watchCauses 178 = .ok (.dadd, 1) := by decide +kernel
theorem dX6_watchCauses_179 : decode cX6_watchCauses 179 = .ok (.dcmp .l, 1) := by decide +kernel
theorem dX6_watchCauses_180 : decode cX6_watchCauses 180 = .ok (.ifCond .le 7, 3) := by decide +kernel
theorem dX6_watchCauses_183 : decode cX6_watchCauses 183 = .ok (.iconst 1, 1) := by decide +kernel
theorem dX6_watchCauses_184 : decode cX6_watchCauses 184 = .ok (.goto 4, 3) := by decide +kernel
theorem dX6_watchCauses_187 : decode cX6_watchCauses 187 = .ok (.iconst 0, 1) := by decide +kernel
theorem dX6_watchCauses_188 : decode cX6_watchCauses 188 = .ok (.invokevirtual 326, 3) := by decide +kernel
theorem dX6_watchCauses_191 : decode cX6_watchCauses 191 = .ok (.return_, 1) := by decide +kernel
set_option maxRecDepth 20000 in
theorem ggX6_letBleed_X0_anySerious : GoodIn wsX6_letBleed wsX0_anySerious := goodIn_r _ [14, 15, 84, 85, 86, 87] (by decide +kernel) (by decide +kernel)
set_option maxRecDepth 20000 in
theorem gX6_letBleed_X0_anySerious : GoodIn wsX6_letBleed (wsV RX6 343 RX0 yX0_anySerious wsX0_anySerious) := goodIn_app (goodIn_of _ (by decide +kernel)) ggX6_letBleed_X0_anySerious
set_option maxRecDepth 20000 in
theorem ggX6_letBleed_X6_currentSize : GoodIn wsX6_letBleed wsX6_currentSize := goodIn_r _ [20, 21, 50, 51, 52, 53, 54, 55, 56, 57, 58, 59, 60, 61, 62, 63, 64, 65, 66] (by decide +kernel) (by decide +kernel)
set_option maxRecDepth 20000 in
theorem gX6_letBleed_X6_currentSize : GoodIn wsX6_letBleed (wsV RX6 260 RX6 yX6_currentSize wsX6_currentSize) := goodIn_app (goodIn_of _ (by decide +kernel)) ggX6_letBleed_X6_currentSize
set_option maxRecDepth 20000 in
theorem ggX6_letBleed_X3_cellsToBleed : GoodIn wsX6_letBleed wsX3_cellsToBleed := goodIn_r _ [26, 27, 28, 29, 30, 25, 31, 32, 33, 34, 35, 36, 37, 38, 39, 40, 41, 42, 43, 44, 45, 46, 47, 48, 49, 76, 77, 78, 79, 80, 81, 82, 83] (by decide +kernel) (by decide +kernel)
set_option maxRecDepth 20000 in
theorem gX6_letBleed_X3_cellsToBleed : GoodIn wsX6_letBleed (wsV RX6 346 RX3 yX3_cellsToBleed wsX3_cellsToBleed) := goodIn_app (goodIn_of _ (by decide +kernel)) ggX6_letBleed_X3_cellsToBleed
theorem dX6_letBleed_0 : decode cX6_letBleed 0 = .ok (.aload_n 0, 1) := by decide +kernel
theorem dX6_letBleed_1 : decode cX6_letBleed 1 = .ok (.getfield 46, 3) := by decide +kernel
theorem dX6_letBleed_4 : decode cX6_letBleed 4 = .ok (.getfield 110, 3) := by decide +kernel
theorem dX6_letBleed_7 : decode cX6_letBleed 7 = .ok (.ifCond .eq 14, 3) := by decide +kernel
theorem dX6_letBleed_10 : decode cX6_letBleed 10 = .ok (.aload_n 0, 1) := by decide +kernel
theorem dX6_letBleed_11 : decode cX6_letBleed 11 = .ok (.getfield 46, 3) := by decide +kernel
theorem dX6_letBleed_14 : decode cX6_letBleed 14 = .ok (.getfield 110, 3) := by decide +kernel
theorem dX6_letBleed_17 : decode cX6_letBleed 17 = .ok (.iconst 3, 1) := by decide +kernel
theorem dX6_letBleed_18 : decode cX6_letBleed 18 = .ok (.if_icmp .ne 7, 3) := by decide +kernel
theorem dX6_letBleed_21 : decode cX6_letBleed 21 = .ok (.iconst 1, 1) := by decide +kernel
theorem dX6_letBleed_22 : decode cX6_letBleed 22 = .ok (.goto 4, 3) := by decide +kernel
theorem dX6_letBleed_25 : decode cX6_letBleed 25 = .ok (.iconst 0, 1) := by decide +kernel
theorem dX6_letBleed_26 : decode cX6_letBleed 26 = .ok (.istore_n 1, 1) := by decide +kernel
theorem dX6_letBleed_27 : decode cX6_letBleed 27 = .ok (.iload_n 1, 1) := by decide +kernel
theorem dX6_letBleed_28 : decode cX6_letBleed 28 = .ok (.ifCond .eq 28, 3) := by decide +kernel
theorem dX6_letBleed_31 : decode cX6_letBleed 31 = .ok (.aload_n 0, 1) := by decide +kernel
theorem dX6_letBleed_32 : decode cX6_letBleed 32 = .ok (.getfield 39, 3) := by decide +kernel
theorem dX6_letBleed_35 : decode cX6_letBleed 35 = .ok (.invokevirtual 343, 3) := by decide +kernel
theorem dX6_letBleed_38 : decode cX6_letBleed 38 = .ok (.ifCond .ne 18, 3) := by decide +kernel
theorem dX6_letBleed_41 : decode cX6_letBleed 41 = .ok (.aload_n 0, 1) := by decide +kernel
theorem dX6_letBleed_42 : decode cX6_letBleed 42 = .ok (.invokevirtual 260, 3) := by decide +kernel
theorem dX6_letBleed_45 : decode cX6_letBleed 45 = .ok (.ldc2_w 317, 3) := by decide +kernel
theorem dX6_letBleed_48 : decode cX6_letBleed 48 = .ok (.dcmp .g, 1) := by decide +kernel
theorem dX6_letBleed_49 : decode cX6_letBleed 49 = .ok (.ifCond .ge 7, 3) := by decide +kernel
theorem dX6_letBleed_52 : decode cX6_letBleed 52 = .ok (.iconst 1, 1) := by decide +kernel
theorem dX6_letBleed_53 : decode cX6_letBleed 53 = .ok (.goto 4, 3) := by decide +kernel
theorem dX6_letBleed_56 : decode cX6_letBleed 56 = .ok (.iconst 0, 1) := by decide +kernel
theorem dX6_letBleed_57 : decode cX6_letBleed 57 = .ok (.istore_n 2, 1) := by decide +kernel
theorem dX6_letBleed_58 : decode cX6_letBleed 58 = .ok (.aload_n 0, 1) := by decide +kernel
theorem dX6_letBleed_59 : decode cX6_letBleed 59 = .ok (.getfield 15, 3) := by decide +kernel
theorem dX6_letBleed_62 : decode cX6_letBleed 62 = .ok (.astore_n 3, 1) := by decide +kernel
theorem dX6_letBleed_63 : decode cX6_letBleed 63 = .ok (.aload_n 3, 1) := by decide +kernel
theorem dX6_letBleed_64 : decode cX6_letBleed 64 = .ok (.arraylength, 1) := by decide +kernel
theorem dX6_letBleed_65 : decode cX6_letBleed 65 = .ok (.istore 4, 2) := by decide +kernel
theorem dX6_letBleed_67 : decode cX6_letBleed 67 = .ok (.iconst 0, 1) := by decide +kernel
theorem dX6_letBleed_68 : decode cX6_letBleed 68 = .ok (.istore 5, 2) := by decide +kernel
theorem dX6_letBleed_70 : decode cX6_letBleed 70 = .ok (.iload 5, 2) := by decide +kernel
theorem dX6_letBleed_72 : decode cX6_letBleed 72 = .ok (.iload 4, 2) := by decide +kernel
theorem dX6_letBleed_74 : decode cX6_letBleed 74 = .ok (.if_icmp .ge 44, 3) := by decide +kernel
theorem dX6_letBleed_77 : decode cX6_letBleed 77 = .ok (.aload_n 3, 1) := by decide +kernel
theorem dX6_letBleed_78 : decode cX6_letBleed 78 = .ok (.iload 5, 2) := by decide +kernel
theorem dX6_letBleed_80 : decode cX6_letBleed 80 = .ok (.aaload, 1) := by decide +kernel
theorem dX6_letBleed_81 : decode cX6_letBleed 81 = .ok (.astore 6, 2) := by decide +kernel
theorem dX6_letBleed_83 : decode cX6_letBleed 83 = .ok (.aload 6, 2) := by decide +kernel
theorem dX6_letBleed_85 : decode cX6_letBleed 85 = .ok (.iload_n 2, 1) := by decide +kernel
theorem dX6_letBleed_86 : decode cX6_letBleed 86 = .ok (.ifCond .eq 22, 3) := by decide +kernel
theorem dX6_letBleed_89 : decode cX6_letBleed 89 = .ok (.aload 6, 2) := by decide +kernel
theorem dX6_letBleed_91 : decode cX6_letBleed 91 = .ok (.aload_n 0, 1) := by decide +kernel
theorem dX6_letBleed_92 : decode cX6_letBleed 92 = .ok (.getfield 30, 3) := by decide +kernel
theorem dX6_letBleed_95 : decode cX6_letBleed 95 = .ok (.getfield 336, 3) := by decide +kernel
theorem dX6_letBleed_98 : decode cX6_letBleed 98 = .ok (.aload_n 0, 1) := by decide +kernel
theorem dX6_letBleed_99 : decode cX6_letBleed 99 = .ok (.getfield 138, 3) := by decide +kernel
theorem dX6_letBleed_102 : decode cX6_letBleed 102 = .ok (.invokevirtual 346, 3) := by decide +kernel
theorem dX6_letBleed_105 : decode cX6_letBleed 105 = .ok (.goto 4, 3) := by decide +kernel
theorem dX6_letBleed_108 : decode cX6_letBleed 108 = .ok (.iconst 0, 1) := by decide +kernel
theorem dX6_letBleed_109 : decode cX6_letBleed 109 = .ok (.putfield 174, 3) := by decide +kernel
theorem dX6_letBleed_112 : decode cX6_letBleed 112 = .ok (.iinc 5 1, 3) := by decide +kernel
theorem dX6_letBleed_115 : decode cX6_letBleed 115 = .ok (.goto (-45), 3) := by decide +kernel
theorem dX6_letBleed_118 : decode cX6_letBleed 118 = .ok (.return_, 1) := by decide +kernel
set_option maxRecDepth 20000 in
theorem ggX6_writeBlock_X1_write : GoodIn wsX6_writeBlock wsX1_write := goodIn_r _ [14, 15, 16, 17, 18, 19, 20, 21, 13, 22, 23, 24, 25, 26, 27, 28, 29, 30, 31, 32, 33, 34, 35, 36, 37, 38, 39, 40, 41, 42, 43, 44, 45, 69, 70, 71, 72, 73] (by decide +kernel) (by decide +kernel)
set_option maxRecDepth 20000 in
theorem gX6_writeBlock_X1_write : GoodIn wsX6_writeBlock (wsV RX6 349 RX1 yX1_write wsX1_write) := goodIn_app (goodIn_of _ (by decide +kernel)) ggX6_writeBlock_X1_write
theorem dX6_writeBlock_0 : decode cX6_writeBlock 0 = .ok (.aload_n 0, 1) := by decide +kernel
theorem dX6_writeBlock_1 : decode cX6_writeBlock 1 = .ok (.getfield 101, 3) := by decide +kernel
theorem dX6_writeBlock_4 : decode cX6_writeBlock 4 = .ok (.ldc2_w 229, 3) := by decide +kernel
theorem dX6_writeBlock_7 : decode cX6_writeBlock 7 = .ok (.dmul, 1) := by decide +kernel
theorem dX6_writeBlock_8 : decode cX6_writeBlock 8 = .ok (.d2l, 1) := by decide +kernel
theorem dX6_writeBlock_9 : decode cX6_writeBlock 9 = .ok (.lstore_n 1, 1) := by decide +kernel
theorem dX6_writeBlock_10 : decode cX6_writeBlock 10 = .ok (.aload_n 0, 1) := by decide +kernel
theorem dX6_writeBlock_11 : decode cX6_writeBlock 11 = .ok (.getfield 53, 3) := by decide +kernel
theorem dX6_writeBlock_14 : decode cX6_writeBlock 14 = .ok (.aload_n 0, 1) := by decide +kernel
theorem dX6_writeBlock_15 : decode cX6_writeBlock 15 = .ok (.getfield 138, 3) := by decide +kernel
theorem dX6_writeBlock_18 : decode cX6_writeBlock 18 = .ok (.lload_n 1, 1) := by decide +kernel
theorem dX6_writeBlock_19 : decode cX6_writeBlock 19 = .ok (.aload_n 0, 1) := by decide +kernel
theorem dX6_writeBlock_20 : decode cX6_writeBlock 20 = .ok (.getfield 39, 3) := by decide +kernel
theorem dX6_writeBlock_23 : decode cX6_writeBlock 23 = .ok (.getfield 152, 3) := by decide +kernel
theorem dX6_writeBlock_26 : decode cX6_writeBlock 26 = .ok (.aload_n 0, 1) := by decide +kernel
theorem dX6_writeBlock_27 : decode cX6_writeBlock 27 = .ok (.getfield 46, 3) := by decide +kernel
theorem dX6_writeBlock_30 : decode cX6_writeBlock 30 = .ok (.getfield 110, 3) := by decide +kernel
theorem dX6_writeBlock_33 : decode cX6_writeBlock 33 = .ok (.invokevirtual 349, 3) := by decide +kernel
theorem dX6_writeBlock_36 : decode cX6_writeBlock 36 = .ok (.istore_n 3, 1) := by decide +kernel
theorem dX6_writeBlock_37 : decode cX6_writeBlock 37 = .ok (.aload_n 0, 1) := by decide +kernel
theorem dX6_writeBlock_38 : decode cX6_writeBlock 38 = .ok (.iload_n 3, 1) := by decide +kernel
theorem dX6_writeBlock_39 : decode cX6_writeBlock 39 = .ok (.ifCond .ne 7, 3) := by decide +kernel
theorem dX6_writeBlock_42 : decode cX6_writeBlock 42 = .ok (.iconst 1, 1) := by decide +kernel
theorem dX6_writeBlock_43 : decode cX6_writeBlock 43 = .ok (.goto 4, 3) := by decide +kernel
theorem dX6_writeBlock_46 : decode cX6_writeBlock 46 = .ok (.iconst 0, 1) := by decide +kernel
theorem dX6_writeBlock_47 : decode cX6_writeBlock 47 = .ok (.putfield 104, 3) := by decide +kernel
theorem dX6_writeBlock_50 : decode cX6_writeBlock 50 = .ok (.return_, 1) := by decide +kernel
