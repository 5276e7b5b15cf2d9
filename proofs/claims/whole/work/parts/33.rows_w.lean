theorem dL_cell_0 : decode cL_cell 0 = .ok (.iload_n 1, 1) := by decide +kernel
theorem dL_cell_1 : decode cL_cell 1 = .ok (.aload_n 0, 1) := by decide +kernel
theorem dL_cell_2 : decode cL_cell 2 = .ok (.arraylength, 1) := by decide +kernel
theorem dL_cell_3 : decode cL_cell 3 = .ok (.if_icmp .ge 9, 3) := by decide +kernel
theorem dL_cell_6 : decode cL_cell 6 = .ok (.aload_n 0, 1) := by decide +kernel
theorem dL_cell_7 : decode cL_cell 7 = .ok (.iload_n 1, 1) := by decide +kernel
theorem dL_cell_8 : decode cL_cell 8 = .ok (.iaload, 1) := by decide +kernel
theorem dL_cell_9 : decode cL_cell 9 = .ok (.goto 4, 3) := by decide +kernel
theorem dL_cell_12 : decode cL_cell 12 = .ok (.iconst 0, 1) := by decide +kernel
theorem dL_cell_13 : decode cL_cell 13 = .ok (.ireturn, 1) := by decide +kernel
set_option maxRecDepth 20000 in
theorem ggL_reply_X6_reply : GoodIn wsL_reply wsX6_reply := goodIn_ca (goodIn_ca (goodIn_r _ [7, 8, 9, 10, 11, 12, 13, 6, 14, 15, 16, 17, 18, 19, 20, 21, 22, 23, 24, 25, 26, 27, 28, 29, 30, 31, 32, 33, 34, 35, 36, 37, 38, 39, 40, 41, 42, 43, 44, 45, 46, 47, 48, 49, 50, 51, 52, 53, 54, 55, 56, 57, 58, 59, 60, 61, 62, 63, 64, 65, 66, 67, 68, 69, 70, 71, 72, 73, 74, 75, 76, 77] (by decide +kernel) (by decide +kernel)) (goodIn_sub (fun _ h => List.mem_cons_of_mem _ (List.mem_append_left _ (List.mem_append_right _ h))) (by decide +kernel))) (goodIn_sub (fun _ h => List.mem_cons_of_mem _ (List.mem_append_right _ h)) (by decide +kernel))
set_option maxRecDepth 20000 in
theorem gL_reply_X6_reply : GoodIn wsL_reply (wsV RL 7 RX6 yX6_reply wsX6_reply) := goodIn_app (goodIn_of _ (by decide +kernel)) ggL_reply_X6_reply
theorem dL_reply_0 : decode cL_reply 0 = .ok (.aload 6, 2) := by decide +kernel
theorem dL_reply_2 : decode cL_reply 2 = .ok (.iconst 0, 1) := by decide +kernel
theorem dL_reply_3 : decode cL_reply 3 = .ok (.aload_n 0, 1) := by decide +kernel
theorem dL_reply_4 : decode cL_reply 4 = .ok (.iload_n 1, 1) := by decide +kernel
theorem dL_reply_5 : decode cL_reply 5 = .ok (.lload_n 2, 1) := by decide +kernel
theorem dL_reply_6 : decode cL_reply 6 = .ok (.lload 4, 2) := by decide +kernel
theorem dL_reply_8 : decode cL_reply 8 = .ok (.invokevirtual 7, 3) := by decide +kernel
theorem dL_reply_11 : decode cL_reply 11 = .ok (.ifCond .eq 7, 3) := by decide +kernel
theorem dL_reply_14 : decode cL_reply 14 = .ok (.lconst 1, 1) := by decide +kernel
theorem dL_reply_15 : decode cL_reply 15 = .ok (.goto 4, 3) := by decide +kernel
theorem dL_reply_18 : decode cL_reply 18 = .ok (.lconst 0, 1) := by decide +kernel
theorem dL_reply_19 : decode cL_reply 19 = .ok (.lastore, 1) := by decide +kernel
theorem dL_reply_20 : decode cL_reply 20 = .ok (.goto 11, 3) := by decide +kernel
theorem dL_reply_23 : decode cL_reply 23 = .ok (.astore 7, 2) := by decide +kernel
theorem dL_reply_25 : decode cL_reply 25 = .ok (.iconst 1, 1) := by decide +kernel
theorem dL_reply_26 : decode cL_reply 26 = .ok (.ireturn, 1) := by decide +kernel
theorem dL_reply_27 : decode cL_reply 27 = .ok (.astore 7, 2) := by decide +kernel
theorem dL_reply_29 : decode cL_reply 29 = .ok (.iconst 2, 1) := by decide +kernel
theorem dL_reply_30 : decode cL_reply 30 = .ok (.ireturn, 1) := by decide +kernel
theorem dL_reply_31 : decode cL_reply 31 = .ok (.iconst 0, 1) := by decide +kernel
theorem dL_reply_32 : decode cL_reply 32 = .ok (.ireturn, 1) := by decide +kernel
set_option maxRecDepth 20000 in
theorem ggL_current_X6_current : GoodIn wsL_current wsX6_current := goodIn_ca (goodIn_ca (goodIn_r _ [7, 8, 9, 10, 6, 11, 12, 13, 14, 15, 16, 17, 18, 19, 20, 21, 22, 23, 24, 25, 26, 27, 28, 29, 30, 31, 32, 33, 34, 35, 36, 37, 38] (by decide +kernel) (by decide +kernel)) (goodIn_sub (fun _ h => List.mem_cons_of_mem _ (List.mem_append_left _ (List.mem_append_right _ h))) (by decide +kernel))) (goodIn_sub (fun _ h => List.mem_cons_of_mem _ (List.mem_append_right _ h)) (by decide +kernel))
set_option maxRecDepth 20000 in
theorem gL_current_X6_current : GoodIn wsL_current (wsV RL 17 RX6 yX6_current wsX6_current) := goodIn_app (goodIn_of _ (by decide +kernel)) ggL_current_X6_current
theorem dL_current_0 : decode cL_current 0 = .ok (.aload_n 0, 1) := by decide +kernel
theorem dL_current_1 : decode cL_current 1 = .ok (.dload_n 1, 1) := by decide +kernel
theorem dL_current_2 : decode cL_current 2 = .ok (.invokevirtual 17, 3) := by decide +kernel
theorem dL_current_5 : decode cL_current 5 = .ok (.goto 9, 3) := by decide +kernel
theorem dL_current_8 : decode cL_current 8 = .ok (.astore_n 3, 1) := by decide +kernel
theorem dL_current_9 : decode cL_current 9 = .ok (.iconst 1, 1) := by decide +kernel
theorem dL_current_10 : decode cL_current 10 = .ok (.ireturn, 1) := by decide +kernel
theorem dL_current_11 : decode cL_current 11 = .ok (.astore_n 3, 1) := by decide +kernel
theorem dL_current_12 : decode cL_current 12 = .ok (.iconst 2, 1) := by decide +kernel
theorem dL_current_13 : decode cL_current 13 = .ok (.ireturn, 1) := by decide +kernel
theorem dL_current_14 : decode cL_current 14 = .ok (.iconst 0, 1) := by decide +kernel
theorem dL_current_15 : decode cL_current 15 = .ok (.ireturn, 1) := by decide +kernel
set_option maxRecDepth 20000 in
theorem ggL_warm_X6_warm : GoodIn wsL_warm wsX6_warm := goodIn_ca (goodIn_ca (goodIn_ca (goodIn_r _ [8, 9, 10, 11, 12, 13, 7, 14, 15, 16, 17, 18, 19, 20, 21, 22, 23, 24, 25, 26, 27, 28, 29, 30, 31, 32, 33, 34, 35, 36, 37, 38, 39, 40, 41, 42, 43, 44, 45, 46, 47, 48, 49, 50, 51, 52, 53, 54, 55, 56, 57] (by decide +kernel) (by decide +kernel)) (goodIn_sub (fun _ h => List.mem_cons_of_mem _ (List.mem_append_left _ (List.mem_append_left _ (List.mem_append_right _ h)))) (by decide +kernel))) (goodIn_sub (fun _ h => List.mem_cons_of_mem _ (List.mem_append_left _ (List.mem_append_right _ h))) (by decide +kernel))) (goodIn_sub (fun _ h => List.mem_cons_of_mem _ (List.mem_append_right _ h)) (by decide +kernel))
set_option maxRecDepth 20000 in
theorem gL_warm_X6_warm : GoodIn wsL_warm (wsV RL 23 RX6 yX6_warm wsX6_warm) := goodIn_app (goodIn_of _ (by decide +kernel)) ggL_warm_X6_warm
theorem dL_warm_0 : decode cL_warm 0 = .ok (.aload_n 0, 1) := by decide +kernel
theorem dL_warm_1 : decode cL_warm 1 = .ok (.iload_n 1, 1) := by decide +kernel
theorem dL_warm_2 : decode cL_warm 2 = .ok (.dload_n 2, 1) := by decide +kernel
theorem dL_warm_3 : decode cL_warm 3 = .ok (.invokevirtual 23, 3) := by decide +kernel
theorem dL_warm_6 : decode cL_warm 6 = .ok (.goto 15, 3) := by decide +kernel
theorem dL_warm_9 : decode cL_warm 9 = .ok (.astore 4, 2) := by decide +kernel
theorem dL_warm_11 : decode cL_warm 11 = .ok (.iconst 1, 1) := by decide +kernel
theorem dL_warm_12 : decode cL_warm 12 = .ok (.ireturn, 1) := by decide +kernel
theorem dL_warm_13 : decode cL_warm 13 = .ok (.astore 4, 2) := by decide +kernel
theorem dL_warm_15 : decode cL_warm 15 = .ok (.iconst 2, 1) := by decide +kernel
theorem dL_warm_16 : decode cL_warm 16 = .ok (.ireturn, 1) := by decide +kernel
theorem dL_warm_17 : decode cL_warm 17 = .ok (.astore 4, 2) := by decide +kernel
theorem dL_warm_19 : decode cL_warm 19 = .ok (.iconst 3, 1) := by decide +kernel
theorem dL_warm_20 : decode cL_warm 20 = .ok (.ireturn, 1) := by decide +kernel
theorem dL_warm_21 : decode cL_warm 21 = .ok (.iconst 0, 1) := by decide +kernel
theorem dL_warm_22 : decode cL_warm 22 = .ok (.ireturn, 1) := by decide +kernel
set_option maxRecDepth 20000 in
theorem ggL_bus_X6_bus : GoodIn wsL_bus wsX6_bus := goodIn_ca (goodIn_ca (goodIn_r _ [7, 8, 9, 10, 11, 6, 12, 13, 14, 15, 16, 17, 18, 19, 20, 21, 22, 23, 24, 25, 26, 27, 28, 29, 30, 31, 32, 33, 34, 35, 36, 37, 38] (by decide +kernel) (by decide +kernel)) (goodIn_sub (fun _ h => List.mem_cons_of_mem _ (List.mem_append_left _ (List.mem_append_right _ h))) (by decide +kernel))) (goodIn_sub (fun _ h => List.mem_cons_of_mem _ (List.mem_append_right _ h)) (by decide +kernel))
set_option maxRecDepth 20000 in
theorem gL_bus_X6_bus : GoodIn wsL_bus (wsV RL 27 RX6 yX6_bus wsX6_bus) := goodIn_app (goodIn_of _ (by decide +kernel)) ggL_bus_X6_bus
theorem dL_bus_0 : decode cL_bus 0 = .ok (.aload_n 0, 1) := by decide +kernel
theorem dL_bus_1 : decode cL_bus 1 = .ok (.iload_n 1, 1) := by decide +kernel
theorem dL_bus_2 : decode cL_bus 2 = .ok (.invokevirtual 27, 3) := by decide +kernel
theorem dL_bus_5 : decode cL_bus 5 = .ok (.goto 9, 3) := by decide +kernel
theorem dL_bus_8 : decode cL_bus 8 = .ok (.astore_n 2, 1) := by decide +kernel
theorem dL_bus_9 : decode cL_bus 9 = .ok (.iconst 1, 1) := by decide +kernel
theorem dL_bus_10 : decode cL_bus 10 = .ok (.ireturn, 1) := by decide +kernel
theorem dL_bus_11 : decode cL_bus 11 = .ok (.astore_n 2, 1) := by decide +kernel
theorem dL_bus_12 : decode cL_bus 12 = .ok (.iconst 2, 1) := by decide +kernel
theorem dL_bus_13 : decode cL_bus 13 = .ok (.ireturn, 1) := by decide +kernel
theorem dL_bus_14 : decode cL_bus 14 = .ok (.iconst 0, 1) := by decide +kernel
theorem dL_bus_15 : decode cL_bus 15 = .ok (.ireturn, 1) := by decide +kernel
set_option maxRecDepth 20000 in
theorem ggL_want_X6_want : GoodIn wsL_want wsX6_want := goodIn_ca (goodIn_r _ [6, 7, 8, 9, 10, 5, 11, 12, 13, 14, 15, 16, 17, 18, 19, 20, 21, 22, 23, 24, 25, 26, 27, 28, 29, 30, 31] (by decide +kernel) (by decide +kernel)) (goodIn_sub (fun _ h => List.mem_cons_of_mem _ (List.mem_append_right _ h)) (by decide +kernel))
set_option maxRecDepth 20000 in
theorem gL_want_X6_want : GoodIn wsL_want (wsV RL 31 RX6 yX6_want wsX6_want) := goodIn_app (goodIn_of _ (by decide +kernel)) ggL_want_X6_want
theorem dL_want_0 : decode cL_want 0 = .ok (.aload_n 0, 1) := by decide +kernel
theorem dL_want_1 : decode cL_want 1 = .ok (.iload_n 1, 1) := by decide +kernel
theorem dL_want_2 : decode cL_want 2 = .ok (.invokevirtual 31, 3) := by decide +kernel
theorem dL_want_5 : decode cL_want 5 = .ok (.goto 6, 3) := by decide +kernel
theorem dL_want_8 : decode cL_want 8 = .ok (.astore_n 2, 1) := by decide +kernel
theorem dL_want_9 : decode cL_want 9 = .ok (.iconst 1, 1) := by decide +kernel
theorem dL_want_10 : decode cL_want 10 = .ok (.ireturn, 1) := by decide +kernel
theorem dL_want_11 : decode cL_want 11 = .ok (.iconst 0, 1) := by decide +kernel
theorem dL_want_12 : decode cL_want 12 = .ok (.ireturn, 1) := by decide +kernel
set_option maxRecDepth 20000 in
theorem ggL_set_X6_set : GoodIn wsL_set wsX6_set := goodIn_ca (goodIn_ca (goodIn_r _ [7, 8, 9, 10, 11, 6, 12, 13, 14, 15, 16, 17, 18, 19, 20, 21, 22, 23, 24, 25, 26, 27, 28, 29, 30, 31, 32, 33, 34, 35, 36, 37, 38, 39] (by decide +kernel) (by decide +kernel)) (goodIn_sub (fun _ h => List.mem_cons_of_mem _ (List.mem_append_left _ (List.mem_append_right _ h))) (by decide +kernel))) (goodIn_sub (fun _ h => List.mem_cons_of_mem _ (List.mem_append_right _ h)) (by decide +kernel))
set_option maxRecDepth 20000 in
theorem gL_set_X6_set : GoodIn wsL_set (wsV RL 35 RX6 yX6_set wsX6_set) := goodIn_app (goodIn_of _ (by decide +kernel)) ggL_set_X6_set
theorem dL_set_0 : decode cL_set 0 = .ok (.aload_n 0, 1) := by decide +kernel
theorem dL_set_1 : decode cL_set 1 = .ok (.dload_n 1, 1) := by decide +kernel
theorem dL_set_2 : decode cL_set 2 = .ok (.invokevirtual 35, 3) := by decide +kernel
theorem dL_set_5 : decode cL_set 5 = .ok (.goto 9, 3) := by decide +kernel
theorem dL_set_8 : decode cL_set 8 = .ok (.astore_n 3, 1) := by decide +kernel
theorem dL_set_9 : decode cL_set 9 = .ok (.iconst 1, 1) := by decide +kernel
theorem dL_set_10 : decode cL_set 10 = .ok (.ireturn, 1) := by decide +kernel
theorem dL_set_11 : decode cL_set 11 = .ok (.astore_n 3, 1) := by decide +kernel
theorem dL_set_12 : decode cL_set 12 = .ok (.iconst 2, 1) := by decide +kernel
theorem dL_set_13 : decode cL_set 13 = .ok (.ireturn, 1) := by decide +kernel
theorem dL_set_14 : decode cL_set 14 = .ok (.iconst 0, 1) := by decide +kernel
theorem dL_set_15 : decode cL_set 15 = .ok (.ireturn, 1) := by decide +kernel
set_option maxRecDepth 20000 in
theorem ggL_tick_X6_tick : GoodIn wsL_tick wsX6_tick := goodIn_ca (goodIn_ca (goodIn_r _ [7, 8, 9, 10, 11, 12, 6, 13, 14, 15, 16, 17, 18, 19, 20, 21, 22, 23, 24, 25, 26, 27, 28, 29, 30, 31, 32, 33, 34, 35, 36, 37, 38, 39, 40, 41, 42, 43, 44, 45, 46, 47, 48, 49, 50, 51, 52, 53, 54, 55, 56, 57, 58, 59, 60, 61, 62, 63, 64, 65, 66, 67, 68, 69, 70, 71, 72, 73, 74, 75, 76, 77, 78, 79, 80, 81, 82, 83, 84, 85, 86, 87, 88, 89, 90, 91, 92, 93, 94, 95, 96, 97, 98, 99, 100, 101, 102, 103, 104, 105, 106, 107, 108, 109, 110, 111, 112, 113, 114, 115, 116, 117, 118, 119, 120, 121, 122, 123, 124, 125, 126, 127, 128, 129, 130, 131, 132, 133, 134, 135, 136, 137, 138, 139, 140, 141, 142, 143, 144, 145, 146, 147, 148, 149, 150, 151, 152, 153, 154, 155, 156, 157, 158, 159, 160, 161, 162, 163, 164, 165, 166, 167, 168, 169, 170, 171, 172, 173, 174, 175, 176, 177, 178, 179, 180, 181, 182, 183, 184, 185, 186, 187, 188, 189, 190, 191, 192, 193, 194, 195, 196, 197, 198, 199, 200, 201, 202, 203, 204, 205, 206, 207, 208, 209, 210, 211, 212, 213, 214, 215, 216, 217, 218, 219, 220, 221, 222, 223, 224, 225, 226, 227, 228, 229, 230, 231, 232, 233, 234, 235, 236, 237, 238, 239, 240, 241, 242, 243, 244, 245, 246, 247, 248, 249, 250, 251, 252, 253, 254, 255, 256, 257, 258, 259, 260, 261, 262, 263, 264, 265, 266, 267, 268, 269, 270, 271, 272, 273, 274, 275, 276, 277, 278, 279, 280, 281, 282, 283, 284, 285, 286, 287, 288, 289, 290, 291] (by decide +kernel) (by decide +kernel)) (goodIn_sub (fun _ h => List.mem_cons_of_mem _ (List.mem_append_left _ (List.mem_append_right _ h))) (by decide +kernel))) (goodIn_sub (fun _ h => List.mem_cons_of_mem _ (List.mem_append_right _ h)) (by decide +kernel))
set_option maxRecDepth 20000 in
theorem gL_tick_X6_tick : GoodIn wsL_tick (wsV RL 38 RX6 yX6_tick wsX6_tick) := goodIn_app (goodIn_of _ (by decide +kernel)) ggL_tick_X6_tick
theorem dL_tick_0 : decode cL_tick 0 = .ok (.aload_n 2, 1) := by decide +kernel
theorem dL_tick_1 : decode cL_tick 1 = .ok (.iconst 0, 1) := by decide +kernel
theorem dL_tick_2 : decode cL_tick 2 = .ok (.aload_n 0, 1) := by decide +kernel
theorem dL_tick_3 : decode cL_tick 3 = .ok (.iload_n 1, 1) := by decide +kernel
theorem dL_tick_4 : decode cL_tick 4 = .ok (.invokevirtual 38, 3) := by decide +kernel
theorem dL_tick_7 : decode cL_tick 7 = .ok (.i2l, 1) := by decide +kernel
theorem dL_tick_8 : decode cL_tick 8 = .ok (.lastore, 1) := by decide +kernel
theorem dL_tick_9 : decode cL_tick 9 = .ok (.goto 9, 3) := by decide +kernel
theorem dL_tick_12 : decode cL_tick 12 = .ok (.astore_n 3, 1) := by decide +kernel
theorem dL_tick_13 : decode cL_tick 13 = .ok (.iconst 1, 1) := by decide +kernel
theorem dL_tick_14 : decode cL_tick 14 = .ok (.ireturn, 1) := by decide +kernel
theorem dL_tick_15 : decode cL_tick 15 = .ok (.astore_n 3, 1) := by decide +kernel
theorem dL_tick_16 : decode cL_tick 16 = .ok (.iconst 2, 1) := by decide +kernel
theorem dL_tick_17 : decode cL_tick 17 = .ok (.ireturn, 1) := by decide +kernel
theorem dL_tick_18 : decode cL_tick 18 = .ok (.iconst 0, 1) := by decide +kernel
theorem dL_tick_19 : decode cL_tick 19 = .ok (.ireturn, 1) := by decide +kernel
set_option maxRecDepth 20000 in
theorem ggL_reset_X6_reset : GoodIn wsL_reset wsX6_reset := goodIn_ca (goodIn_ca (goodIn_r _ [7, 8, 9, 10, 11, 12, 6, 13, 14, 15, 16, 17, 18, 19, 20, 21, 22, 23, 24, 25, 26, 27, 28, 29, 30, 31, 32, 33, 34, 35, 36, 37, 38, 39, 40, 41, 42, 43, 44, 45, 46, 47, 48, 49, 50, 51, 52, 53, 54, 55, 56] (by decide +kernel) (by decide +kernel)) (goodIn_sub (fun _ h => List.mem_cons_of_mem _ (List.mem_append_left _ (List.mem_append_right _ h))) (by decide +kernel))) (goodIn_sub (fun _ h => List.mem_cons_of_mem _ (List.mem_append_right _ h)) (by decide +kernel))
set_option maxRecDepth 20000 in
theorem gL_reset_X6_reset : GoodIn wsL_reset (wsV RL 42 RX6 yX6_reset wsX6_reset) := goodIn_app (goodIn_of _ (by decide +kernel)) ggL_reset_X6_reset
theorem dL_reset_0 : decode cL_reset 0 = .ok (.aload_n 2, 1) := by decide +kernel
theorem dL_reset_1 : decode cL_reset 1 = .ok (.iconst 0, 1) := by decide +kernel
theorem dL_reset_2 : decode cL_reset 2 = .ok (.aload_n 0, 1) := by decide +kernel
theorem dL_reset_3 : decode cL_reset 3 = .ok (.iload_n 1, 1) := by decide +kernel
theorem dL_reset_4 : decode cL_reset 4 = .ok (.invokevirtual 42, 3) := by decide +kernel
theorem dL_reset_7 : decode cL_reset 7 = .ok (.ifCond .eq 7, 3) := by decide +kernel
theorem dL_reset_10 : decode cL_reset 10 = .ok (.lconst 1, 1) := by decide +kernel
theorem dL_reset_11 : decode cL_reset 11 = .ok (.goto 4, 3) := by decide +kernel
theorem dL_reset_14 : decode cL_reset 14 = .ok (.lconst 0, 1) := by decide +kernel
theorem dL_reset_15 : decode cL_reset 15 = .ok (.lastore, 1) := by decide +kernel
theorem dL_reset_16 : decode cL_reset 16 = .ok (.goto 9, 3) := by decide +kernel
theorem dL_reset_19 : decode cL_reset 19 = .ok (.astore_n 3, 1) := by decide +kernel
theorem dL_reset_20 : decode cL_reset 20 = .ok (.iconst 1, 1) := by decide +kernel
theorem dL_reset_21 : decode cL_reset 21 = .ok (.ireturn, 1) := by decide +kernel
theorem dL_reset_22 : decode cL_reset 22 = .ok (.astore_n 3, 1) := by decide +kernel
theorem dL_reset_23 : decode cL_reset 23 = .ok (.iconst 2, 1) := by decide +kernel
theorem dL_reset_24 : decode cL_reset 24 = .ok (.ireturn, 1) := by decide +kernel
theorem dL_reset_25 : decode cL_reset 25 = .ok (.iconst 0, 1) := by decide +kernel
theorem dL_reset_26 : decode cL_reset 26 = .ok (.ireturn, 1) := by decide +kernel
set_option maxRecDepth 20000 in
theorem ggL_cut_X6_cut : GoodIn wsL_cut wsX6_cut := goodIn_ca (goodIn_ca (goodIn_r _ [7, 8, 9, 10, 11, 6, 12, 13, 14, 15, 16, 17, 18, 19, 20, 21, 22, 23, 24, 25, 26, 27, 28, 29, 30, 31, 32, 33, 34, 35, 36, 37, 38, 39, 40, 41, 42, 43] (by decide +kernel) (by decide +kernel)) (goodIn_sub (fun _ h => List.mem_cons_of_mem _ (List.mem_append_left _ (List.mem_append_right _ h))) (by decide +kernel))) (goodIn_sub (fun _ h => List.mem_cons_of_mem _ (List.mem_append_right _ h)) (by decide +kernel))
set_option maxRecDepth 20000 in
theorem gL_cut_X6_cut : GoodIn wsL_cut (wsV RL 46 RX6 yX6_cut wsX6_cut) := goodIn_app (goodIn_of _ (by decide +kernel)) ggL_cut_X6_cut
theorem dL_cut_0 : decode cL_cut 0 = .ok (.aload_n 0, 1) := by decide +kernel
theorem dL_cut_1 : decode cL_cut 1 = .ok (.iload_n 1, 1) := by decide +kernel
theorem dL_cut_2 : decode cL_cut 2 = .ok (.invokevirtual 46, 3) := by decide +kernel
theorem dL_cut_5 : decode cL_cut 5 = .ok (.goto 9, 3) := by decide +kernel
theorem dL_cut_8 : decode cL_cut 8 = .ok (.astore_n 2, 1) := by decide +kernel
theorem dL_cut_9 : decode cL_cut 9 = .ok (.iconst 1, 1) := by decide +kernel
theorem dL_cut_10 : decode cL_cut 10 = .ok (.ireturn, 1) := by decide +kernel
theorem dL_cut_11 : decode cL_cut 11 = .ok (.astore_n 2, 1) := by decide +kernel
theorem dL_cut_12 : decode cL_cut 12 = .ok (.iconst 2, 1) := by decide +kernel
theorem dL_cut_13 : decode cL_cut 13 = .ok (.ireturn, 1) := by decide +kernel
theorem dL_cut_14 : decode cL_cut 14 = .ok (.iconst 0, 1) := by decide +kernel
theorem dL_cut_15 : decode cL_cut 15 = .ok (.ireturn, 1) := by decide +kernel
set_option maxRecDepth 20000 in
theorem ggL_time_X6_time : GoodIn wsL_time wsX6_time := goodIn_ca (goodIn_r _ [6, 7, 8, 9, 10, 5, 11, 12, 13, 14, 15, 16, 17, 18, 19, 20, 21, 22, 23, 24, 25, 26, 27, 28, 29, 30, 31] (by decide +kernel) (by decide +kernel)) (goodIn_sub (fun _ h => List.mem_cons_of_mem _ (List.mem_append_right _ h)) (by decide +kernel))
set_option maxRecDepth 20000 in
theorem gL_time_X6_time : GoodIn wsL_time (wsV RL 49 RX6 yX6_time wsX6_time) := goodIn_app (goodIn_of _ (by decide +kernel)) ggL_time_X6_time
theorem dL_time_0 : decode cL_time 0 = .ok (.aload_n 1, 1) := by decide +kernel
theorem dL_time_1 : decode cL_time 1 = .ok (.iconst 0, 1) := by decide +kernel
theorem dL_time_2 : decode cL_time 2 = .ok (.aload_n 0, 1) := by decide +kernel
theorem dL_time_3 : decode cL_time 3 = .ok (.invokevirtual 49, 3) := by decide +kernel
theorem dL_time_6 : decode cL_time 6 = .ok (.i2l, 1) := by decide +kernel
theorem dL_time_7 : decode cL_time 7 = .ok (.lastore, 1) := by decide +kernel
theorem dL_time_8 : decode cL_time 8 = .ok (.goto 6, 3) := by decide +kernel
theorem dL_time_11 : decode cL_time 11 = .ok (.astore_n 2, 1) := by decide +kernel
theorem dL_time_12 : decode cL_time 12 = .ok (.iconst 1, 1) := by decide +kernel
theorem dL_time_13 : decode cL_time 13 = .ok (.ireturn, 1) := by decide +kernel
theorem dL_time_14 : decode cL_time 14 = .ok (.iconst 0, 1) := by decide +kernel
theorem dL_time_15 : decode cL_time 15 = .ok (.ireturn, 1) := by decide +kernel
set_option maxRecDepth 20000 in
theorem ggL_charge_X6_charge : GoodIn wsL_charge wsX6_charge := goodIn_ca (goodIn_r _ [6, 7, 8, 9, 10, 5, 11, 12, 13, 14, 15, 16, 17, 18, 19, 20, 21, 22, 23, 24, 25, 26, 27, 28, 29, 30, 31] (by decide +kernel) (by decide +kernel)) (goodIn_sub (fun _ h => List.mem_cons_of_mem _ (List.mem_append_right _ h)) (by decide +kernel))
set_option maxRecDepth 20000 in
theorem gL_charge_X6_charge : GoodIn wsL_charge (wsV RL 53 RX6 yX6_charge wsX6_charge) := goodIn_app (goodIn_of _ (by decide +kernel)) ggL_charge_X6_charge
theorem dL_charge_0 : decode cL_charge 0 = .ok (.aload_n 1, 1) := by decide +kernel
theorem dL_charge_1 : decode cL_charge 1 = .ok (.iconst 0, 1) := by decide +kernel
theorem dL_charge_2 : decode cL_charge 2 = .ok (.aload_n 0, 1) := by decide +kernel
theorem dL_charge_3 : decode cL_charge 3 = .ok (.invokevirtual 53, 3) := by decide +kernel
theorem dL_charge_6 : decode cL_charge 6 = .ok (.dastore, 1) := by decide +kernel
theorem dL_charge_7 : decode cL_charge 7 = .ok (.goto 6, 3) := by decide +kernel
theorem dL_charge_10 : decode cL_charge 10 = .ok (.astore_n 2, 1) := by decide +kernel
theorem dL_charge_11 : decode cL_charge 11 = .ok (.iconst 1, 1) := by decide +kernel
theorem dL_charge_12 : decode cL_charge 12 = .ok (.ireturn, 1) := by decide +kernel
theorem dL_charge_13 : decode cL_charge 13 = .ok (.iconst 0, 1) := by decide +kernel
theorem dL_charge_14 : decode cL_charge 14 = .ok (.ireturn, 1) := by decide +kernel
set_option maxRecDepth 20000 in
theorem ggL_percent_X6_percent : GoodIn wsL_percent wsX6_percent := goodIn_ca (goodIn_r _ [6, 7, 8, 9, 10, 11, 5, 12, 13, 14, 15, 16, 17, 18, 19, 20, 21, 22, 23, 24, 25, 26, 27, 28, 29, 30, 31, 32, 33, 34, 35, 36, 37] (by decide +kernel) (by decide +kernel)) (goodIn_sub (fun _ h => List.mem_cons_of_mem _ (List.mem_append_right _ h)) (by decide +kernel))
set_option maxRecDepth 20000 in
theorem gL_percent_X6_percent : GoodIn wsL_percent (wsV RL 57 RX6 yX6_percent wsX6_percent) := goodIn_app (goodIn_of _ (by decide +kernel)) ggL_percent_X6_percent
theorem dL_percent_0 : decode cL_percent 0 = .ok (.aload_n 1, 1) := by decide +kernel
theorem dL_percent_1 : decode cL_percent 1 = .ok (.iconst 0, 1) := by decide +kernel
theorem dL_percent_2 : decode cL_percent 2 = .ok (.aload_n 0, 1) := by decide +kernel
theorem dL_percent_3 : decode cL_percent 3 = .ok (.invokevirtual 57, 3) := by decide +kernel
theorem dL_percent_6 : decode cL_percent 6 = .ok (.i2l, 1) := by decide +kernel
theorem dL_percent_7 : decode cL_percent 7 = .ok (.lastore, 1) := by decide +kernel
theorem dL_percent_8 : decode cL_percent 8 = .ok (.goto 6, 3) := by decide +kernel
theorem dL_percent_11 : decode cL_percent 11 = .ok (.astore_n 2, 1) := by decide +kernel
theorem dL_percent_12 : decode cL_percent 12 = .ok (.iconst 1, 1) := by decide +kernel
theorem dL_percent_13 : decode cL_percent 13 = .ok (.ireturn, 1) := by decide +kernel
theorem dL_percent_14 : decode cL_percent 14 = .ok (.iconst 0, 1) := by decide +kernel
theorem dL_percent_15 : decode cL_percent 15 = .ok (.ireturn, 1) := by decide +kernel
set_option maxRecDepth 20000 in
theorem ggL_through_X6_through : GoodIn wsL_through wsX6_through := goodIn_ca (goodIn_r _ [6, 7, 8, 9, 10, 5, 11, 12, 13, 14, 15, 16, 17, 18, 19, 20, 21, 22, 23, 24, 25, 26, 27, 28, 29, 30, 31] (by decide +kernel) (by decide +kernel)) (goodIn_sub (fun _ h => List.mem_cons_of_mem _ (List.mem_append_right _ h)) (by decide +kernel))
set_option maxRecDepth 20000 in
theorem gL_through_X6_through : GoodIn wsL_through (wsV RL 60 RX6 yX6_through wsX6_through) := goodIn_app (goodIn_of _ (by decide +kernel)) ggL_through_X6_through
theorem dL_through_0 : decode cL_through 0 = .ok (.aload_n 1, 1) := by decide +kernel
theorem dL_through_1 : decode cL_through 1 = .ok (.iconst 0, 1) := by decide +kernel
theorem dL_through_2 : decode cL_through 2 = .ok (.aload_n 0, 1) := by decide +kernel
theorem dL_through_3 : decode cL_through 3 = .ok (.invokevirtual 60, 3) := by decide +kernel
theorem dL_through_6 : decode cL_through 6 = .ok (.dastore, 1) := by decide +kernel
theorem dL_through_7 : decode cL_through 7 = .ok (.goto 6, 3) := by decide +kernel
theorem dL_through_10 : decode cL_through 10 = .ok (.astore_n 2, 1) := by decide +kernel
theorem dL_through_11 : decode cL_through 11 = .ok (.iconst 1, 1) := by decide +kernel
theorem dL_through_12 : decode cL_through 12 = .ok (.ireturn, 1) := by decide +kernel
theorem dL_through_13 : decode cL_through 13 = .ok (.iconst 0, 1) := by decide +kernel
theorem dL_through_14 : decode cL_through 14 = .ok (.ireturn, 1) := by decide +kernel
set_option maxRecDepth 20000 in
theorem ggL_allowed_X6_allowed : GoodIn wsL_allowed wsX6_allowed := goodIn_ca (goodIn_r _ [6, 7, 8, 9, 10, 11, 5, 12, 13, 14, 15, 16, 17, 18, 19, 20, 21, 22, 23, 24, 25, 26, 27, 28, 29, 30, 31, 32] (by decide +kernel) (by decide +kernel)) (goodIn_sub (fun _ h => List.mem_cons_of_mem _ (List.mem_append_right _ h)) (by decide +kernel))
set_option maxRecDepth 20000 in
theorem gL_allowed_X6_allowed : GoodIn wsL_allowed (wsV RL 63 RX6 yX6_allowed wsX6_allowed) := goodIn_app (goodIn_of _ (by decide +kernel)) ggL_allowed_X6_allowed
theorem dL_allowed_0 : decode cL_allowed 0 = .ok (.aload_n 2, 1) := by decide +kernel
theorem dL_allowed_1 : decode cL_allowed 1 = .ok (.iconst 0, 1) := by decide +kernel
theorem dL_allowed_2 : decode cL_allowed 2 = .ok (.aload_n 0, 1) := by decide +kernel
theorem dL_allowed_3 : decode cL_allowed 3 = .ok (.iload_n 1, 1) := by decide +kernel
theorem dL_allowed_4 : decode cL_allowed 4 = .ok (.invokevirtual 63, 3) := by decide +kernel
theorem dL_allowed_7 : decode cL_allowed 7 = .ok (.dastore, 1) := by decide +kernel
theorem dL_allowed_8 : decode cL_allowed 8 = .ok (.goto 6, 3) := by decide +kernel
theorem dL_allowed_11 : decode cL_allowed 11 = .ok (.astore_n 3, 1) := by decide +kernel
theorem dL_allowed_12 : decode cL_allowed 12 = .ok (.iconst 1, 1) := by decide +kernel
theorem dL_allowed_13 : decode cL_allowed 13 = .ok (.ireturn, 1) := by decide +kernel
theorem dL_allowed_14 : decode cL_allowed 14 = .ok (.iconst 0, 1) := by decide +kernel
theorem dL_allowed_15 : decode cL_allowed 15 = .ok (.ireturn, 1) := by decide +kernel
set_option maxRecDepth 20000 in
theorem ggL_valid_X6_valid : GoodIn wsL_valid wsX6_valid := goodIn_ca (goodIn_ca (goodIn_r _ [7, 8, 9, 10, 11, 6, 12, 13, 14, 15, 16, 17, 18, 19, 20, 21, 22, 23, 24, 25, 26, 27, 28, 29, 30, 31, 32, 33, 34, 35, 36, 37, 38, 39, 40, 41, 42, 43, 44, 45, 46, 47, 48, 49, 50, 51, 52, 53, 54, 55, 56, 57, 58, 59, 60, 61, 62, 63, 64, 65, 66, 67, 68, 69, 70, 71, 72, 73] (by decide +kernel) (by decide +kernel)) (goodIn_sub (fun _ h => List.mem_cons_of_mem _ (List.mem_append_left _ (List.mem_append_right _ h))) (by decide +kernel))) (goodIn_sub (fun _ h => List.mem_cons_of_mem _ (List.mem_append_right _ h)) (by decide +kernel))
set_option maxRecDepth 20000 in
theorem gL_valid_X6_valid : GoodIn wsL_valid (wsV RL 67 RX6 yX6_valid wsX6_valid) := goodIn_app (goodIn_of _ (by decide +kernel)) ggL_valid_X6_valid
theorem dL_valid_0 : decode cL_valid 0 = .ok (.aload_n 3, 1) := by decide +kernel
theorem dL_valid_1 : decode cL_valid 1 = .ok (.iconst 0, 1) := by decide +kernel
theorem dL_valid_2 : decode cL_valid 2 = .ok (.aload_n 0, 1) := by decide +kernel
theorem dL_valid_3 : decode cL_valid 3 = .ok (.iload_n 1, 1) := by decide +kernel
theorem dL_valid_4 : decode cL_valid 4 = .ok (.iload_n 2, 1) := by decide +kernel
theorem dL_valid_5 : decode cL_valid 5 = .ok (.invokevirtual 67, 3) := by decide +kernel
theorem dL_valid_8 : decode cL_valid 8 = .ok (.ifCond .eq 7, 3) := by decide +kernel
theorem dL_valid_11 : decode cL_valid 11 = .ok (.lconst 1, 1) := by decide +kernel
theorem dL_valid_12 : decode cL_valid 12 = .ok (.goto 4, 3) := by decide +kernel
theorem dL_valid_15 : decode cL_valid 15 = .ok (.lconst 0, 1) := by decide +kernel
theorem dL_valid_16 : decode cL_valid 16 = .ok (.lastore, 1) := by decide +kernel
theorem dL_valid_17 : decode cL_valid 17 = .ok (.goto 11, 3) := by decide +kernel
theorem dL_valid_20 : decode cL_valid 20 = .ok (.astore 4, 2) := by decide +kernel
theorem dL_valid_22 : decode cL_valid 22 = .ok (.iconst 1, 1) := by decide +kernel
theorem dL_valid_23 : decode cL_valid 23 = .ok (.ireturn, 1) := by decide +kernel
theorem dL_valid_24 : decode cL_valid 24 = .ok (.astore 4, 2) := by decide +kernel
theorem dL_valid_26 : decode cL_valid 26 = .ok (.iconst 2, 1) := by decide +kernel
theorem dL_valid_27 : decode cL_valid 27 = .ok (.ireturn, 1) := by decide +kernel
theorem dL_valid_28 : decode cL_valid 28 = .ok (.iconst 0, 1) := by decide +kernel
theorem dL_valid_29 : decode cL_valid 29 = .ok (.ireturn, 1) := by decide +kernel
set_option maxRecDepth 20000 in
theorem ggL_bleeding_X6_bleeding : GoodIn wsL_bleeding wsX6_bleeding := goodIn_ca (goodIn_ca (goodIn_r _ [7, 8, 9, 10, 11, 12, 6, 13, 14, 15, 16, 17, 18, 19, 20, 21, 22, 23, 24, 25, 26, 27, 28, 29, 30, 31, 32, 33, 34, 35, 36, 37, 38, 39, 40, 41, 42, 43, 44, 45, 46, 47, 48, 49, 50] (by decide +kernel) (by decide +kernel)) (goodIn_sub (fun _ h => List.mem_cons_of_mem _ (List.mem_append_left _ (List.mem_append_right _ h))) (by decide +kernel))) (goodIn_sub (fun _ h => List.mem_cons_of_mem _ (List.mem_append_right _ h)) (by decide +kernel))
set_option maxRecDepth 20000 in
theorem gL_bleeding_X6_bleeding : GoodIn wsL_bleeding (wsV RL 71 RX6 yX6_bleeding wsX6_bleeding) := goodIn_app (goodIn_of _ (by decide +kernel)) ggL_bleeding_X6_bleeding
theorem dL_bleeding_0 : decode cL_bleeding 0 = .ok (.aload_n 2, 1) := by decide +kernel
theorem dL_bleeding_1 : decode cL_bleeding 1 = .ok (.iconst 0, 1) := by decide +kernel
theorem dL_bleeding_2 : decode cL_bleeding 2 = .ok (.aload_n 0, 1) := by decide +kernel
theorem dL_bleeding_3 : decode cL_bleeding 3 = .ok (.iload_n 1, 1) := by decide +kernel
theorem dL_bleeding_4 : decode cL_bleeding 4 = .ok (.invokevirtual 71, 3) := by decide +kernel
theorem dL_bleeding_7 : decode cL_bleeding 7 = .ok (.i2l, 1) := by decide +kernel
theorem dL_bleeding_8 : decode cL_bleeding 8 = .ok (.lastore, 1) := by decide +kernel
theorem dL_bleeding_9 : decode cL_bleeding 9 = .ok (.goto 9, 3) := by decide +kernel
theorem dL_bleeding_12 : decode cL_bleeding 12 = .ok (.astore_n 3, 1) := by decide +kernel
theorem dL_bleeding_13 : decode cL_bleeding 13 = .ok (.iconst 1, 1) := by decide +kernel
theorem dL_bleeding_14 : decode cL_bleeding 14 = .ok (.ireturn, 1) := by decide +kernel
theorem dL_bleeding_15 : decode cL_bleeding 15 = .ok (.astore_n 3, 1) := by decide +kernel
theorem dL_bleeding_16 : decode cL_bleeding 16 = .ok (.iconst 2, 1) := by decide +kernel
theorem dL_bleeding_17 : decode cL_bleeding 17 = .ok (.ireturn, 1) := by decide +kernel
theorem dL_bleeding_18 : decode cL_bleeding 18 = .ok (.iconst 0, 1) := by decide +kernel
theorem dL_bleeding_19 : decode cL_bleeding 19 = .ok (.ireturn, 1) := by decide +kernel
set_option maxRecDepth 20000 in
theorem ggL_faults_X6_faults : GoodIn wsL_faults wsX6_faults := goodIn_ca (goodIn_r _ [6, 7, 8, 9, 10, 11, 5, 12, 13, 14, 15, 16, 17, 18, 19, 20, 21, 22, 23, 24, 25, 26, 27, 28, 29, 30, 31, 32, 33, 34, 35, 36] (by decide +kernel) (by decide +kernel)) (goodIn_sub (fun _ h => List.mem_cons_of_mem _ (List.mem_append_right _ h)) (by decide +kernel))
set_option maxRecDepth 20000 in
theorem gL_faults_X6_faults : GoodIn wsL_faults (wsV RL 74 RX6 yX6_faults wsX6_faults) := goodIn_app (goodIn_of _ (by decide +kernel)) ggL_faults_X6_faults
theorem dL_faults_0 : decode cL_faults 0 = .ok (.aload_n 1, 1) := by decide +kernel
theorem dL_faults_1 : decode cL_faults 1 = .ok (.iconst 0, 1) := by decide +kernel
theorem dL_faults_2 : decode cL_faults 2 = .ok (.aload_n 0, 1) := by decide +kernel
theorem dL_faults_3 : decode cL_faults 3 = .ok (.invokevirtual 74, 3) := by decide +kernel
theorem dL_faults_6 : decode cL_faults 6 = .ok (.i2l, 1) := by decide +kernel
theorem dL_faults_7 : decode cL_faults 7 = .ok (.lastore, 1) := by decide +kernel
theorem dL_faults_8 : decode cL_faults 8 = .ok (.goto 6, 3) := by decide +kernel
theorem dL_faults_11 : decode cL_faults 11 = .ok (.astore_n 2, 1) := by decide +kernel
theorem dL_faults_12 : decode cL_faults 12 = .ok (.iconst 1, 1) := by decide +kernel
theorem dL_faults_13 : decode cL_faults 13 = .ok (.ireturn, 1) := by decide +kernel
theorem dL_faults_14 : decode cL_faults 14 = .ok (.iconst 0, 1) := by decide +kernel
theorem dL_faults_15 : decode cL_faults 15 = .ok (.ireturn, 1) := by decide +kernel
set_option maxRecDepth 20000 in
theorem ggL_count_X6_count : GoodIn wsL_count wsX6_count := goodIn_ca (goodIn_ca (goodIn_r _ [7, 8, 9, 10, 11, 6, 12, 13, 14, 15, 16, 17, 18, 19, 20, 21, 22, 23, 24, 25, 26, 27, 28, 29, 30, 31, 32, 33, 34, 35, 36, 37, 38, 39, 40, 41, 42] (by decide +kernel) (by decide +kernel)) (goodIn_sub (fun _ h => List.mem_cons_of_mem _ (List.mem_append_left _ (List.mem_append_right _ h))) (by decide +kernel))) (goodIn_sub (fun _ h => List.mem_cons_of_mem _ (List.mem_append_right _ h)) (by decide +kernel))
set_option maxRecDepth 20000 in
theorem gL_count_X6_count : GoodIn wsL_count (wsV RL 77 RX6 yX6_count wsX6_count) := goodIn_app (goodIn_of _ (by decide +kernel)) ggL_count_X6_count
theorem dL_count_0 : decode cL_count 0 = .ok (.aload_n 2, 1) := by decide +kernel
theorem dL_count_1 : decode cL_count 1 = .ok (.iconst 0, 1) := by decide +kernel
theorem dL_count_2 : decode cL_count 2 = .ok (.aload_n 0, 1) := by decide +kernel
theorem dL_count_3 : decode cL_count 3 = .ok (.iload_n 1, 1) := by decide +kernel
theorem dL_count_4 : decode cL_count 4 = .ok (.invokevirtual 77, 3) := by decide +kernel
theorem dL_count_7 : decode cL_count 7 = .ok (.i2l, 1) := by decide +kernel
theorem dL_count_8 : decode cL_count 8 = .ok (.lastore, 1) := by decide +kernel
theorem dL_count_9 : decode cL_count 9 = .ok (.goto 9, 3) := by decide +kernel
theorem dL_count_12 : decode cL_count 12 = .ok (.astore_n 3, 1) := by decide +kernel
theorem dL_count_13 : decode cL_count 13 = .ok (.iconst 1, 1) := by decide +kernel
theorem dL_count_14 : decode cL_count 14 = .ok (.ireturn, 1) := by decide +kernel
theorem dL_count_15 : decode cL_count 15 = .ok (.astore_n 3, 1) := by decide +kernel
theorem dL_count_16 : decode cL_count 16 = .ok (.iconst 2, 1) := by decide +kernel
theorem dL_count_17 : decode cL_count 17 = .ok (.ireturn, 1) := by decide +kernel
theorem dL_count_18 : decode cL_count 18 = .ok (.iconst 0, 1) := by decide +kernel
theorem dL_count_19 : decode cL_count 19 = .ok (.ireturn, 1) := by decide +kernel
set_option maxRecDepth 20000 in
theorem ggL_journal_X6_journal : GoodIn wsL_journal wsX6_journal := goodIn_ca (goodIn_r _ [6, 7, 8, 9, 10, 5, 11, 12, 13, 14, 15, 16, 17, 18, 19, 20, 21, 22, 23, 24, 25, 26, 27, 28, 29, 30, 31, 32, 33, 34, 35] (by decide +kernel) (by decide +kernel)) (goodIn_sub (fun _ h => List.mem_cons_of_mem _ (List.mem_append_right _ h)) (by decide +kernel))
set_option maxRecDepth 20000 in
theorem gL_journal_X6_journal : GoodIn wsL_journal (wsV RL 80 RX6 yX6_journal wsX6_journal) := goodIn_app (goodIn_of _ (by decide +kernel)) ggL_journal_X6_journal
theorem dL_journal_0 : decode cL_journal 0 = .ok (.aload_n 2, 1) := by decide +kernel
theorem dL_journal_1 : decode cL_journal 1 = .ok (.iconst 0, 1) := by decide +kernel
theorem dL_journal_2 : decode cL_journal 2 = .ok (.aload_n 0, 1) := by decide +kernel
theorem dL_journal_3 : decode cL_journal 3 = .ok (.iload_n 1, 1) := by decide +kernel
theorem dL_journal_4 : decode cL_journal 4 = .ok (.invokevirtual 80, 3) := by decide +kernel
theorem dL_journal_7 : decode cL_journal 7 = .ok (.i2l, 1) := by decide +kernel
theorem dL_journal_8 : decode cL_journal 8 = .ok (.lastore, 1) := by decide +kernel
theorem dL_journal_9 : decode cL_journal 9 = .ok (.goto 6, 3) := by decide +kernel
theorem dL_journal_12 : decode cL_journal 12 = .ok (.astore_n 3, 1) := by decide +kernel
theorem dL_journal_13 : decode cL_journal 13 = .ok (.iconst 1, 1) := by decide +kernel
theorem dL_journal_14 : decode cL_journal 14 = .ok (.ireturn, 1) := by decide +kernel
theorem dL_journal_15 : decode cL_journal 15 = .ok (.iconst 0, 1) := by decide +kernel
theorem dL_journal_16 : decode cL_journal 16 = .ok (.ireturn, 1) := by decide +kernel
set_option maxRecDepth 20000 in
theorem ggL_spoil_X6_spoil : GoodIn wsL_spoil wsX6_spoil := goodIn_ca (goodIn_ca (goodIn_r _ [7, 8, 9, 10, 11, 6, 12, 13, 14, 15, 16, 17, 18, 19, 20, 21, 22, 23, 24, 25, 26, 27, 28, 29, 30, 31, 32, 33, 34, 35, 36, 37, 38, 39, 40, 41] (by decide +kernel) (by decide +kernel)) (goodIn_sub (fun _ h => List.mem_cons_of_mem _ (List.mem_append_left _ (List.mem_append_right _ h))) (by decide +kernel))) (goodIn_sub (fun _ h => List.mem_cons_of_mem _ (List.mem_append_right _ h)) (by decide +kernel))
set_option maxRecDepth 20000 in
theorem gL_spoil_X6_spoil : GoodIn wsL_spoil (wsV RL 83 RX6 yX6_spoil wsX6_spoil) := goodIn_app (goodIn_of _ (by decide +kernel)) ggL_spoil_X6_spoil
theorem dL_spoil_0 : decode cL_spoil 0 = .ok (.aload_n 0, 1) := by decide +kernel
theorem dL_spoil_1 : decode cL_spoil 1 = .ok (.iload_n 1, 1) := by decide +kernel
theorem dL_spoil_2 : decode cL_spoil 2 = .ok (.iload_n 2, 1) := by decide +kernel
theorem dL_spoil_3 : decode cL_spoil 3 = .ok (.invokevirtual 83, 3) := by decide +kernel
theorem dL_spoil_6 : decode cL_spoil 6 = .ok (.goto 9, 3) := by decide +kernel
theorem dL_spoil_9 : decode cL_spoil 9 = .ok (.astore_n 3, 1) := by decide +kernel
theorem dL_spoil_10 : decode cL_spoil 10 = .ok (.iconst 1, 1) := by decide +kernel
theorem dL_spoil_11 : decode cL_spoil 11 = .ok (.ireturn, 1) := by decide +kernel
theorem dL_spoil_12 : decode cL_spoil 12 = .ok (.astore_n 3, 1) := by decide +kernel
theorem dL_spoil_13 : decode cL_spoil 13 = .ok (.iconst 2, 1) := by decide +kernel
theorem dL_spoil_14 : decode cL_spoil 14 = .ok (.ireturn, 1) := by decide +kernel
theorem dL_spoil_15 : decode cL_spoil 15 = .ok (.iconst 0, 1) := by decide +kernel
theorem dL_spoil_16 : decode cL_spoil 16 = .ok (.ireturn, 1) := by decide +kernel
