theorem dX0_init_0 : decode cX0_init 0 = .ok (.aload_n 0, 1) := by decide +kernel
theorem dX0_init_1 : decode cX0_init 1 = .ok (.invokespecial 1, 3) := by decide +kernel
theorem dX0_init_4 : decode cX0_init 4 = .ok (.aload_n 0, 1) := by decide +kernel
theorem dX0_init_5 : decode cX0_init 5 = .ok (.bipush 7, 2) := by decide +kernel
theorem dX0_init_7 : decode cX0_init 7 = .ok (.newarray .int, 2) := by decide +kernel
theorem dX0_init_9 : decode cX0_init 9 = .ok (.putfield 9, 3) := by decide +kernel
theorem dX0_init_12 : decode cX0_init 12 = .ok (.aload_n 0, 1) := by decide +kernel
theorem dX0_init_13 : decode cX0_init 13 = .ok (.iload_n 1, 1) := by decide +kernel
theorem dX0_init_14 : decode cX0_init 14 = .ok (.putfield 13, 3) := by decide +kernel
theorem dX0_init_17 : decode cX0_init 17 = .ok (.return_, 1) := by decide +kernel
theorem dX0_beginAnew_0 : decode cX0_beginAnew 0 = .ok (.iconst 0, 1) := by decide +kernel
theorem dX0_beginAnew_1 : decode cX0_beginAnew 1 = .ok (.istore_n 1, 1) := by decide +kernel
theorem dX0_beginAnew_2 : decode cX0_beginAnew 2 = .ok (.iload_n 1, 1) := by decide +kernel
theorem dX0_beginAnew_3 : decode cX0_beginAnew 3 = .ok (.bipush 7, 2) := by decide +kernel
theorem dX0_beginAnew_5 : decode cX0_beginAnew 5 = .ok (.if_icmp .ge 16, 3) := by decide +kernel
theorem dX0_beginAnew_8 : decode cX0_beginAnew 8 = .ok (.aload_n 0, 1) := by decide +kernel
theorem dX0_beginAnew_9 : decode cX0_beginAnew 9 = .ok (.getfield 9, 3) := by decide +kernel
theorem dX0_beginAnew_12 : decode cX0_beginAnew 12 = .ok (.iload_n 1, 1) := by decide +kernel
theorem dX0_beginAnew_13 : decode cX0_beginAnew 13 = .ok (.iconst 0, 1) := by decide +kernel
theorem dX0_beginAnew_14 : decode cX0_beginAnew 14 = .ok (.iastore, 1) := by decide +kernel
theorem dX0_beginAnew_15 : decode cX0_beginAnew 15 = .ok (.iinc 1 1, 3) := by decide +kernel
theorem dX0_beginAnew_18 : decode cX0_beginAnew 18 = .ok (.goto (-16), 3) := by decide +kernel
theorem dX0_beginAnew_21 : decode cX0_beginAnew 21 = .ok (.aload_n 0, 1) := by decide +kernel
theorem dX0_beginAnew_22 : decode cX0_beginAnew 22 = .ok (.iconst 0, 1) := by decide +kernel
theorem dX0_beginAnew_23 : decode cX0_beginAnew 23 = .ok (.putfield 17, 3) := by decide +kernel
theorem dX0_beginAnew_26 : decode cX0_beginAnew 26 = .ok (.aload_n 0, 1) := by decide +kernel
theorem dX0_beginAnew_27 : decode cX0_beginAnew 27 = .ok (.iconst 0, 1) := by decide +kernel
theorem dX0_beginAnew_28 : decode cX0_beginAnew 28 = .ok (.putfield 20, 3) := by decide +kernel
theorem dX0_beginAnew_31 : decode cX0_beginAnew 31 = .ok (.return_, 1) := by decide +kernel
set_option maxRecDepth 20000 in
theorem ggX0_watch_X0_latch : GoodIn wsX0_watch wsX0_latch := goodIn_r _ [11, 12, 13, 14, 15, 16, 10, 17, 18, 19, 20, 21] (by decide +kernel) (by decide +kernel)
set_option maxRecDepth 20000 in
theorem gX0_watch_X0_latch : GoodIn wsX0_watch (wsV RX0 30 RX0 yX0_latch wsX0_latch) := goodIn_app (goodIn_of _ (by decide +kernel)) ggX0_watch_X0_latch
theorem dX0_watch_0 : decode cX0_watch 0 = .ok (.aload_n 0, 1) := by decide +kernel
theorem dX0_watch_1 : decode cX0_watch 1 = .ok (.getfield 9, 3) := by decide +kernel
theorem dX0_watch_4 : decode cX0_watch 4 = .ok (.iload_n 1, 1) := by decide +kernel
theorem dX0_watch_5 : decode cX0_watch 5 = .ok (.iload_n 2, 1) := by decide +kernel
theorem dX0_watch_6 : decode cX0_watch 6 = .ok (.ifCond .eq 20, 3) := by decide +kernel
theorem dX0_watch_9 : decode cX0_watch 9 = .ok (.sipush 255, 3) := by decide +kernel
theorem dX0_watch_12 : decode cX0_watch 12 = .ok (.aload_n 0, 1) := by decide +kernel
theorem dX0_watch_13 : decode cX0_watch 13 = .ok (.getfield 9, 3) := by decide +kernel
theorem dX0_watch_16 : decode cX0_watch 16 = .ok (.iload_n 1, 1) := by decide +kernel
theorem dX0_watch_17 : decode cX0_watch 17 = .ok (.iaload, 1) := by decide +kernel
theorem dX0_watch_18 : decode cX0_watch 18 = .ok (.iconst 1, 1) := by decide +kernel
theorem dX0_watch_19 : decode cX0_watch 19 = .ok (.iadd, 1) := by decide +kernel
theorem dX0_watch_20 : decode cX0_watch 20 = .ok (.invokestatic 24, 3) := by decide +kernel
theorem dX0_watch_23 : decode cX0_watch 23 = .ok (.goto 4, 3) := by decide +kernel
theorem dX0_watch_26 : decode cX0_watch 26 = .ok (.iconst 0, 1) := by decide +kernel
theorem dX0_watch_27 : decode cX0_watch 27 = .ok (.iastore, 1) := by decide +kernel
theorem dX0_watch_28 : decode cX0_watch 28 = .ok (.aload_n 0, 1) := by decide +kernel
theorem dX0_watch_29 : decode cX0_watch 29 = .ok (.getfield 9, 3) := by decide +kernel
theorem dX0_watch_32 : decode cX0_watch 32 = .ok (.iload_n 1, 1) := by decide +kernel
theorem dX0_watch_33 : decode cX0_watch 33 = .ok (.iaload, 1) := by decide +kernel
theorem dX0_watch_34 : decode cX0_watch 34 = .ok (.aload_n 0, 1) := by decide +kernel
theorem dX0_watch_35 : decode cX0_watch 35 = .ok (.getfield 13, 3) := by decide +kernel
theorem dX0_watch_38 : decode cX0_watch 38 = .ok (.if_icmp .lt 8, 3) := by decide +kernel
theorem dX0_watch_41 : decode cX0_watch 41 = .ok (.aload_n 0, 1) := by decide +kernel
theorem dX0_watch_42 : decode cX0_watch 42 = .ok (.iload_n 1, 1) := by decide +kernel
theorem dX0_watch_43 : decode cX0_watch 43 = .ok (.invokevirtual 30, 3) := by decide +kernel
theorem dX0_watch_46 : decode cX0_watch 46 = .ok (.return_, 1) := by decide +kernel
set_option maxRecDepth 20000 in
theorem ggX0_latch_X0_isLatched : GoodIn wsX0_latch wsX0_isLatched := goodIn_r _ [7, 1, 8, 9, 10, 11] (by decide +kernel) (by decide +kernel)
set_option maxRecDepth 20000 in
theorem gX0_latch_X0_isLatched : GoodIn wsX0_latch (wsV RX0 34 RX0 yX0_isLatched wsX0_isLatched) := goodIn_app (goodIn_of _ (by decide +kernel)) ggX0_latch_X0_isLatched
theorem dX0_latch_0 : decode cX0_latch 0 = .ok (.aload_n 0, 1) := by decide +kernel
theorem dX0_latch_1 : decode cX0_latch 1 = .ok (.iload_n 1, 1) := by decide +kernel
theorem dX0_latch_2 : decode cX0_latch 2 = .ok (.invokevirtual 34, 3) := by decide +kernel
theorem dX0_latch_5 : decode cX0_latch 5 = .ok (.ifCond .ne 20, 3) := by decide +kernel
theorem dX0_latch_8 : decode cX0_latch 8 = .ok (.aload_n 0, 1) := by decide +kernel
theorem dX0_latch_9 : decode cX0_latch 9 = .ok (.aload_n 0, 1) := by decide +kernel
theorem dX0_latch_10 : decode cX0_latch 10 = .ok (.getfield 17, 3) := by decide +kernel
theorem dX0_latch_13 : decode cX0_latch 13 = .ok (.iconst 1, 1) := by decide +kernel
theorem dX0_latch_14 : decode cX0_latch 14 = .ok (.iload_n 1, 1) := by decide +kernel
theorem dX0_latch_15 : decode cX0_latch 15 = .ok (.ishl, 1) := by decide +kernel
theorem dX0_latch_16 : decode cX0_latch 16 = .ok (.ior, 1) := by decide +kernel
theorem dX0_latch_17 : decode cX0_latch 17 = .ok (.putfield 17, 3) := by decide +kernel
theorem dX0_latch_20 : decode cX0_latch 20 = .ok (.aload_n 0, 1) := by decide +kernel
theorem dX0_latch_21 : decode cX0_latch 21 = .ok (.iconst 1, 1) := by decide +kernel
theorem dX0_latch_22 : decode cX0_latch 22 = .ok (.putfield 20, 3) := by decide +kernel
theorem dX0_latch_25 : decode cX0_latch 25 = .ok (.return_, 1) := by decide +kernel
theorem dX0_isLatched_0 : decode cX0_isLatched 0 = .ok (.aload_n 0, 1) := by decide +kernel
theorem dX0_isLatched_1 : decode cX0_isLatched 1 = .ok (.getfield 17, 3) := by decide +kernel
theorem dX0_isLatched_4 : decode cX0_isLatched 4 = .ok (.iload_n 1, 1) := by decide +kernel
theorem dX0_isLatched_5 : decode cX0_isLatched 5 = .ok (.iushr, 1) := by decide +kernel
theorem dX0_isLatched_6 : decode cX0_isLatched 6 = .ok (.iconst 1, 1) := by decide +kernel
theorem dX0_isLatched_7 : decode cX0_isLatched 7 = .ok (.iand, 1) := by decide +kernel
theorem dX0_isLatched_8 : decode cX0_isLatched 8 = .ok (.ifCond .eq 7, 3) := by decide +kernel
theorem dX0_isLatched_11 : decode cX0_isLatched 11 = .ok (.iconst 1, 1) := by decide +kernel
theorem dX0_isLatched_12 : decode cX0_isLatched 12 = .ok (.goto 4, 3) := by decide +kernel
theorem dX0_isLatched_15 : decode cX0_isLatched 15 = .ok (.iconst 0, 1) := by decide +kernel
theorem dX0_isLatched_16 : decode cX0_isLatched 16 = .ok (.ireturn, 1) := by decide +kernel
theorem dX0_anySerious_0 : decode cX0_anySerious 0 = .ok (.aload_n 0, 1) := by decide +kernel
theorem dX0_anySerious_1 : decode cX0_anySerious 1 = .ok (.getfield 17, 3) := by decide +kernel
theorem dX0_anySerious_4 : decode cX0_anySerious 4 = .ok (.sipush 477, 3) := by decide +kernel
theorem dX0_anySerious_7 : decode cX0_anySerious 7 = .ok (.iand, 1) := by decide +kernel
theorem dX0_anySerious_8 : decode cX0_anySerious 8 = .ok (.ifCond .eq 7, 3) := by decide +kernel
theorem dX0_anySerious_11 : decode cX0_anySerious 11 = .ok (.iconst 1, 1) := by decide +kernel
theorem dX0_anySerious_12 : decode cX0_anySerious 12 = .ok (.goto 4, 3) := by decide +kernel
theorem dX0_anySerious_15 : decode cX0_anySerious 15 = .ok (.iconst 0, 1) := by decide +kernel
theorem dX0_anySerious_16 : decode cX0_anySerious 16 = .ok (.ireturn, 1) := by decide +kernel
set_option maxRecDepth 20000 in
theorem ggX0_dismiss_X0_isLatched : GoodIn wsX0_dismiss wsX0_isLatched := goodIn_r _ [7, 2, 8, 9, 10, 11] (by decide +kernel) (by decide +kernel)
set_option maxRecDepth 20000 in
theorem gX0_dismiss_X0_isLatched : GoodIn wsX0_dismiss (wsV RX0 34 RX0 yX0_isLatched wsX0_isLatched) := goodIn_app (goodIn_of _ (by decide +kernel)) ggX0_dismiss_X0_isLatched
theorem dX0_dismiss_0 : decode cX0_dismiss 0 = .ok (.iload_n 1, 1) := by decide +kernel
theorem dX0_dismiss_1 : decode cX0_dismiss 1 = .ok (.bipush 7, 2) := by decide +kernel
theorem dX0_dismiss_3 : decode cX0_dismiss 3 = .ok (.if_icmp .ge 20, 3) := by decide +kernel
theorem dX0_dismiss_6 : decode cX0_dismiss 6 = .ok (.aload_n 0, 1) := by decide +kernel
theorem dX0_dismiss_7 : decode cX0_dismiss 7 = .ok (.getfield 9, 3) := by decide +kernel
theorem dX0_dismiss_10 : decode cX0_dismiss 10 = .ok (.iload_n 1, 1) := by decide +kernel
theorem dX0_dismiss_11 : decode cX0_dismiss 11 = .ok (.iaload, 1) := by decide +kernel
theorem dX0_dismiss_12 : decode cX0_dismiss 12 = .ok (.ifCond .ne 7, 3) := by decide +kernel
theorem dX0_dismiss_15 : decode cX0_dismiss 15 = .ok (.iconst 1, 1) := by decide +kernel
theorem dX0_dismiss_16 : decode cX0_dismiss 16 = .ok (.goto 8, 3) := by decide +kernel
theorem dX0_dismiss_19 : decode cX0_dismiss 19 = .ok (.iconst 0, 1) := by decide +kernel
theorem dX0_dismiss_20 : decode cX0_dismiss 20 = .ok (.goto 4, 3) := by decide +kernel
theorem dX0_dismiss_23 : decode cX0_dismiss 23 = .ok (.iload_n 2, 1) := by decide +kernel
theorem dX0_dismiss_24 : decode cX0_dismiss 24 = .ok (.istore_n 3, 1) := by decide +kernel
theorem dX0_dismiss_25 : decode cX0_dismiss 25 = .ok (.iload_n 3, 1) := by decide +kernel
theorem dX0_dismiss_26 : decode cX0_dismiss 26 = .ok (.ifCond .eq 11, 3) := by decide +kernel
theorem dX0_dismiss_29 : decode cX0_dismiss 29 = .ok (.aload_n 0, 1) := by decide +kernel
theorem dX0_dismiss_30 : decode cX0_dismiss 30 = .ok (.iload_n 1, 1) := by decide +kernel
theorem dX0_dismiss_31 : decode cX0_dismiss 31 = .ok (.invokevirtual 34, 3) := by decide +kernel
theorem dX0_dismiss_34 : decode cX0_dismiss 34 = .ok (.ifCond .ne 5, 3) := by decide +kernel
theorem dX0_dismiss_37 : decode cX0_dismiss 37 = .ok (.iconst 0, 1) := by decide +kernel
theorem dX0_dismiss_38 : decode cX0_dismiss 38 = .ok (.ireturn, 1) := by decide +kernel
theorem dX0_dismiss_39 : decode cX0_dismiss 39 = .ok (.aload_n 0, 1) := by decide +kernel
theorem dX0_dismiss_40 : decode cX0_dismiss 40 = .ok (.aload_n 0, 1) := by decide +kernel
theorem dX0_dismiss_41 : decode cX0_dismiss 41 = .ok (.getfield 17, 3) := by decide +kernel
theorem dX0_dismiss_44 : decode cX0_dismiss 44 = .ok (.iconst 1, 1) := by decide +kernel
theorem dX0_dismiss_45 : decode cX0_dismiss 45 = .ok (.iload_n 1, 1) := by decide +kernel
theorem dX0_dismiss_46 : decode cX0_dismiss 46 = .ok (.ishl, 1) := by decide +kernel
theorem dX0_dismiss_47 : decode cX0_dismiss 47 = .ok (.iconst (-1), 1) := by decide +kernel
theorem dX0_dismiss_48 : decode cX0_dismiss 48 = .ok (.ixor, 1) := by decide +kernel
theorem dX0_dismiss_49 : decode cX0_dismiss 49 = .ok (.iand, 1) := by decide +kernel
theorem dX0_dismiss_50 : decode cX0_dismiss 50 = .ok (.putfield 17, 3) := by decide +kernel
theorem dX0_dismiss_53 : decode cX0_dismiss 53 = .ok (.iconst 1, 1) := by decide +kernel
theorem dX0_dismiss_54 : decode cX0_dismiss 54 = .ok (.ireturn, 1) := by decide +kernel
theorem dX1_init_0 : decode cX1_init 0 = .ok (.aload_n 0, 1) := by decide +kernel
theorem dX1_init_1 : decode cX1_init 1 = .ok (.invokespecial 1, 3) := by decide +kernel
theorem dX1_init_4 : decode cX1_init 4 = .ok (.aload_n 0, 1) := by decide +kernel
theorem dX1_init_5 : decode cX1_init 5 = .ok (.bipush 32, 2) := by decide +kernel
theorem dX1_init_7 : decode cX1_init 7 = .ok (.newarray .byte, 2) := by decide +kernel
theorem dX1_init_9 : decode cX1_init 9 = .ok (.putfield 9, 3) := by decide +kernel
theorem dX1_init_12 : decode cX1_init 12 = .ok (.aload_n 0, 1) := by decide +kernel
theorem dX1_init_13 : decode cX1_init 13 = .ok (.iload_n 1, 1) := by decide +kernel
theorem dX1_init_14 : decode cX1_init 14 = .ok (.putfield 13, 3) := by decide +kernel
theorem dX1_init_17 : decode cX1_init 17 = .ok (.aload_n 0, 1) := by decide +kernel
theorem dX1_init_18 : decode cX1_init 18 = .ok (.iload_n 1, 1) := by decide +kernel
theorem dX1_init_19 : decode cX1_init 19 = .ok (.bipush 32, 2) := by decide +kernel
theorem dX1_init_21 : decode cX1_init 21 = .ok (.imul, 1) := by decide +kernel
theorem dX1_init_22 : decode cX1_init 22 = .ok (.newarray .byte, 2) := by decide +kernel
theorem dX1_init_24 : decode cX1_init 24 = .ok (.putfield 17, 3) := by decide +kernel
theorem dX1_init_27 : decode cX1_init 27 = .ok (.return_, 1) := by decide +kernel
theorem dX1_beginAnew_0 : decode cX1_beginAnew 0 = .ok (.aload_n 0, 1) := by decide +kernel
theorem dX1_beginAnew_1 : decode cX1_beginAnew 1 = .ok (.iconst 1, 1) := by decide +kernel
theorem dX1_beginAnew_2 : decode cX1_beginAnew 2 = .ok (.putfield 20, 3) := by decide +kernel
theorem dX1_beginAnew_5 : decode cX1_beginAnew 5 = .ok (.aload_n 0, 1) := by decide +kernel
theorem dX1_beginAnew_6 : decode cX1_beginAnew 6 = .ok (.bipush 32, 2) := by decide +kernel
theorem dX1_beginAnew_8 : decode cX1_beginAnew 8 = .ok (.putfield 23, 3) := by decide +kernel
theorem dX1_beginAnew_11 : decode cX1_beginAnew 11 = .ok (.return_, 1) := by decide +kernel
set_option maxRecDepth 20000 in
theorem ggX1_write_X1_lay : GoodIn wsX1_write wsX1_lay := goodIn_r _ [9, 2, 33, 34, 35, 36, 37] (by decide +kernel) (by decide +kernel)
set_option maxRecDepth 20000 in
theorem gX1_write_X1_lay : GoodIn wsX1_write (wsV RX1 26 RX1 yX1_lay wsX1_lay) := goodIn_app (goodIn_of _ (by decide +kernel)) ggX1_write_X1_lay
set_option maxRecDepth 20000 in
theorem ggX1_write_X2_ofRow : GoodIn wsX1_write wsX2_ofRow := goodIn_r _ [13, 14, 15, 16, 17, 18, 19, 20, 21, 22, 12, 23] (by decide +kernel) (by decide +kernel)
set_option maxRecDepth 20000 in
theorem gX1_write_X2_ofRow : GoodIn wsX1_write (va_wsS RX1 30 yX2_ofRow wsX2_ofRow) := goodIn_app (goodIn_of _ (by decide +kernel)) ggX1_write_X2_ofRow
set_option maxRecDepth 20000 in
theorem ggX1_write_X1_placeOf : GoodIn wsX1_write wsX1_placeOf := goodIn_r _ [27, 28, 29, 30, 31, 32, 33, 34, 35, 36, 37] (by decide +kernel) (by decide +kernel)
set_option maxRecDepth 20000 in
theorem gX1_write_X1_placeOf : GoodIn wsX1_write (wsV RX1 36 RX1 yX1_placeOf wsX1_placeOf) := goodIn_app (goodIn_of _ (by decide +kernel)) ggX1_write_X1_placeOf
theorem dX1_write_0 : decode cX1_write 0 = .ok (.aload_n 0, 1) := by decide +kernel
theorem dX1_write_1 : decode cX1_write 1 = .ok (.iconst 0, 1) := by decide +kernel
theorem dX1_write_2 : decode cX1_write 2 = .ok (.iconst 4, 1) := by decide +kernel
theorem dX1_write_3 : decode cX1_write 3 = .ok (.aload_n 0, 1) := by decide +kernel
theorem dX1_write_4 : decode cX1_write 4 = .ok (.getfield 20, 3) := by decide +kernel
theorem dX1_write_7 : decode cX1_write 7 = .ok (.i2l, 1) := by decide +kernel
theorem dX1_write_8 : decode cX1_write 8 = .ok (.invokevirtual 26, 3) := by decide +kernel
theorem dX1_write_11 : decode cX1_write 11 = .ok (.aload_n 0, 1) := by decide +kernel
theorem dX1_write_12 : decode cX1_write 12 = .ok (.iconst 4, 1) := by decide +kernel
theorem dX1_write_13 : decode cX1_write 13 = .ok (.iconst 4, 1) := by decide +kernel
theorem dX1_write_14 : decode cX1_write 14 = .ok (.iload_n 1, 1) := by decide +kernel
theorem dX1_write_15 : decode cX1_write 15 = .ok (.i2l, 1) := by decide +kernel
theorem dX1_write_16 : decode cX1_write 16 = .ok (.invokevirtual 26, 3) := by decide +kernel
theorem dX1_write_19 : decode cX1_write 19 = .ok (.aload_n 0, 1) := by decide +kernel
theorem dX1_write_20 : decode cX1_write 20 = .ok (.bipush 8, 2) := by decide +kernel
theorem dX1_write_22 : decode cX1_write 22 = .ok (.bipush 8, 2) := by decide +kernel
theorem dX1_write_24 : decode cX1_write 24 = .ok (.lload_n 2, 1) := by decide +kernel
theorem dX1_write_25 : decode cX1_write 25 = .ok (.invokevirtual 26, 3) := by decide +kernel
theorem dX1_write_28 : decode cX1_write 28 = .ok (.aload_n 0, 1) := by decide +kernel
theorem dX1_write_29 : decode cX1_write 29 = .ok (.bipush 16, 2) := by decide +kernel
theorem dX1_write_31 : decode cX1_write 31 = .ok (.iconst 2, 1) := by decide +kernel
theorem dX1_write_32 : decode cX1_write 32 = .ok (.iload 4, 2) := by decide +kernel
theorem dX1_write_34 : decode cX1_write 34 = .ok (.i2l, 1) := by decide +kernel
theorem dX1_write_35 : decode cX1_write 35 = .ok (.invokevirtual 26, 3) := by decide +kernel
theorem dX1_write_38 : decode cX1_write 38 = .ok (.aload_n 0, 1) := by decide +kernel
theorem dX1_write_39 : decode cX1_write 39 = .ok (.bipush 18, 2) := by decide +kernel
theorem dX1_write_41 : decode cX1_write 41 = .ok (.iconst 2, 1) := by decide +kernel
theorem dX1_write_42 : decode cX1_write 42 = .ok (.iload 5, 2) := by decide +kernel
theorem dX1_write_44 : decode cX1_write 44 = .ok (.i2l, 1) := by decide +kernel
theorem dX1_write_45 : decode cX1_write 45 = .ok (.invokevirtual 26, 3) := by decide +kernel
theorem dX1_write_48 : decode cX1_write 48 = .ok (.aload_n 0, 1) := by decide +kernel
theorem dX1_write_49 : decode cX1_write 49 = .ok (.bipush 30, 2) := by decide +kernel
theorem dX1_write_51 : decode cX1_write 51 = .ok (.iconst 2, 1) := by decide +kernel
theorem dX1_write_52 : decode cX1_write 52 = .ok (.aload_n 0, 1) := by decide +kernel
theorem dX1_write_53 : decode cX1_write 53 = .ok (.getfield 9, 3) := by decide +kernel
theorem dX1_write_56 : decode cX1_write 56 = .ok (.iconst 0, 1) := by decide +kernel
theorem dX1_write_57 : decode cX1_write 57 = .ok (.bipush 30, 2) := by decide +kernel
theorem dX1_write_59 : decode cX1_write 59 = .ok (.invokestatic 30, 3) := by decide +kernel
theorem dX1_write_62 : decode cX1_write 62 = .ok (.i2l, 1) := by decide +kernel
theorem dX1_write_63 : decode cX1_write 63 = .ok (.invokevirtual 26, 3) := by decide +kernel
theorem dX1_write_66 : decode cX1_write 66 = .ok (.aload_n 0, 1) := by decide +kernel
theorem dX1_write_67 : decode cX1_write 67 = .ok (.aload_n 0, 1) := by decide +kernel
theorem dX1_write_68 : decode cX1_write 68 = .ok (.getfield 20, 3) := by decide +kernel
theorem dX1_write_71 : decode cX1_write 71 = .ok (.invokevirtual 36, 3) := by decide +kernel
theorem dX1_write_74 : decode cX1_write 74 = .ok (.bipush 32, 2) := by decide +kernel
theorem dX1_write_76 : decode cX1_write 76 = .ok (.imul, 1) := by decide +kernel
theorem dX1_write_77 : decode cX1_write 77 = .ok (.istore 6, 2) := by decide +kernel
theorem dX1_write_79 : decode cX1_write 79 = .ok (.iconst 0, 1) := by decide +kernel
theorem dX1_write_80 : decode cX1_write 80 = .ok (.istore 7, 2) := by decide +kernel
theorem dX1_write_82 : decode cX1_write 82 = .ok (.iload 7, 2) := by decide +kernel
theorem dX1_write_84 : decode cX1_write 84 = .ok (.aload_n 0, 1) := by decide +kernel
theorem dX1_write_85 : decode cX1_write 85 = .ok (.getfield 23, 3) := by decide +kernel
theorem dX1_write_88 : decode cX1_write 88 = .ok (.if_icmp .ge 26, 3) := by decide +kernel
theorem dX1_write_91 : decode cX1_write 91 = .ok (.aload_n 0, 1) := by decide +kernel
theorem dX1_write_92 : decode cX1_write 92 = .ok (.getfield 17, 3) := by decide +kernel
theorem dX1_write_95 : decode cX1_write 95 = .ok (.iload 6, 2) := by decide +kernel
theorem dX1_write_97 : decode cX1_write 97 = .ok (.iload 7, 2) := by decide +kernel
theorem dX1_write_99 : decode cX1_write 99 = .ok (.iadd, 1) := by decide +kernel
theorem dX1_write_100 : decode cX1_write 100 = .ok (.aload_n 0, 1) := by decide +kernel
theorem dX1_write_101 : decode cX1_write 101 = .ok (.getfield 9, 3) := by decide +kernel
theorem dX1_write_104 : decode cX1_write 104 = .ok (.iload 7, 2) := by decide +kernel
theorem dX1_write_106 : decode cX1_write 106 = .ok (.baload, 1) := by decide +kernel
theorem dX1_write_107 : decode cX1_write 107 = .ok (.bastore, 1) := by decide +kernel
theorem dX1_write_108 : decode cX1_write 108 = .ok (.iinc 7 1, 3) := by decide +kernel
theorem dX1_write_111 : decode cX1_write 111 = .ok (.goto (-29), 3) := by decide +kernel
theorem dX1_write_114 : decode cX1_write 114 = .ok (.aload_n 0, 1) := by decide +kernel
theorem dX1_write_115 : decode cX1_write 115 = .ok (.dup, 1) := by decide +kernel
theorem dX1_write_116 : decode cX1_write 116 = .ok (.getfield 20, 3) := by decide +kernel
theorem dX1_write_119 : decode cX1_write 119 = .ok (.iconst 1, 1) := by decide +kernel
theorem dX1_write_120 : decode cX1_write 120 = .ok (.iadd, 1) := by decide +kernel
theorem dX1_write_121 : decode cX1_write 121 = .ok (.putfield 20, 3) := by decide +kernel
theorem dX1_write_124 : decode cX1_write 124 = .ok (.aload_n 0, 1) := by decide +kernel
theorem dX1_write_125 : decode cX1_write 125 = .ok (.getfield 23, 3) := by decide +kernel
theorem dX1_write_128 : decode cX1_write 128 = .ok (.bipush 32, 2) := by decide +kernel
theorem dX1_write_130 : decode cX1_write 130 = .ok (.if_icmp .ne 7, 3) := by decide +kernel
theorem dX1_write_133 : decode cX1_write 133 = .ok (.iconst 1, 1) := by decide +kernel
theorem dX1_write_134 : decode cX1_write 134 = .ok (.goto 4, 3) := by decide +kernel
theorem dX1_write_137 : decode cX1_write 137 = .ok (.iconst 0, 1) := by decide +kernel
theorem dX1_write_138 : decode cX1_write 138 = .ok (.ireturn, 1) := by decide +kernel
set_option maxRecDepth 20000 in
theorem ggX1_placeOf_J9_floorMod_7cf53 : GoodIn wsX1_placeOf wsJ9_floorMod_7cf53 := goodIn_r _ [5] (by decide +kernel) (by decide +kernel)
set_option maxRecDepth 20000 in
theorem gX1_placeOf_J9_floorMod_7cf53 : GoodIn wsX1_placeOf (va_wsS RX1 40 yJ9_floorMod_7cf53 wsJ9_floorMod_7cf53) := goodIn_app (goodIn_of _ (by decide +kernel)) ggX1_placeOf_J9_floorMod_7cf53
theorem dX1_placeOf_0 : decode cX1_placeOf 0 = .ok (.iload_n 1, 1) := by decide +kernel
theorem dX1_placeOf_1 : decode cX1_placeOf 1 = .ok (.iconst 1, 1) := by decide +kernel
theorem dX1_placeOf_2 : decode cX1_placeOf 2 = .ok (.isub, 1) := by decide +kernel
theorem dX1_placeOf_3 : decode cX1_placeOf 3 = .ok (.aload_n 0, 1) := by decide +kernel
theorem dX1_placeOf_4 : decode cX1_placeOf 4 = .ok (.getfield 13, 3) := by decide +kernel
theorem dX1_placeOf_7 : decode cX1_placeOf 7 = .ok (.invokestatic 40, 3) := by decide +kernel
theorem dX1_placeOf_10 : decode cX1_placeOf 10 = .ok (.ireturn, 1) := by decide +kernel
theorem dX1_lay_0 : decode cX1_lay 0 = .ok (.iconst 0, 1) := by decide +kernel
theorem dX1_lay_1 : decode cX1_lay 1 = .ok (.istore 5, 2) := by decide +kernel
theorem dX1_lay_3 : decode cX1_lay 3 = .ok (.iload 5, 2) := by decide +kernel
theorem dX1_lay_5 : decode cX1_lay 5 = .ok (.iload_n 2, 1) := by decide +kernel
theorem dX1_lay_6 : decode cX1_lay 6 = .ok (.if_icmp .ge 27, 3) := by decide +kernel
theorem dX1_lay_9 : decode cX1_lay 9 = .ok (.aload_n 0, 1) := by decide +kernel
theorem dX1_lay_10 : decode cX1_lay 10 = .ok (.getfield 9, 3) := by decide +kernel
theorem dX1_lay_13 : decode cX1_lay 13 = .ok (.iload_n 1, 1) := by decide +kernel
theorem dX1_lay_14 : decode cX1_lay 14 = .ok (.iload 5, 2) := by decide +kernel
theorem dX1_lay_16 : decode cX1_lay 16 = .ok (.iadd, 1) := by decide +kernel
theorem dX1_lay_17 : decode cX1_lay 17 = .ok (.lload_n 3, 1) := by decide +kernel
theorem dX1_lay_18 : decode cX1_lay 18 = .ok (.bipush 8, 2) := by decide +kernel
theorem dX1_lay_20 : decode cX1_lay 20 = .ok (.iload 5, 2) := by decide +kernel
theorem dX1_lay_22 : decode cX1_lay 22 = .ok (.imul, 1) := by decide +kernel
theorem dX1_lay_23 : decode cX1_lay 23 = .ok (.lushr, 1) := by decide +kernel
theorem dX1_lay_24 : decode cX1_lay 24 = .ok (.l2i, 1) := by decide +kernel
theorem dX1_lay_25 : decode cX1_lay 25 = .ok (.i2b, 1) := by decide +kernel
theorem dX1_lay_26 : decode cX1_lay 26 = .ok (.bastore, 1) := by decide +kernel
theorem dX1_lay_27 : decode cX1_lay 27 = .ok (.iinc 5 1, 3) := by decide +kernel
theorem dX1_lay_30 : decode cX1_lay 30 = .ok (.goto (-27), 3) := by decide +kernel
theorem dX1_lay_33 : decode cX1_lay 33 = .ok (.return_, 1) := by decide +kernel
theorem dX1_fetch_0 : decode cX1_fetch 0 = .ok (.lconst 0, 1) := by decide +kernel
theorem dX1_fetch_1 : decode cX1_fetch 1 = .ok (.lstore_n 3, 1) := by decide +kernel
theorem dX1_fetch_2 : decode cX1_fetch 2 = .ok (.iconst 0, 1) := by decide +kernel
theorem dX1_fetch_3 : decode cX1_fetch 3 = .ok (.istore 5, 2) := by decide +kernel
theorem dX1_fetch_5 : decode cX1_fetch 5 = .ok (.iload 5, 2) := by decide +kernel
theorem dX1_fetch_7 : decode cX1_fetch 7 = .ok (.iload_n 2, 1) := by decide +kernel
theorem dX1_fetch_8 : decode cX1_fetch 8 = .ok (.if_icmp .ge 32, 3) := by decide +kernel
theorem dX1_fetch_11 : decode cX1_fetch 11 = .ok (.lload_n 3, 1) := by decide +kernel
theorem dX1_fetch_12 : decode cX1_fetch 12 = .ok (.aload_n 0, 1) := by decide +kernel
theorem dX1_fetch_13 : decode cX1_fetch 13 = .ok (.getfield 17, 3) := by decide +kernel
theorem dX1_fetch_16 : decode cX1_fetch 16 = .ok (.iload_n 1, 1) := by decide +kernel
theorem dX1_fetch_17 : decode cX1_fetch 17 = .ok (.iload 5, 2) := by decide +kernel
theorem dX1_fetch_19 : decode cX1_fetch 19 = .ok (.iadd, 1) := by decide +kernel
theorem dX1_fetch_20 : decode cX1_fetch 20 = .ok (.baload, 1) := by decide +kernel
theorem dX1_fetch_21 : decode cX1_fetch 21 = .ok (.i2l, 1) := by decide +kernel
theorem dX1_fetch_22 : decode cX1_fetch 22 = .ok (.ldc2_w 46, 3) := by decide +kernel
theorem dX1_fetch_25 : decode cX1_fetch 25 = .ok (.land, 1) := by decide +kernel
theorem dX1_fetch_26 : decode cX1_fetch 26 = .ok (.bipush 8, 2) := by decide +kernel
theorem dX1_fetch_28 : decode cX1_fetch 28 = .ok (.iload 5, 2) := by decide +kernel
theorem dX1_fetch_30 : decode cX1_fetch 30 = .ok (.imul, 1) := by decide +kernel
theorem dX1_fetch_31 : decode cX1_fetch 31 = .ok (.lshl, 1) := by decide +kernel
theorem dX1_fetch_32 : decode cX1_fetch 32 = .ok (.lor, 1) := by decide +kernel
theorem dX1_fetch_33 : decode cX1_fetch 33 = .ok (.lstore_n 3, 1) := by decide +kernel
theorem dX1_fetch_34 : decode cX1_fetch 34 = .ok (.iinc 5 1, 3) := by decide +kernel
theorem dX1_fetch_37 : decode cX1_fetch 37 = .ok (.goto (-32), 3) := by decide +kernel
theorem dX1_fetch_40 : decode cX1_fetch 40 = .ok (.lload_n 3, 1) := by decide +kernel
theorem dX1_fetch_41 : decode cX1_fetch 41 = .ok (.lreturn, 1) := by decide +kernel
set_option maxRecDepth 20000 in
theorem ggX1_newestPlace_X1_isGood : GoodIn wsX1_newestPlace wsX1_isGood := goodIn_r _ [6, 7, 8, 9, 10, 11, 5, 12, 13, 14, 15, 16, 17, 18, 19, 20, 21, 1, 22, 23, 24, 25, 26, 27, 28, 29, 30, 31, 32, 33, 34, 35, 36, 37, 38, 39, 40, 41, 42, 43, 44] (by decide +kernel) (by decide +kernel)
set_option maxRecDepth 20000 in
theorem gX1_newestPlace_X1_isGood : GoodIn wsX1_newestPlace (wsV RX1 48 RX1 yX1_isGood wsX1_isGood) := goodIn_app (goodIn_of _ (by decide +kernel)) ggX1_newestPlace_X1_isGood
set_option maxRecDepth 20000 in
theorem ggX1_newestPlace_X1_numberAt : GoodIn wsX1_newestPlace wsX1_numberAt := goodIn_r _ [12, 13, 14, 15, 5, 16, 8, 17, 40, 41, 42, 43, 44] (by decide +kernel) (by decide +kernel)
set_option maxRecDepth 20000 in
theorem gX1_newestPlace_X1_numberAt : GoodIn wsX1_newestPlace (wsV RX1 52 RX1 yX1_numberAt wsX1_numberAt) := goodIn_app (goodIn_of _ (by decide +kernel)) ggX1_newestPlace_X1_numberAt
theorem dX1_newestPlace_0 : decode cX1_newestPlace 0 = .ok (.iconst (-1), 1) := by decide +kernel
theorem dX1_newestPlace_1 : decode cX1_newestPlace 1 = .ok (.istore_n 1, 1) := by decide +kernel
theorem dX1_newestPlace_2 : decode cX1_newestPlace 2 = .ok (.iconst 0, 1) := by decide +kernel
theorem dX1_newestPlace_3 : decode cX1_newestPlace 3 = .ok (.istore_n 2, 1) := by decide +kernel
theorem dX1_newestPlace_4 : decode cX1_newestPlace 4 = .ok (.iload_n 2, 1) := by decide +kernel
theorem dX1_newestPlace_5 : decode cX1_newestPlace 5 = .ok (.aload_n 0, 1) := by decide +kernel
theorem dX1_newestPlace_6 : decode cX1_newestPlace 6 = .ok (.getfield 13, 3) := by decide +kernel
theorem dX1_newestPlace_9 : decode cX1_newestPlace 9 = .ok (.if_icmp .ge 36, 3) := by decide +kernel
theorem dX1_newestPlace_12 : decode cX1_newestPlace 12 = .ok (.aload_n 0, 1) := by decide +kernel
theorem dX1_newestPlace_13 : decode cX1_newestPlace 13 = .ok (.iload_n 2, 1) := by decide +kernel
theorem dX1_newestPlace_14 : decode cX1_newestPlace 14 = .ok (.invokevirtual 48, 3) := by decide +kernel
theorem dX1_newestPlace_17 : decode cX1_newestPlace 17 = .ok (.ifCond .eq 22, 3) := by decide +kernel
theorem dX1_newestPlace_20 : decode cX1_newestPlace 20 = .ok (.iload_n 1, 1) := by decide +kernel
theorem dX1_newestPlace_21 : decode cX1_newestPlace 21 = .ok (.ifCond .lt 16, 3) := by decide +kernel
theorem dX1_newestPlace_24 : decode cX1_newestPlace 24 = .ok (.aload_n 0, 1) := by decide +kernel
theorem dX1_newestPlace_25 : decode cX1_newestPlace 25 = .ok (.iload_n 2, 1) := by decide +kernel
theorem dX1_newestPlace_26 : decode cX1_newestPlace 26 = .ok (.invokevirtual 52, 3) := by decide +kernel
theorem dX1_newestPlace_29 : decode cX1_newestPlace 29 = .ok (.aload_n 0, 1) := by decide +kernel
theorem dX1_newestPlace_30 : decode cX1_newestPlace 30 = .ok (.iload_n 1, 1) := by decide +kernel
theorem dX1_newestPlace_31 : decode cX1_newestPlace 31 = .ok (.invokevirtual 52, 3) := by decide +kernel
theorem dX1_newestPlace_34 : decode cX1_newestPlace 34 = .ok (.if_icmp .le 5, 3) := by decide +kernel
theorem dX1_newestPlace_37 : decode cX1_newestPlace 37 = .ok (.iload_n 2, 1) := by decide +kernel
theorem dX1_newestPlace_38 : decode cX1_newestPlace 38 = .ok (.istore_n 1, 1) := by decide +kernel
theorem dX1_newestPlace_39 : decode cX1_newestPlace 39 = .ok (.iinc 2 1, 3) := by decide +kernel
theorem dX1_newestPlace_42 : decode cX1_newestPlace 42 = .ok (.goto (-38), 3) := by decide +kernel
theorem dX1_newestPlace_45 : decode cX1_newestPlace 45 = .ok (.iload_n 1, 1) := by decide +kernel
theorem dX1_newestPlace_46 : decode cX1_newestPlace 46 = .ok (.ireturn, 1) := by decide +kernel
set_option maxRecDepth 20000 in
theorem ggX1_isGood_X1_numberAt : GoodIn wsX1_isGood wsX1_numberAt := goodIn_r _ [7, 8, 9, 10, 6, 11, 2, 12, 36, 37, 38, 39, 40] (by decide +kernel) (by decide +kernel)
set_option maxRecDepth 20000 in
theorem gX1_isGood_X1_numberAt : GoodIn wsX1_isGood (wsV RX1 52 RX1 yX1_numberAt wsX1_numberAt) := goodIn_app (goodIn_of _ (by decide +kernel)) ggX1_isGood_X1_numberAt
set_option maxRecDepth 20000 in
theorem ggX1_isGood_X1_placeOf : GoodIn wsX1_isGood wsX1_placeOf := goodIn_r _ [16, 17, 18, 19, 20, 21, 36, 37, 38, 39, 40] (by decide +kernel) (by decide +kernel)
set_option maxRecDepth 20000 in
theorem gX1_isGood_X1_placeOf : GoodIn wsX1_isGood (wsV RX1 36 RX1 yX1_placeOf wsX1_placeOf) := goodIn_app (goodIn_of _ (by decide +kernel)) ggX1_isGood_X1_placeOf
set_option maxRecDepth 20000 in
theorem ggX1_isGood_X1_fetch : GoodIn wsX1_isGood wsX1_fetch := goodIn_r _ [11, 2, 12, 36, 37, 38, 39, 40] (by decide +kernel) (by decide +kernel)
set_option maxRecDepth 20000 in
theorem gX1_isGood_X1_fetch : GoodIn wsX1_isGood (wsV RX1 56 RX1 yX1_fetch wsX1_fetch) := goodIn_app (goodIn_of _ (by decide +kernel)) ggX1_isGood_X1_fetch
set_option maxRecDepth 20000 in
theorem ggX1_isGood_X2_ofRow : GoodIn wsX1_isGood wsX2_ofRow := goodIn_r _ [25, 26, 27, 28, 29, 30, 31, 32, 33, 34, 24, 35] (by decide +kernel) (by decide +kernel)
set_option maxRecDepth 20000 in
theorem gX1_isGood_X2_ofRow : GoodIn wsX1_isGood (va_wsS RX1 30 yX2_ofRow wsX2_ofRow) := goodIn_app (goodIn_of _ (by decide +kernel)) ggX1_isGood_X2_ofRow
theorem dX1_isGood_0 : decode cX1_isGood 0 = .ok (.iload_n 1, 1) := by decide +kernel
theorem dX1_isGood_1 : decode cX1_isGood 1 = .ok (.bipush 32, 2) := by decide +kernel
theorem dX1_isGood_3 : decode cX1_isGood 3 = .ok (.imul, 1) := by decide +kernel
theorem dX1_isGood_4 : decode cX1_isGood 4 = .ok (.istore_n 2, 1) := by decide +kernel
theorem dX1_isGood_5 : decode cX1_isGood 5 = .ok (.aload_n 0, 1) := by decide +kernel
theorem dX1_isGood_6 : decode cX1_isGood 6 = .ok (.iload_n 1, 1) := by decide +kernel
theorem dX1_isGood_7 : decode cX1_isGood 7 = .ok (.invokevirtual 52, 3) := by decide +kernel
theorem dX1_isGood_10 : decode cX1_isGood 10 = .ok (.istore_n 3, 1) := by decide +kernel
theorem dX1_isGood_11 : decode cX1_isGood 11 = .ok (.iload_n 3, 1) := by decide +kernel
theorem dX1_isGood_12 : decode cX1_isGood 12 = .ok (.iconst 1, 1) := by decide +kernel
theorem dX1_isGood_13 : decode cX1_isGood 13 = .ok (.if_icmp .lt 46, 3) := by decide +kernel
theorem dX1_isGood_16 : decode cX1_isGood 16 = .ok (.iload_n 3, 1) := by decide +kernel
theorem dX1_isGood_17 : decode cX1_isGood 17 = .ok (.ldc 55, 2) := by decide +kernel
theorem dX1_isGood_19 : decode cX1_isGood 19 = .ok (.if_icmp .gt 40, 3) := by decide +kernel
theorem dX1_isGood_22 : decode cX1_isGood 22 = .ok (.aload_n 0, 1) := by decide +kernel
theorem dX1_isGood_23 : decode cX1_isGood 23 = .ok (.iload_n 3, 1) := by decide +kernel
theorem dX1_isGood_24 : decode cX1_isGood 24 = .ok (.invokevirtual 36, 3) := by decide +kernel
theorem dX1_isGood_27 : decode cX1_isGood 27 = .ok (.iload_n 1, 1) := by decide +kernel
theorem dX1_isGood_28 : decode cX1_isGood 28 = .ok (.if_icmp .ne 31, 3) := by decide +kernel
theorem dX1_isGood_31 : decode cX1_isGood 31 = .ok (.aload_n 0, 1) := by decide +kernel
theorem dX1_isGood_32 : decode cX1_isGood 32 = .ok (.iload_n 2, 1) := by decide +kernel
theorem dX1_isGood_33 : decode cX1_isGood 33 = .ok (.bipush 30, 2) := by decide +kernel
theorem dX1_isGood_35 : decode cX1_isGood 35 = .ok (.iadd, 1) := by decide +kernel
theorem dX1_isGood_36 : decode cX1_isGood 36 = .ok (.iconst 2, 1) := by decide +kernel
theorem dX1_isGood_37 : decode cX1_isGood 37 = .ok (.invokevirtual 56, 3) := by decide +kernel
theorem dX1_isGood_40 : decode cX1_isGood 40 = .ok (.aload_n 0, 1) := by decide +kernel
theorem dX1_isGood_41 : decode cX1_isGood 41 = .ok (.getfield 17, 3) := by decide +kernel
theorem dX1_isGood_44 : decode cX1_isGood 44 = .ok (.iload_n 2, 1) := by decide +kernel
theorem dX1_isGood_45 : decode cX1_isGood 45 = .ok (.bipush 30, 2) := by decide +kernel
theorem dX1_isGood_47 : decode cX1_isGood 47 = .ok (.invokestatic 30, 3) := by decide +kernel
theorem dX1_isGood_50 : decode cX1_isGood 50 = .ok (.i2l, 1) := by decide +kernel
theorem dX1_isGood_51 : decode cX1_isGood 51 = .ok (.lcmp, 1) := by decide +kernel
theorem dX1_isGood_52 : decode cX1_isGood 52 = .ok (.ifCond .ne 7, 3) := by decide +kernel
theorem dX1_isGood_55 : decode cX1_isGood 55 = .ok (.iconst 1, 1) := by decide +kernel
theorem dX1_isGood_56 : decode cX1_isGood 56 = .ok (.goto 4, 3) := by decide +kernel
theorem dX1_isGood_59 : decode cX1_isGood 59 = .ok (.iconst 0, 1) := by decide +kernel
theorem dX1_isGood_60 : decode cX1_isGood 60 = .ok (.ireturn, 1) := by decide +kernel
set_option maxRecDepth 20000 in
theorem ggX1_numberAt_X1_fetch : GoodIn wsX1_numberAt wsX1_fetch := goodIn_r _ [5, 6, 7, 8, 9, 10, 11, 12] (by decide +kernel) (by decide +kernel)
set_option maxRecDepth 20000 in
theorem gX1_numberAt_X1_fetch : GoodIn wsX1_numberAt (wsV RX1 56 RX1 yX1_fetch wsX1_fetch) := goodIn_app (goodIn_of _ (by decide +kernel)) ggX1_numberAt_X1_fetch
theorem dX1_numberAt_0 : decode cX1_numberAt 0 = .ok (.aload_n 0, 1) := by decide +kernel
theorem dX1_numberAt_1 : decode cX1_numberAt 1 = .ok (.iload_n 1, 1) := by decide +kernel
theorem dX1_numberAt_2 : decode cX1_numberAt 2 = .ok (.bipush 32, 2) := by decide +kernel
theorem dX1_numberAt_4 : decode cX1_numberAt 4 = .ok (.imul, 1) := by decide +kernel
theorem dX1_numberAt_5 : decode cX1_numberAt 5 = .ok (.iconst 0, 1) := by decide +kernel
theorem dX1_numberAt_6 : decode cX1_numberAt 6 = .ok (.iadd, 1) := by decide +kernel
theorem dX1_numberAt_7 : decode cX1_numberAt 7 = .ok (.iconst 4, 1) := by decide +kernel
theorem dX1_numberAt_8 : decode cX1_numberAt 8 = .ok (.invokevirtual 56, 3) := by decide +kernel
theorem dX1_numberAt_11 : decode cX1_numberAt 11 = .ok (.l2i, 1) := by decide +kernel
theorem dX1_numberAt_12 : decode cX1_numberAt 12 = .ok (.ireturn, 1) := by decide +kernel
set_option maxRecDepth 20000 in
theorem ggX1_timeAt_X1_fetch : GoodIn wsX1_timeAt wsX1_fetch := goodIn_r _ [5, 6, 7, 8, 9, 10, 11, 12] (by decide +kernel) (by decide +kernel)
set_option maxRecDepth 20000 in
theorem gX1_timeAt_X1_fetch : GoodIn wsX1_timeAt (wsV RX1 56 RX1 yX1_fetch wsX1_fetch) := goodIn_app (goodIn_of _ (by decide +kernel)) ggX1_timeAt_X1_fetch
theorem dX1_timeAt_0 : decode cX1_timeAt 0 = .ok (.aload_n 0, 1) := by decide +kernel
theorem dX1_timeAt_1 : decode cX1_timeAt 1 = .ok (.iload_n 1, 1) := by decide +kernel
theorem dX1_timeAt_2 : decode cX1_timeAt 2 = .ok (.bipush 32, 2) := by decide +kernel
theorem dX1_timeAt_4 : decode cX1_timeAt 4 = .ok (.imul, 1) := by decide +kernel
theorem dX1_timeAt_5 : decode cX1_timeAt 5 = .ok (.iconst 4, 1) := by decide +kernel
theorem dX1_timeAt_6 : decode cX1_timeAt 6 = .ok (.iadd, 1) := by decide +kernel
theorem dX1_timeAt_7 : decode cX1_timeAt 7 = .ok (.iconst 4, 1) := by decide +kernel
theorem dX1_timeAt_8 : decode cX1_timeAt 8 = .ok (.invokevirtual 56, 3) := by decide +kernel
theorem dX1_timeAt_11 : decode cX1_timeAt 11 = .ok (.l2i, 1) := by decide +kernel
theorem dX1_timeAt_12 : decode cX1_timeAt 12 = .ok (.ireturn, 1) := by decide +kernel
set_option maxRecDepth 20000 in
theorem ggX1_partsAt_X1_fetch : GoodIn wsX1_partsAt wsX1_fetch := goodIn_r _ [5, 6, 7, 8, 9, 10, 11, 12] (by decide +kernel) (by decide +kernel)
set_option maxRecDepth 20000 in
theorem gX1_partsAt_X1_fetch : GoodIn wsX1_partsAt (wsV RX1 56 RX1 yX1_fetch wsX1_fetch) := goodIn_app (goodIn_of _ (by decide +kernel)) ggX1_partsAt_X1_fetch
theorem dX1_partsAt_0 : decode cX1_partsAt 0 = .ok (.aload_n 0, 1) := by decide +kernel
theorem dX1_partsAt_1 : decode cX1_partsAt 1 = .ok (.iload_n 1, 1) := by decide +kernel
theorem dX1_partsAt_2 : decode cX1_partsAt 2 = .ok (.bipush 32, 2) := by decide +kernel
theorem dX1_partsAt_4 : decode cX1_partsAt 4 = .ok (.imul, 1) := by decide +kernel
theorem dX1_partsAt_5 : decode cX1_partsAt 5 = .ok (.bipush 8, 2) := by decide +kernel
theorem dX1_partsAt_7 : decode cX1_partsAt 7 = .ok (.iadd, 1) := by decide +kernel
theorem dX1_partsAt_8 : decode cX1_partsAt 8 = .ok (.bipush 8, 2) := by decide +kernel
theorem dX1_partsAt_10 : decode cX1_partsAt 10 = .ok (.invokevirtual 56, 3) := by decide +kernel
theorem dX1_partsAt_13 : decode cX1_partsAt 13 = .ok (.lreturn, 1) := by decide +kernel
set_option maxRecDepth 20000 in
theorem ggX1_faultsAt_X1_fetch : GoodIn wsX1_faultsAt wsX1_fetch := goodIn_r _ [5, 6, 7, 8, 9, 10, 11, 12] (by decide +kernel) (by decide +kernel)
set_option maxRecDepth 20000 in
theorem gX1_faultsAt_X1_fetch : GoodIn wsX1_faultsAt (wsV RX1 56 RX1 yX1_fetch wsX1_fetch) := goodIn_app (goodIn_of _ (by decide +kernel)) ggX1_faultsAt_X1_fetch
theorem dX1_faultsAt_0 : decode cX1_faultsAt 0 = .ok (.aload_n 0, 1) := by decide +kernel
theorem dX1_faultsAt_1 : decode cX1_faultsAt 1 = .ok (.iload_n 1, 1) := by decide +kernel
theorem dX1_faultsAt_2 : decode cX1_faultsAt 2 = .ok (.bipush 32, 2) := by decide +kernel
theorem dX1_faultsAt_4 : decode cX1_faultsAt 4 = .ok (.imul, 1) := by decide +kernel
theorem dX1_faultsAt_5 : decode cX1_faultsAt 5 = .ok (.bipush 16, 2) := by decide +kernel
theorem dX1_faultsAt_7 : decode cX1_faultsAt 7 = .ok (.iadd, 1) := by decide +kernel
theorem dX1_faultsAt_8 : decode cX1_faultsAt 8 = .ok (.iconst 2, 1) := by decide +kernel
theorem dX1_faultsAt_9 : decode cX1_faultsAt 9 = .ok (.invokevirtual 56, 3) := by decide +kernel
theorem dX1_faultsAt_12 : decode cX1_faultsAt 12 = .ok (.l2i, 1) := by decide +kernel
theorem dX1_faultsAt_13 : decode cX1_faultsAt 13 = .ok (.sipush 511, 3) := by decide +kernel
theorem dX1_faultsAt_16 : decode cX1_faultsAt 16 = .ok (.iand, 1) := by decide +kernel
theorem dX1_faultsAt_17 : decode cX1_faultsAt 17 = .ok (.ireturn, 1) := by decide +kernel
set_option maxRecDepth 20000 in
theorem ggX2_ofReply_X2_withByte : GoodIn wsX2_ofReply wsX2_withByte := goodIn_r _ [4] (by decide +kernel) (by decide +kernel)
set_option maxRecDepth 20000 in
theorem gX2_ofReply_X2_withByte : GoodIn wsX2_ofReply (va_wsS RX2 7 yX2_withByte wsX2_withByte) := goodIn_app (goodIn_of _ (by decide +kernel)) ggX2_ofReply_X2_withByte
theorem dX2_ofReply_0 : decode cX2_ofReply 0 = .ok (.iconst 0, 1) := by decide +kernel
theorem dX2_ofReply_1 : decode cX2_ofReply 1 = .ok (.istore 4, 2) := by decide +kernel
theorem dX2_ofReply_3 : decode cX2_ofReply 3 = .ok (.bipush 56, 2) := by decide +kernel
theorem dX2_ofReply_5 : decode cX2_ofReply 5 = .ok (.istore 5, 2) := by decide +kernel
theorem dX2_ofReply_7 : decode cX2_ofReply 7 = .ok (.iload 5, 2) := by decide +kernel
theorem dX2_ofReply_9 : decode cX2_ofReply 9 = .ok (.ifCond .lt 21, 3) := by decide +kernel
theorem dX2_ofReply_12 : decode cX2_ofReply 12 = .ok (.iload 4, 2) := by decide +kernel
theorem dX2_ofReply_14 : decode cX2_ofReply 14 = .ok (.lload_n 0, 1) := by decide +kernel
theorem dX2_ofReply_15 : decode cX2_ofReply 15 = .ok (.iload 5, 2) := by decide +kernel
theorem dX2_ofReply_17 : decode cX2_ofReply 17 = .ok (.lushr, 1) := by decide +kernel
theorem dX2_ofReply_18 : decode cX2_ofReply 18 = .ok (.l2i, 1) := by decide +kernel
theorem dX2_ofReply_19 : decode cX2_ofReply 19 = .ok (.invokestatic 7, 3) := by decide +kernel
theorem dX2_ofReply_22 : decode cX2_ofReply 22 = .ok (.istore 4, 2) := by decide +kernel
theorem dX2_ofReply_24 : decode cX2_ofReply 24 = .ok (.iinc 5 (-8), 3) := by decide +kernel
theorem dX2_ofReply_27 : decode cX2_ofReply 27 = .ok (.goto (-20), 3) := by decide +kernel
theorem dX2_ofReply_30 : decode cX2_ofReply 30 = .ok (.bipush 56, 2) := by decide +kernel
theorem dX2_ofReply_32 : decode cX2_ofReply 32 = .ok (.istore 5, 2) := by decide +kernel
theorem dX2_ofReply_34 : decode cX2_ofReply 34 = .ok (.iload 5, 2) := by decide +kernel
theorem dX2_ofReply_36 : decode cX2_ofReply 36 = .ok (.bipush 16, 2) := by decide +kernel
theorem dX2_ofReply_38 : decode cX2_ofReply 38 = .ok (.if_icmp .lt 21, 3) := by decide +kernel
theorem dX2_ofReply_41 : decode cX2_ofReply 41 = .ok (.iload 4, 2) := by decide +kernel
theorem dX2_ofReply_43 : decode cX2_ofReply 43 = .ok (.lload_n 2, 1) := by decide +kernel
theorem dX2_ofReply_44 : decode cX2_ofReply 44 = .ok (.iload 5, 2) := by decide +kernel
theorem dX2_ofReply_46 : decode cX2_ofReply 46 = .ok (.lushr, 1) := by decide +kernel
theorem dX2_ofReply_47 : decode cX2_ofReply 47 = .ok (.l2i, 1) := by decide +kernel
theorem dX2_ofReply_48 : decode cX2_ofReply 48 = .ok (.invokestatic 7, 3) := by decide +kernel
theorem dX2_ofReply_51 : decode cX2_ofReply 51 = .ok (.istore 4, 2) := by decide +kernel
theorem dX2_ofReply_53 : decode cX2_ofReply 53 = .ok (.iinc 5 (-8), 3) := by decide +kernel
theorem dX2_ofReply_56 : decode cX2_ofReply 56 = .ok (.goto (-22), 3) := by decide +kernel
theorem dX2_ofReply_59 : decode cX2_ofReply 59 = .ok (.iload 4, 2) := by decide +kernel
theorem dX2_ofReply_61 : decode cX2_ofReply 61 = .ok (.ireturn, 1) := by decide +kernel
set_option maxRecDepth 20000 in
theorem ggX2_ofRow_X2_withByte : GoodIn wsX2_ofRow wsX2_withByte := goodIn_r _ [11] (by decide +kernel) (by decide +kernel)
set_option maxRecDepth 20000 in
theorem gX2_ofRow_X2_withByte : GoodIn wsX2_ofRow (va_wsS RX2 7 yX2_withByte wsX2_withByte) := goodIn_app (goodIn_of _ (by decide +kernel)) ggX2_ofRow_X2_withByte
theorem dX2_ofRow_0 : decode cX2_ofRow 0 = .ok (.aload_n 0, 1) := by decide +kernel
theorem dX2_ofRow_1 : decode cX2_ofRow 1 = .ok (.arraylength, 1) := by decide +kernel
theorem dX2_ofRow_2 : decode cX2_ofRow 2 = .ok (.iload_n 1, 1) := by decide +kernel
theorem dX2_ofRow_3 : decode cX2_ofRow 3 = .ok (.iload_n 2, 1) := by decide +kernel
theorem dX2_ofRow_4 : decode cX2_ofRow 4 = .ok (.iadd, 1) := by decide +kernel
theorem dX2_ofRow_5 : decode cX2_ofRow 5 = .ok (.invokestatic 13, 3) := by decide +kernel
theorem dX2_ofRow_8 : decode cX2_ofRow 8 = .ok (.istore_n 3, 1) := by decide +kernel
theorem dX2_ofRow_9 : decode cX2_ofRow 9 = .ok (.iconst 0, 1) := by decide +kernel
theorem dX2_ofRow_10 : decode cX2_ofRow 10 = .ok (.istore 4, 2) := by decide +kernel
theorem dX2_ofRow_12 : decode cX2_ofRow 12 = .ok (.iconst 0, 1) := by decide +kernel
theorem dX2_ofRow_13 : decode cX2_ofRow 13 = .ok (.iload_n 1, 1) := by decide +kernel
theorem dX2_ofRow_14 : decode cX2_ofRow 14 = .ok (.invokestatic 18, 3) := by decide +kernel
theorem dX2_ofRow_17 : decode cX2_ofRow 17 = .ok (.istore 5, 2) := by decide +kernel
theorem dX2_ofRow_19 : decode cX2_ofRow 19 = .ok (.iload 5, 2) := by decide +kernel
theorem dX2_ofRow_21 : decode cX2_ofRow 21 = .ok (.iload_n 3, 1) := by decide +kernel
theorem dX2_ofRow_22 : decode cX2_ofRow 22 = .ok (.if_icmp .ge 20, 3) := by decide +kernel
theorem dX2_ofRow_25 : decode cX2_ofRow 25 = .ok (.iload 4, 2) := by decide +kernel
theorem dX2_ofRow_27 : decode cX2_ofRow 27 = .ok (.aload_n 0, 1) := by decide +kernel
theorem dX2_ofRow_28 : decode cX2_ofRow 28 = .ok (.iload 5, 2) := by decide +kernel
theorem dX2_ofRow_30 : decode cX2_ofRow 30 = .ok (.baload, 1) := by decide +kernel
theorem dX2_ofRow_31 : decode cX2_ofRow 31 = .ok (.invokestatic 7, 3) := by decide +kernel
theorem dX2_ofRow_34 : decode cX2_ofRow 34 = .ok (.istore 4, 2) := by decide +kernel
theorem dX2_ofRow_36 : decode cX2_ofRow 36 = .ok (.iinc 5 1, 3) := by decide +kernel
theorem dX2_ofRow_39 : decode cX2_ofRow 39 = .ok (.goto (-20), 3) := by decide +kernel
theorem dX2_ofRow_42 : decode cX2_ofRow 42 = .ok (.iload 4, 2) := by decide +kernel
theorem dX2_ofRow_44 : decode cX2_ofRow 44 = .ok (.ireturn, 1) := by decide +kernel
theorem dX2_withByte_0 : decode cX2_withByte 0 = .ok (.iload_n 0, 1) := by decide +kernel
theorem dX2_withByte_1 : decode cX2_withByte 1 = .ok (.istore_n 2, 1) := by decide +kernel
theorem dX2_withByte_2 : decode cX2_withByte 2 = .ok (.bipush 7, 2) := by decide +kernel
theorem dX2_withByte_4 : decode cX2_withByte 4 = .ok (.istore_n 3, 1) := by decide +kernel
theorem dX2_withByte_5 : decode cX2_withByte 5 = .ok (.iload_n 3, 1) := by decide +kernel
theorem dX2_withByte_6 : decode cX2_withByte 6 = .ok (.ifCond .lt 49, 3) := by decide +kernel
theorem dX2_withByte_9 : decode cX2_withByte 9 = .ok (.iload_n 2, 1) := by decide +kernel
theorem dX2_withByte_10 : decode cX2_withByte 10 = .ok (.bipush 14, 2) := by decide +kernel
theorem dX2_withByte_12 : decode cX2_withByte 12 = .ok (.iushr, 1) := by decide +kernel
theorem dX2_withByte_13 : decode cX2_withByte 13 = .ok (.iconst 1, 1) := by decide +kernel
theorem dX2_withByte_14 : decode cX2_withByte 14 = .ok (.iand, 1) := by decide +kernel
theorem dX2_withByte_15 : decode cX2_withByte 15 = .ok (.iload_n 1, 1) := by decide +kernel
theorem dX2_withByte_16 : decode cX2_withByte 16 = .ok (.iload_n 3, 1) := by decide +kernel
theorem dX2_withByte_17 : decode cX2_withByte 17 = .ok (.iushr, 1) := by decide +kernel
theorem dX2_withByte_18 : decode cX2_withByte 18 = .ok (.iconst 1, 1) := by decide +kernel
theorem dX2_withByte_19 : decode cX2_withByte 19 = .ok (.iand, 1) := by decide +kernel
theorem dX2_withByte_20 : decode cX2_withByte 20 = .ok (.if_icmp .eq 7, 3) := by decide +kernel
theorem dX2_withByte_23 : decode cX2_withByte 23 = .ok (.iconst 1, 1) := by decide +kernel
theorem dX2_withByte_24 : decode cX2_withByte 24 = .ok (.goto 4, 3) := by decide +kernel
theorem dX2_withByte_27 : decode cX2_withByte 27 = .ok (.iconst 0, 1) := by decide +kernel
theorem dX2_withByte_28 : decode cX2_withByte 28 = .ok (.istore 4, 2) := by decide +kernel
theorem dX2_withByte_30 : decode cX2_withByte 30 = .ok (.iload_n 2, 1) := by decide +kernel
theorem dX2_withByte_31 : decode cX2_withByte 31 = .ok (.iconst 1, 1) := by decide +kernel
theorem dX2_withByte_32 : decode cX2_withByte 32 = .ok (.ishl, 1) := by decide +kernel
theorem dX2_withByte_33 : decode cX2_withByte 33 = .ok (.sipush 32767, 3) := by decide +kernel
theorem dX2_withByte_36 : decode cX2_withByte 36 = .ok (.iand, 1) := by decide +kernel
theorem dX2_withByte_37 : decode cX2_withByte 37 = .ok (.istore_n 2, 1) := by decide +kernel
theorem dX2_withByte_38 : decode cX2_withByte 38 = .ok (.iload 4, 2) := by decide +kernel
theorem dX2_withByte_40 : decode cX2_withByte 40 = .ok (.ifCond .eq 9, 3) := by decide +kernel
theorem dX2_withByte_43 : decode cX2_withByte 43 = .ok (.iload_n 2, 1) := by decide +kernel
theorem dX2_withByte_44 : decode cX2_withByte 44 = .ok (.sipush 17817, 3) := by decide +kernel
theorem dX2_withByte_47 : decode cX2_withByte 47 = .ok (.ixor, 1) := by decide +kernel
theorem dX2_withByte_48 : decode cX2_withByte 48 = .ok (.istore_n 2, 1) := by decide +kernel
theorem dX2_withByte_49 : decode cX2_withByte 49 = .ok (.iinc 3 (-1), 3) := by decide +kernel
theorem dX2_withByte_52 : decode cX2_withByte 52 = .ok (.goto (-47), 3) := by decide +kernel
theorem dX2_withByte_55 : decode cX2_withByte 55 = .ok (.iload_n 2, 1) := by decide +kernel
theorem dX2_withByte_56 : decode cX2_withByte 56 = .ok (.ireturn, 1) := by decide +kernel
theorem dX3_init_0 : decode cX3_init 0 = .ok (.aload_n 0, 1) := by decide +kernel
theorem dX3_init_1 : decode cX3_init 1 = .ok (.invokespecial 3, 3) := by decide +kernel
theorem dX3_init_4 : decode cX3_init 4 = .ok (.aload_n 0, 1) := by decide +kernel
theorem dX3_init_5 : decode cX3_init 5 = .ok (.bipush 6, 2) := by decide +kernel
theorem dX3_init_7 : decode cX3_init 7 = .ok (.newarray .int, 2) := by decide +kernel
theorem dX3_init_9 : decode cX3_init 9 = .ok (.putfield 9, 3) := by decide +kernel
theorem dX3_init_12 : decode cX3_init 12 = .ok (.aload_n 0, 1) := by decide +kernel
theorem dX3_init_13 : decode cX3_init 13 = .ok (.bipush 6, 2) := by decide +kernel
theorem dX3_init_15 : decode cX3_init 15 = .ok (.newarray .int, 2) := by decide +kernel
theorem dX3_init_17 : decode cX3_init 17 = .ok (.putfield 15, 3) := by decide +kernel
theorem dX3_init_20 : decode cX3_init 20 = .ok (.aload_n 0, 1) := by decide +kernel
theorem dX3_init_21 : decode cX3_init 21 = .ok (.bipush 8, 2) := by decide +kernel
theorem dX3_init_23 : decode cX3_init 23 = .ok (.newarray .double, 2) := by decide +kernel
theorem dX3_init_25 : decode cX3_init 25 = .ok (.putfield 18, 3) := by decide +kernel
theorem dX3_init_28 : decode cX3_init 28 = .ok (.return_, 1) := by decide +kernel
theorem dX3_beginAnew_0 : decode cX3_beginAnew 0 = .ok (.aload_n 0, 1) := by decide +kernel
theorem dX3_beginAnew_1 : decode cX3_beginAnew 1 = .ok (.iconst 0, 1) := by decide +kernel
theorem dX3_beginAnew_2 : decode cX3_beginAnew 2 = .ok (.putfield 22, 3) := by decide +kernel
theorem dX3_beginAnew_5 : decode cX3_beginAnew 5 = .ok (.aload_n 0, 1) := by decide +kernel
theorem dX3_beginAnew_6 : decode cX3_beginAnew 6 = .ok (.iconst 0, 1) := by decide +kernel
theorem dX3_beginAnew_7 : decode cX3_beginAnew 7 = .ok (.putfield 26, 3) := by decide +kernel
theorem dX3_beginAnew_10 : decode cX3_beginAnew 10 = .ok (.aload_n 0, 1) := by decide +kernel
theorem dX3_beginAnew_11 : decode cX3_beginAnew 11 = .ok (.iconst 0, 1) := by decide +kernel
theorem dX3_beginAnew_12 : decode cX3_beginAnew 12 = .ok (.putfield 29, 3) := by decide +kernel
theorem dX3_beginAnew_15 : decode cX3_beginAnew 15 = .ok (.aload_n 0, 1) := by decide +kernel
theorem dX3_beginAnew_16 : decode cX3_beginAnew 16 = .ok (.ldc2_w 32, 3) := by decide +kernel
theorem dX3_beginAnew_19 : decode cX3_beginAnew 19 = .ok (.putfield 34, 3) := by decide +kernel
theorem dX3_beginAnew_22 : decode cX3_beginAnew 22 = .ok (.aload_n 0, 1) := by decide +kernel
theorem dX3_beginAnew_23 : decode cX3_beginAnew 23 = .ok (.iconst 0, 1) := by decide +kernel
theorem dX3_beginAnew_24 : decode cX3_beginAnew 24 = .ok (.putfield 38, 3) := by decide +kernel
theorem dX3_beginAnew_27 : decode cX3_beginAnew 27 = .ok (.return_, 1) := by decide +kernel
set_option maxRecDepth 20000 in
theorem ggX3_take_X3_numberIn : GoodIn wsX3_take wsX3_numberIn := goodIn_r _ [11, 4] (by decide +kernel) (by decide +kernel)
set_option maxRecDepth 20000 in
theorem gX3_take_X3_numberIn : GoodIn wsX3_take (va_wsS RX3 41 yX3_numberIn wsX3_numberIn) := goodIn_app (goodIn_of _ (by decide +kernel)) ggX3_take_X3_numberIn
set_option maxRecDepth 20000 in
theorem ggX3_take_J9_floorMod_7cf53 : GoodIn wsX3_take wsJ9_floorMod_7cf53 := goodIn_r _ [15] (by decide +kernel) (by decide +kernel)
set_option maxRecDepth 20000 in
theorem gX3_take_J9_floorMod_7cf53 : GoodIn wsX3_take (va_wsS RX3 47 yJ9_floorMod_7cf53 wsJ9_floorMod_7cf53) := goodIn_app (goodIn_of _ (by decide +kernel)) ggX3_take_J9_floorMod_7cf53
theorem dX3_take_0 : decode cX3_take 0 = .ok (.iconst 0, 1) := by decide +kernel
theorem dX3_take_1 : decode cX3_take 1 = .ok (.istore 7, 2) := by decide +kernel
theorem dX3_take_3 : decode cX3_take 3 = .ok (.iload 7, 2) := by decide +kernel
theorem dX3_take_5 : decode cX3_take 5 = .ok (.bipush 6, 2) := by decide +kernel
theorem dX3_take_7 : decode cX3_take 7 = .ok (.if_icmp .ge 78, 3) := by decide +kernel
theorem dX3_take_10 : decode cX3_take 10 = .ok (.lload_n 1, 1) := by decide +kernel
theorem dX3_take_11 : decode cX3_take 11 = .ok (.lload_n 3, 1) := by decide +kernel
theorem dX3_take_12 : decode cX3_take 12 = .ok (.iload 7, 2) := by decide +kernel
theorem dX3_take_14 : decode cX3_take 14 = .ok (.invokestatic 41, 3) := by decide +kernel
theorem dX3_take_17 : decode cX3_take 17 = .ok (.istore 8, 2) := by decide +kernel
theorem dX3_take_19 : decode cX3_take 19 = .ok (.aload_n 0, 1) := by decide +kernel
theorem dX3_take_20 : decode cX3_take 20 = .ok (.getfield 26, 3) := by decide +kernel
theorem dX3_take_23 : decode cX3_take 23 = .ok (.ifCond .le 19, 3) := by decide +kernel
theorem dX3_take_26 : decode cX3_take 26 = .ok (.iload 8, 2) := by decide +kernel
theorem dX3_take_28 : decode cX3_take 28 = .ok (.aload_n 0, 1) := by decide +kernel
theorem dX3_take_29 : decode cX3_take 29 = .ok (.getfield 9, 3) := by decide +kernel
theorem dX3_take_32 : decode cX3_take 32 = .ok (.iload 7, 2) := by decide +kernel
theorem dX3_take_34 : decode cX3_take 34 = .ok (.iaload, 1) := by decide +kernel
theorem dX3_take_35 : decode cX3_take 35 = .ok (.if_icmp .ne 7, 3) := by decide +kernel
theorem dX3_take_38 : decode cX3_take 38 = .ok (.iconst 1, 1) := by decide +kernel
theorem dX3_take_39 : decode cX3_take 39 = .ok (.goto 4, 3) := by decide +kernel
theorem dX3_take_42 : decode cX3_take 42 = .ok (.iconst 0, 1) := by decide +kernel
theorem dX3_take_43 : decode cX3_take 43 = .ok (.istore 9, 2) := by decide +kernel
theorem dX3_take_45 : decode cX3_take 45 = .ok (.aload_n 0, 1) := by decide +kernel
theorem dX3_take_46 : decode cX3_take 46 = .ok (.getfield 15, 3) := by decide +kernel
theorem dX3_take_49 : decode cX3_take 49 = .ok (.iload 7, 2) := by decide +kernel
theorem dX3_take_51 : decode cX3_take 51 = .ok (.iload 9, 2) := by decide +kernel
theorem dX3_take_53 : decode cX3_take 53 = .ok (.ifCond .eq 15, 3) := by decide +kernel
theorem dX3_take_56 : decode cX3_take 56 = .ok (.aload_n 0, 1) := by decide +kernel
theorem dX3_take_57 : decode cX3_take 57 = .ok (.getfield 15, 3) := by decide +kernel
theorem dX3_take_60 : decode cX3_take 60 = .ok (.iload 7, 2) := by decide +kernel
theorem dX3_take_62 : decode cX3_take 62 = .ok (.iaload, 1) := by decide +kernel
theorem dX3_take_63 : decode cX3_take 63 = .ok (.iconst 1, 1) := by decide +kernel
theorem dX3_take_64 : decode cX3_take 64 = .ok (.iadd, 1) := by decide +kernel
theorem dX3_take_65 : decode cX3_take 65 = .ok (.goto 4, 3) := by decide +kernel
theorem dX3_take_68 : decode cX3_take 68 = .ok (.iconst 1, 1) := by decide +kernel
theorem dX3_take_69 : decode cX3_take 69 = .ok (.iastore, 1) := by decide +kernel
theorem dX3_take_70 : decode cX3_take 70 = .ok (.aload_n 0, 1) := by decide +kernel
theorem dX3_take_71 : decode cX3_take 71 = .ok (.getfield 9, 3) := by decide +kernel
theorem dX3_take_74 : decode cX3_take 74 = .ok (.iload 7, 2) := by decide +kernel
theorem dX3_take_76 : decode cX3_take 76 = .ok (.iload 8, 2) := by decide +kernel
theorem dX3_take_78 : decode cX3_take 78 = .ok (.iastore, 1) := by decide +kernel
theorem dX3_take_79 : decode cX3_take 79 = .ok (.iinc 7 1, 3) := by decide +kernel
theorem dX3_take_82 : decode cX3_take 82 = .ok (.goto (-79), 3) := by decide +kernel
theorem dX3_take_85 : decode cX3_take 85 = .ok (.aload_n 0, 1) := by decide +kernel
theorem dX3_take_86 : decode cX3_take 86 = .ok (.lload_n 3, 1) := by decide +kernel
theorem dX3_take_87 : decode cX3_take 87 = .ok (.bipush 16, 2) := by decide +kernel
theorem dX3_take_89 : decode cX3_take 89 = .ok (.lushr, 1) := by decide +kernel
theorem dX3_take_90 : decode cX3_take 90 = .ok (.ldc2_w 45, 3) := by decide +kernel
theorem dX3_take_93 : decode cX3_take 93 = .ok (.land, 1) := by decide +kernel
theorem dX3_take_94 : decode cX3_take 94 = .ok (.l2i, 1) := by decide +kernel
theorem dX3_take_95 : decode cX3_take 95 = .ok (.putfield 22, 3) := by decide +kernel
theorem dX3_take_98 : decode cX3_take 98 = .ok (.aload_n 0, 1) := by decide +kernel
theorem dX3_take_99 : decode cX3_take 99 = .ok (.getfield 18, 3) := by decide +kernel
theorem dX3_take_102 : decode cX3_take 102 = .ok (.aload_n 0, 1) := by decide +kernel
theorem dX3_take_103 : decode cX3_take 103 = .ok (.getfield 26, 3) := by decide +kernel
theorem dX3_take_106 : decode cX3_take 106 = .ok (.bipush 8, 2) := by decide +kernel
theorem dX3_take_108 : decode cX3_take 108 = .ok (.invokestatic 47, 3) := by decide +kernel
theorem dX3_take_111 : decode cX3_take 111 = .ok (.dload 5, 2) := by decide +kernel
theorem dX3_take_113 : decode cX3_take 113 = .ok (.dastore, 1) := by decide +kernel
theorem dX3_take_114 : decode cX3_take 114 = .ok (.aload_n 0, 1) := by decide +kernel
theorem dX3_take_115 : decode cX3_take 115 = .ok (.dup, 1) := by decide +kernel
theorem dX3_take_116 : decode cX3_take 116 = .ok (.getfield 26, 3) := by decide +kernel
theorem dX3_take_119 : decode cX3_take 119 = .ok (.iconst 1, 1) := by decide +kernel
theorem dX3_take_120 : decode cX3_take 120 = .ok (.iadd, 1) := by decide +kernel
theorem dX3_take_121 : decode cX3_take 121 = .ok (.putfield 26, 3) := by decide +kernel
theorem dX3_take_124 : decode cX3_take 124 = .ok (.aload_n 0, 1) := by decide +kernel
theorem dX3_take_125 : decode cX3_take 125 = .ok (.iconst 0, 1) := by decide +kernel
theorem dX3_take_126 : decode cX3_take 126 = .ok (.putfield 29, 3) := by decide +kernel
theorem dX3_take_129 : decode cX3_take 129 = .ok (.return_, 1) := by decide +kernel
theorem dX3_numberIn_0 : decode cX3_numberIn 0 = .ok (.iload 4, 2) := by decide +kernel
theorem dX3_numberIn_2 : decode cX3_numberIn 2 = .ok (.iconst 4, 1) := by decide +kernel
theorem dX3_numberIn_3 : decode cX3_numberIn 3 = .ok (.if_icmp .ge 16, 3) := by decide +kernel
theorem dX3_numberIn_6 : decode cX3_numberIn 6 = .ok (.lload_n 0, 1) := by decide +kernel
theorem dX3_numberIn_7 : decode cX3_numberIn 7 = .ok (.bipush 48, 2) := by decide +kernel
theorem dX3_numberIn_9 : decode cX3_numberIn 9 = .ok (.bipush 16, 2) := by decide +kernel
theorem dX3_numberIn_11 : decode cX3_numberIn 11 = .ok (.iload 4, 2) := by decide +kernel
theorem dX3_numberIn_13 : decode cX3_numberIn 13 = .ok (.imul, 1) := by decide +kernel
theorem dX3_numberIn_14 : decode cX3_numberIn 14 = .ok (.isub, 1) := by decide +kernel
theorem dX3_numberIn_15 : decode cX3_numberIn 15 = .ok (.lushr, 1) := by decide +kernel
theorem dX3_numberIn_16 : decode cX3_numberIn 16 = .ok (.goto 13, 3) := by decide +kernel
theorem dX3_numberIn_19 : decode cX3_numberIn 19 = .ok (.lload_n 2, 1) := by decide +kernel
theorem dX3_numberIn_20 : decode cX3_numberIn 20 = .ok (.bipush 112, 2) := by decide +kernel
theorem dX3_numberIn_22 : decode cX3_numberIn 22 = .ok (.bipush 16, 2) := by decide +kernel
theorem dX3_numberIn_24 : decode cX3_numberIn 24 = .ok (.iload 4, 2) := by decide +kernel
theorem dX3_numberIn_26 : decode cX3_numberIn 26 = .ok (.imul, 1) := by decide +kernel
theorem dX3_numberIn_27 : decode cX3_numberIn 27 = .ok (.isub, 1) := by decide +kernel
theorem dX3_numberIn_28 : decode cX3_numberIn 28 = .ok (.lushr, 1) := by decide +kernel
theorem dX3_numberIn_29 : decode cX3_numberIn 29 = .ok (.lstore 5, 2) := by decide +kernel
theorem dX3_numberIn_31 : decode cX3_numberIn 31 = .ok (.lload 5, 2) := by decide +kernel
theorem dX3_numberIn_33 : decode cX3_numberIn 33 = .ok (.ldc2_w 45, 3) := by decide +kernel
theorem dX3_numberIn_36 : decode cX3_numberIn 36 = .ok (.land, 1) := by decide +kernel
theorem dX3_numberIn_37 : decode cX3_numberIn 37 = .ok (.l2i, 1) := by decide +kernel
theorem dX3_numberIn_38 : decode cX3_numberIn 38 = .ok (.ireturn, 1) := by decide +kernel
theorem dX3_isStale_0 : decode cX3_isStale 0 = .ok (.aload_n 0, 1) := by decide +kernel
theorem dX3_isStale_1 : decode cX3_isStale 1 = .ok (.getfield 26, 3) := by decide +kernel
theorem dX3_isStale_4 : decode cX3_isStale 4 = .ok (.ifCond .eq 12, 3) := by decide +kernel
theorem dX3_isStale_7 : decode cX3_isStale 7 = .ok (.aload_n 0, 1) := by decide +kernel
theorem dX3_isStale_8 : decode cX3_isStale 8 = .ok (.getfield 29, 3) := by decide +kernel
theorem dX3_isStale_11 : decode cX3_isStale 11 = .ok (.bipush 10, 2) := by decide +kernel
theorem dX3_isStale_13 : decode cX3_isStale 13 = .ok (.if_icmp .le 7, 3) := by decide +kernel
theorem dX3_isStale_16 : decode cX3_isStale 16 = .ok (.iconst 1, 1) := by decide +kernel
theorem dX3_isStale_17 : decode cX3_isStale 17 = .ok (.goto 4, 3) := by decide +kernel
theorem dX3_isStale_20 : decode cX3_isStale 20 = .ok (.iconst 0, 1) := by decide +kernel
theorem dX3_isStale_21 : decode cX3_isStale 21 = .ok (.ireturn, 1) := by decide +kernel
set_option maxRecDepth 20000 in
theorem ggX3_isValid_X3_isStale : GoodIn wsX3_isValid wsX3_isStale := goodIn_r _ [7, 8, 9, 21, 22, 23, 24, 25, 26, 27, 28] (by decide +kernel) (by decide +kernel)
set_option maxRecDepth 20000 in
theorem gX3_isValid_X3_isStale : GoodIn wsX3_isValid (wsV RX3 53 RX3 yX3_isStale wsX3_isStale) := goodIn_app (goodIn_of _ (by decide +kernel)) ggX3_isValid_X3_isStale
set_option maxRecDepth 20000 in
theorem ggX3_isValid_X3_isStuck : GoodIn wsX3_isValid wsX3_isStuck := goodIn_r _ [13, 14, 15, 16, 17, 6, 18, 19, 20, 21, 22, 23, 24, 25, 26, 27, 28] (by decide +kernel) (by decide +kernel)
set_option maxRecDepth 20000 in
theorem gX3_isValid_X3_isStuck : GoodIn wsX3_isValid (wsV RX3 57 RX3 yX3_isStuck wsX3_isStuck) := goodIn_app (goodIn_of _ (by decide +kernel)) ggX3_isValid_X3_isStuck
theorem dX3_isValid_0 : decode cX3_isValid 0 = .ok (.aload_n 0, 1) := by decide +kernel
theorem dX3_isValid_1 : decode cX3_isValid 1 = .ok (.invokevirtual 53, 3) := by decide +kernel
theorem dX3_isValid_4 : decode cX3_isValid 4 = .ok (.ifCond .ne 27, 3) := by decide +kernel
theorem dX3_isValid_7 : decode cX3_isValid 7 = .ok (.aload_n 0, 1) := by decide +kernel
theorem dX3_isValid_8 : decode cX3_isValid 8 = .ok (.getfield 9, 3) := by decide +kernel
theorem dX3_isValid_11 : decode cX3_isValid 11 = .ok (.iload_n 1, 1) := by decide +kernel
theorem dX3_isValid_12 : decode cX3_isValid 12 = .ok (.iaload, 1) := by decide +kernel
theorem dX3_isValid_13 : decode cX3_isValid 13 = .ok (.sipush 500, 3) := by decide +kernel
theorem dX3_isValid_16 : decode cX3_isValid 16 = .ok (.if_icmp .lt 15, 3) := by decide +kernel
theorem dX3_isValid_19 : decode cX3_isValid 19 = .ok (.aload_n 0, 1) := by decide +kernel
theorem dX3_isValid_20 : decode cX3_isValid 20 = .ok (.getfield 9, 3) := by decide +kernel
theorem dX3_isValid_23 : decode cX3_isValid 23 = .ok (.iload_n 1, 1) := by decide +kernel
theorem dX3_isValid_24 : decode cX3_isValid 24 = .ok (.iaload, 1) := by decide +kernel
theorem dX3_isValid_25 : decode cX3_isValid 25 = .ok (.sipush 4999, 3) := by decide +kernel
theorem dX3_isValid_28 : decode cX3_isValid 28 = .ok (.if_icmp .le 5, 3) := by decide +kernel
theorem dX3_isValid_31 : decode cX3_isValid 31 = .ok (.iconst 0, 1) := by decide +kernel
theorem dX3_isValid_32 : decode cX3_isValid 32 = .ok (.ireturn, 1) := by decide +kernel
theorem dX3_isValid_33 : decode cX3_isValid 33 = .ok (.aload_n 0, 1) := by decide +kernel
theorem dX3_isValid_34 : decode cX3_isValid 34 = .ok (.getfield 22, 3) := by decide +kernel
theorem dX3_isValid_37 : decode cX3_isValid 37 = .ok (.iload_n 1, 1) := by decide +kernel
theorem dX3_isValid_38 : decode cX3_isValid 38 = .ok (.iushr, 1) := by decide +kernel
theorem dX3_isValid_39 : decode cX3_isValid 39 = .ok (.iconst 1, 1) := by decide +kernel
theorem dX3_isValid_40 : decode cX3_isValid 40 = .ok (.iand, 1) := by decide +kernel
theorem dX3_isValid_41 : decode cX3_isValid 41 = .ok (.ifCond .ne 15, 3) := by decide +kernel
theorem dX3_isValid_44 : decode cX3_isValid 44 = .ok (.aload_n 0, 1) := by decide +kernel
theorem dX3_isValid_45 : decode cX3_isValid 45 = .ok (.iload_n 1, 1) := by decide +kernel
theorem dX3_isValid_46 : decode cX3_isValid 46 = .ok (.invokevirtual 57, 3) := by decide +kernel
theorem dX3_isValid_49 : decode cX3_isValid 49 = .ok (.ifCond .ne 7, 3) := by decide +kernel
theorem dX3_isValid_52 : decode cX3_isValid 52 = .ok (.iconst 1, 1) := by decide +kernel
theorem dX3_isValid_53 : decode cX3_isValid 53 = .ok (.goto 4, 3) := by decide +kernel
theorem dX3_isValid_56 : decode cX3_isValid 56 = .ok (.iconst 0, 1) := by decide +kernel
theorem dX3_isValid_57 : decode cX3_isValid 57 = .ok (.ireturn, 1) := by decide +kernel
set_option maxRecDepth 20000 in
theorem ggX3_isStuck_X3_currentsSwing : GoodIn wsX3_isStuck wsX3_currentsSwing := goodIn_r _ [6, 7, 8, 9, 10, 11, 12, 13, 14, 15, 16] (by decide +kernel) (by decide +kernel)
set_option maxRecDepth 20000 in
theorem gX3_isStuck_X3_currentsSwing : GoodIn wsX3_isStuck (wsV RX3 61 RX3 yX3_currentsSwing wsX3_currentsSwing) := goodIn_app (goodIn_of _ (by decide +kernel)) ggX3_isStuck_X3_currentsSwing
theorem dX3_isStuck_0 : decode cX3_isStuck 0 = .ok (.aload_n 0, 1) := by decide +kernel
theorem dX3_isStuck_1 : decode cX3_isStuck 1 = .ok (.getfield 15, 3) := by decide +kernel
theorem dX3_isStuck_4 : decode cX3_isStuck 4 = .ok (.iload_n 1, 1) := by decide +kernel
theorem dX3_isStuck_5 : decode cX3_isStuck 5 = .ok (.iaload, 1) := by decide +kernel
theorem dX3_isStuck_6 : decode cX3_isStuck 6 = .ok (.bipush 8, 2) := by decide +kernel
theorem dX3_isStuck_8 : decode cX3_isStuck 8 = .ok (.if_icmp .lt 14, 3) := by decide +kernel
theorem dX3_isStuck_11 : decode cX3_isStuck 11 = .ok (.aload_n 0, 1) := by decide +kernel
theorem dX3_isStuck_12 : decode cX3_isStuck 12 = .ok (.invokevirtual 61, 3) := by decide +kernel
theorem dX3_isStuck_15 : decode cX3_isStuck 15 = .ok (.ifCond .eq 7, 3) := by decide +kernel
theorem dX3_isStuck_18 : decode cX3_isStuck 18 = .ok (.iconst 1, 1) := by decide +kernel
theorem dX3_isStuck_19 : decode cX3_isStuck 19 = .ok (.goto 4, 3) := by decide +kernel
theorem dX3_isStuck_22 : decode cX3_isStuck 22 = .ok (.iconst 0, 1) := by decide +kernel
theorem dX3_isStuck_23 : decode cX3_isStuck 23 = .ok (.ireturn, 1) := by decide +kernel
theorem dX3_currentsSwing_0 : decode cX3_currentsSwing 0 = .ok (.aload_n 0, 1) := by decide +kernel
theorem dX3_currentsSwing_1 : decode cX3_currentsSwing 1 = .ok (.getfield 18, 3) := by decide +kernel
theorem dX3_currentsSwing_4 : decode cX3_currentsSwing 4 = .ok (.iconst 0, 1) := by decide +kernel
theorem dX3_currentsSwing_5 : decode cX3_currentsSwing 5 = .ok (.daload, 1) := by decide +kernel
theorem dX3_currentsSwing_6 : decode cX3_currentsSwing 6 = .ok (.dstore_n 1, 1) := by decide +kernel
theorem dX3_currentsSwing_7 : decode cX3_currentsSwing 7 = .ok (.aload_n 0, 1) := by decide +kernel
theorem dX3_currentsSwing_8 : decode cX3_currentsSwing 8 = .ok (.getfield 18, 3) := by decide +kernel
theorem dX3_currentsSwing_11 : decode cX3_currentsSwing 11 = .ok (.iconst 0, 1) := by decide +kernel
theorem dX3_currentsSwing_12 : decode cX3_currentsSwing 12 = .ok (.daload, 1) := by decide +kernel
theorem dX3_currentsSwing_13 : decode cX3_currentsSwing 13 = .ok (.dstore_n 3, 1) := by decide +kernel
theorem dX3_currentsSwing_14 : decode cX3_currentsSwing 14 = .ok (.aload_n 0, 1) := by decide +kernel
theorem dX3_currentsSwing_15 : decode cX3_currentsSwing 15 = .ok (.getfield 18, 3) := by decide +kernel
theorem dX3_currentsSwing_18 : decode cX3_currentsSwing 18 = .ok (.astore 5, 2) := by decide +kernel
theorem dX3_currentsSwing_20 : decode cX3_currentsSwing 20 = .ok (.aload 5, 2) := by decide +kernel
theorem dX3_currentsSwing_22 : decode cX3_currentsSwing 22 = .ok (.arraylength, 1) := by decide +kernel
theorem dX3_currentsSwing_23 : decode cX3_currentsSwing 23 = .ok (.istore 6, 2) := by decide +kernel
theorem dX3_currentsSwing_25 : decode cX3_currentsSwing 25 = .ok (.iconst 0, 1) := by decide +kernel
theorem dX3_currentsSwing_26 : decode cX3_currentsSwing 26 = .ok (.istore 7, 2) := by decide +kernel
theorem dX3_currentsSwing_28 : decode cX3_currentsSwing 28 = .ok (.iload 7, 2) := by decide +kernel
theorem dX3_currentsSwing_30 : decode cX3_currentsSwing 30 = .ok (.iload 6, 2) := by decide +kernel
theorem dX3_currentsSwing_32 : decode cX3_currentsSwing 32 = .ok (.if_icmp .ge 44, 3) := by decide +kernel
theorem dX3_currentsSwing_35 : decode cX3_currentsSwing 35 = .ok (.aload 5, 2) := by decide +kernel
theorem dX3_currentsSwing_37 : decode cX3_currentsSwing 37 = .ok (.iload 7, 2) := by decide +kernel
theorem dX3_currentsSwing_39 : decode cX3_currentsSwing 39 = .ok (.daload, 1) := by decide +kernel
theorem dX3_currentsSwing_40 : decode cX3_currentsSwing 40 = .ok (.dstore 8, 2) := by decide +kernel
theorem dX3_currentsSwing_42 : decode cX3_currentsSwing 42 = .ok (.dload 8, 2) := by decide +kernel
theorem dX3_currentsSwing_44 : decode cX3_currentsSwing 44 = .ok (.dload_n 1, 1) := by decide +kernel
theorem dX3_currentsSwing_45 : decode cX3_currentsSwing 45 = .ok (.dcmp .g, 1) := by decide +kernel
theorem dX3_currentsSwing_46 : decode cX3_currentsSwing 46 = .ok (.ifCond .ge 8, 3) := by decide +kernel
theorem dX3_currentsSwing_49 : decode cX3_currentsSwing 49 = .ok (.dload 8, 2) := by decide +kernel
theorem dX3_currentsSwing_51 : decode cX3_currentsSwing 51 = .ok (.goto 4, 3) := by decide +kernel
theorem dX3_currentsSwing_54 : decode cX3_currentsSwing 54 = .ok (.dload_n 1, 1) := by decide +kernel
theorem dX3_currentsSwing_55 : decode cX3_currentsSwing 55 = .ok (.dstore_n 1, 1) := by decide +kernel
theorem dX3_currentsSwing_56 : decode cX3_currentsSwing 56 = .ok (.dload 8, 2) := by decide +kernel
theorem dX3_currentsSwing_58 : decode cX3_currentsSwing 58 = .ok (.dload_n 3, 1) := by decide +kernel
theorem dX3_currentsSwing_59 : decode cX3_currentsSwing 59 = .ok (.dcmp .l, 1) := by decide +kernel
theorem dX3_currentsSwing_60 : decode cX3_currentsSwing 60 = .ok (.ifCond .le 8, 3) := by decide +kernel
theorem dX3_currentsSwing_63 : decode cX3_currentsSwing 63 = .ok (.dload 8, 2) := by decide +kernel
theorem dX3_currentsSwing_65 : decode cX3_currentsSwing 65 = .ok (.goto 4, 3) := by decide +kernel
theorem dX3_currentsSwing_68 : decode cX3_currentsSwing 68 = .ok (.dload_n 3, 1) := by decide +kernel
theorem dX3_currentsSwing_69 : decode cX3_currentsSwing 69 = .ok (.dstore_n 3, 1) := by decide +kernel
theorem dX3_currentsSwing_70 : decode cX3_currentsSwing 70 = .ok (.iinc 7 1, 3) := by decide +kernel
theorem dX3_currentsSwing_73 : decode cX3_currentsSwing 73 = .ok (.goto (-45), 3) := by decide +kernel
theorem dX3_currentsSwing_76 : decode cX3_currentsSwing 76 = .ok (.dload_n 3, 1) := by decide +kernel
theorem dX3_currentsSwing_77 : decode cX3_currentsSwing 77 = .ok (.dload_n 1, 1) := by decide +kernel
theorem dX3_currentsSwing_78 : decode cX3_currentsSwing 78 = .ok (.dsub, 1) := by decide +kernel
theorem dX3_currentsSwing_79 : decode cX3_currentsSwing 79 = .ok (.ldc2_w 64, 3) := by decide +kernel
theorem dX3_currentsSwing_82 : decode cX3_currentsSwing 82 = .ok (.dcmp .l, 1) := by decide +kernel
theorem dX3_currentsSwing_83 : decode cX3_currentsSwing 83 = .ok (.ifCond .le 7, 3) := by decide +kernel
theorem dX3_currentsSwing_86 : decode cX3_currentsSwing 86 = .ok (.iconst 1, 1) := by decide +kernel
theorem dX3_currentsSwing_87 : decode cX3_currentsSwing 87 = .ok (.goto 4, 3) := by decide +kernel
theorem dX3_currentsSwing_90 : decode cX3_currentsSwing 90 = .ok (.iconst 0, 1) := by decide +kernel
theorem dX3_currentsSwing_91 : decode cX3_currentsSwing 91 = .ok (.ireturn, 1) := by decide +kernel
set_option maxRecDepth 20000 in
theorem ggX3_cellsToBleed_X3_isValid : GoodIn wsX3_cellsToBleed wsX3_isValid := goodIn_r _ [6, 1, 7, 8, 9, 10, 5, 11, 12, 13, 14, 15, 16, 17, 18, 19, 20, 21, 22, 23, 24, 25, 26, 27, 28, 29, 30, 31, 32] (by decide +kernel) (by decide +kernel)
set_option maxRecDepth 20000 in
theorem gX3_cellsToBleed_X3_isValid : GoodIn wsX3_cellsToBleed (wsV RX3 66 RX3 yX3_isValid wsX3_isValid) := goodIn_app (goodIn_of _ (by decide +kernel)) ggX3_cellsToBleed_X3_isValid
theorem dX3_cellsToBleed_0 : decode cX3_cellsToBleed 0 = .ok (.iconst 0, 1) := by decide +kernel
theorem dX3_cellsToBleed_1 : decode cX3_cellsToBleed 1 = .ok (.istore_n 3, 1) := by decide +kernel
theorem dX3_cellsToBleed_2 : decode cX3_cellsToBleed 2 = .ok (.iconst 0, 1) := by decide +kernel
theorem dX3_cellsToBleed_3 : decode cX3_cellsToBleed 3 = .ok (.istore 4, 2) := by decide +kernel
theorem dX3_cellsToBleed_5 : decode cX3_cellsToBleed 5 = .ok (.iload 4, 2) := by decide +kernel
theorem dX3_cellsToBleed_7 : decode cX3_cellsToBleed 7 = .ok (.bipush 6, 2) := by decide +kernel
theorem dX3_cellsToBleed_9 : decode cX3_cellsToBleed 9 = .ok (.if_icmp .ge 72, 3) := by decide +kernel
theorem dX3_cellsToBleed_12 : decode cX3_cellsToBleed 12 = .ok (.aload_n 0, 1) := by decide +kernel
theorem dX3_cellsToBleed_13 : decode cX3_cellsToBleed 13 = .ok (.getfield 9, 3) := by decide +kernel
theorem dX3_cellsToBleed_16 : decode cX3_cellsToBleed 16 = .ok (.iload 4, 2) := by decide +kernel
theorem dX3_cellsToBleed_18 : decode cX3_cellsToBleed 18 = .ok (.iaload, 1) := by decide +kernel
theorem dX3_cellsToBleed_19 : decode cX3_cellsToBleed 19 = .ok (.istore 5, 2) := by decide +kernel
theorem dX3_cellsToBleed_21 : decode cX3_cellsToBleed 21 = .ok (.iload 4, 2) := by decide +kernel
theorem dX3_cellsToBleed_23 : decode cX3_cellsToBleed 23 = .ok (.iload_n 2, 1) := by decide +kernel
theorem dX3_cellsToBleed_24 : decode cX3_cellsToBleed 24 = .ok (.iadd, 1) := by decide +kernel
theorem dX3_cellsToBleed_25 : decode cX3_cellsToBleed 25 = .ok (.iconst 1, 1) := by decide +kernel
theorem dX3_cellsToBleed_26 : decode cX3_cellsToBleed 26 = .ok (.iand, 1) := by decide +kernel
theorem dX3_cellsToBleed_27 : decode cX3_cellsToBleed 27 = .ok (.ifCond .ne 7, 3) := by decide +kernel
theorem dX3_cellsToBleed_30 : decode cX3_cellsToBleed 30 = .ok (.iconst 1, 1) := by decide +kernel
theorem dX3_cellsToBleed_31 : decode cX3_cellsToBleed 31 = .ok (.goto 4, 3) := by decide +kernel
theorem dX3_cellsToBleed_34 : decode cX3_cellsToBleed 34 = .ok (.iconst 0, 1) := by decide +kernel
theorem dX3_cellsToBleed_35 : decode cX3_cellsToBleed 35 = .ok (.istore 6, 2) := by decide +kernel
theorem dX3_cellsToBleed_37 : decode cX3_cellsToBleed 37 = .ok (.iload 6, 2) := by decide +kernel
theorem dX3_cellsToBleed_39 : decode cX3_cellsToBleed 39 = .ok (.ifCond .eq 36, 3) := by decide +kernel
theorem dX3_cellsToBleed_42 : decode cX3_cellsToBleed 42 = .ok (.aload_n 0, 1) := by decide +kernel
theorem dX3_cellsToBleed_43 : decode cX3_cellsToBleed 43 = .ok (.iload 4, 2) := by decide +kernel
theorem dX3_cellsToBleed_45 : decode cX3_cellsToBleed 45 = .ok (.invokevirtual 66, 3) := by decide +kernel
theorem dX3_cellsToBleed_48 : decode cX3_cellsToBleed 48 = .ok (.ifCond .eq 27, 3) := by decide +kernel
theorem dX3_cellsToBleed_51 : decode cX3_cellsToBleed 51 = .ok (.iload 5, 2) := by decide +kernel
theorem dX3_cellsToBleed_53 : decode cX3_cellsToBleed 53 = .ok (.sipush 3300, 3) := by decide +kernel
theorem dX3_cellsToBleed_56 : decode cX3_cellsToBleed 56 = .ok (.if_icmp .le 19, 3) := by decide +kernel
theorem dX3_cellsToBleed_59 : decode cX3_cellsToBleed 59 = .ok (.iload 5, 2) := by decide +kernel
theorem dX3_cellsToBleed_61 : decode cX3_cellsToBleed 61 = .ok (.iload_n 1, 1) := by decide +kernel
theorem dX3_cellsToBleed_62 : decode cX3_cellsToBleed 62 = .ok (.isub, 1) := by decide +kernel
theorem dX3_cellsToBleed_63 : decode cX3_cellsToBleed 63 = .ok (.bipush 8, 2) := by decide +kernel
theorem dX3_cellsToBleed_65 : decode cX3_cellsToBleed 65 = .ok (.if_icmp .le 10, 3) := by decide +kernel
theorem dX3_cellsToBleed_68 : decode cX3_cellsToBleed 68 = .ok (.iload_n 3, 1) := by decide +kernel
theorem dX3_cellsToBleed_69 : decode cX3_cellsToBleed 69 = .ok (.iconst 1, 1) := by decide +kernel
theorem dX3_cellsToBleed_70 : decode cX3_cellsToBleed 70 = .ok (.iload 4, 2) := by decide +kernel
theorem dX3_cellsToBleed_72 : decode cX3_cellsToBleed 72 = .ok (.ishl, 1) := by decide +kernel
theorem dX3_cellsToBleed_73 : decode cX3_cellsToBleed 73 = .ok (.ior, 1) := by decide +kernel
theorem dX3_cellsToBleed_74 : decode cX3_cellsToBleed 74 = .ok (.istore_n 3, 1) := by decide +kernel
theorem dX3_cellsToBleed_75 : decode cX3_cellsToBleed 75 = .ok (.iinc 4 1, 3) := by decide +kernel
theorem dX3_cellsToBleed_78 : decode cX3_cellsToBleed 78 = .ok (.goto (-73), 3) := by decide +kernel
theorem dX3_cellsToBleed_81 : decode cX3_cellsToBleed 81 = .ok (.iload_n 3, 1) := by decide +kernel
theorem dX3_cellsToBleed_82 : decode cX3_cellsToBleed 82 = .ok (.ireturn, 1) := by decide +kernel
theorem dX4_init_0 : decode cX4_init 0 = .ok (.aload_n 0, 1) := by decide +kernel
theorem dX4_init_1 : decode cX4_init 1 = .ok (.invokespecial 1, 3) := by decide +kernel
theorem dX4_init_4 : decode cX4_init 4 = .ok (.return_, 1) := by decide +kernel
theorem dX4_beginAnew_0 : decode cX4_beginAnew 0 = .ok (.aload_n 0, 1) := by decide +kernel
theorem dX4_beginAnew_1 : decode cX4_beginAnew 1 = .ok (.iconst 0, 1) := by decide +kernel
theorem dX4_beginAnew_2 : decode cX4_beginAnew 2 = .ok (.putfield 9, 3) := by decide +kernel
theorem dX4_beginAnew_5 : decode cX4_beginAnew 5 = .ok (.aload_n 0, 1) := by decide +kernel
theorem dX4_beginAnew_6 : decode cX4_beginAnew 6 = .ok (.iconst 0, 1) := by decide +kernel
theorem dX4_beginAnew_7 : decode cX4_beginAnew 7 = .ok (.putfield 13, 3) := by decide +kernel
theorem dX4_beginAnew_10 : decode cX4_beginAnew 10 = .ok (.return_, 1) := by decide +kernel
set_option maxRecDepth 20000 in
theorem ggX4_step_X0_anySerious : GoodIn wsX4_step wsX0_anySerious := goodIn_r _ [7, 8, 37, 38, 39, 40] (by decide +kernel) (by decide +kernel)
set_option maxRecDepth 20000 in
theorem gX4_step_X0_anySerious : GoodIn wsX4_step (wsV RX4 16 RX0 yX0_anySerious wsX0_anySerious) := goodIn_app (goodIn_of _ (by decide +kernel)) ggX4_step_X0_anySerious
set_option maxRecDepth 20000 in
theorem ggX4_step_X4_opened : GoodIn wsX4_step wsX4_opened := goodIn_r _ [13, 1, 14, 15, 16, 17, 6, 18, 8, 19, 20, 21, 22, 23, 35, 36, 41, 42, 43, 44, 45, 46, 47, 37, 38, 39, 40] (by decide +kernel) (by decide +kernel)
set_option maxRecDepth 20000 in
theorem gX4_step_X4_opened : GoodIn wsX4_step (wsV RX4 22 RX4 yX4_opened wsX4_opened) := goodIn_app (goodIn_of _ (by decide +kernel)) ggX4_step_X4_opened
set_option maxRecDepth 20000 in
theorem ggX4_step_X4_precharged : GoodIn wsX4_step wsX4_precharged := goodIn_r _ [27, 14, 1, 28, 29, 30, 31, 32, 33, 34, 15, 16, 17, 6, 18, 8, 19, 20, 21, 22, 23, 41, 42, 43, 44, 45, 46, 47, 35, 36, 37, 38, 39, 40] (by decide +kernel) (by decide +kernel)
set_option maxRecDepth 20000 in
theorem gX4_step_X4_precharged : GoodIn wsX4_step (wsV RX4 26 RX4 yX4_precharged wsX4_precharged) := goodIn_app (goodIn_of _ (by decide +kernel)) ggX4_step_X4_precharged
theorem dX4_step_0 : decode cX4_step 0 = .ok (.aload_n 0, 1) := by decide +kernel
theorem dX4_step_1 : decode cX4_step 1 = .ok (.dup, 1) := by decide +kernel
theorem dX4_step_2 : decode cX4_step 2 = .ok (.getfield 13, 3) := by decide +kernel
theorem dX4_step_5 : decode cX4_step 5 = .ok (.iconst 1, 1) := by decide +kernel
theorem dX4_step_6 : decode cX4_step 6 = .ok (.iadd, 1) := by decide +kernel
theorem dX4_step_7 : decode cX4_step 7 = .ok (.putfield 13, 3) := by decide +kernel
theorem dX4_step_10 : decode cX4_step 10 = .ok (.iload_n 1, 1) := by decide +kernel
theorem dX4_step_11 : decode cX4_step 11 = .ok (.ifCond .eq 15, 3) := by decide +kernel
theorem dX4_step_14 : decode cX4_step 14 = .ok (.aload 4, 2) := by decide +kernel
theorem dX4_step_16 : decode cX4_step 16 = .ok (.invokevirtual 16, 3) := by decide +kernel
theorem dX4_step_19 : decode cX4_step 19 = .ok (.ifCond .ne 7, 3) := by decide +kernel
theorem dX4_step_22 : decode cX4_step 22 = .ok (.iconst 1, 1) := by decide +kernel
theorem dX4_step_23 : decode cX4_step 23 = .ok (.goto 4, 3) := by decide +kernel
theorem dX4_step_26 : decode cX4_step 26 = .ok (.iconst 0, 1) := by decide +kernel
theorem dX4_step_27 : decode cX4_step 27 = .ok (.istore 5, 2) := by decide +kernel
theorem dX4_step_29 : decode cX4_step 29 = .ok (.aload_n 0, 1) := by decide +kernel
theorem dX4_step_30 : decode cX4_step 30 = .ok (.getfield 9, 3) := by decide +kernel
theorem dX4_step_33 : decode cX4_step 33 = .ok (.istore 6, 2) := by decide +kernel
theorem dX4_step_35 : decode cX4_step 35 = .ok (.aload_n 0, 1) := by decide +kernel
theorem dX4_step_36 : decode cX4_step 36 = .ok (.getfield 9, 3) := by decide +kernel
theorem dX4_step_39 : decode cX4_step 39 = .ok (.ifCond .ne 18, 3) := by decide +kernel
theorem dX4_step_42 : decode cX4_step 42 = .ok (.iload 5, 2) := by decide +kernel
theorem dX4_step_44 : decode cX4_step 44 = .ok (.ifCond .eq 7, 3) := by decide +kernel
theorem dX4_step_47 : decode cX4_step 47 = .ok (.iconst 1, 1) := by decide +kernel
theorem dX4_step_48 : decode cX4_step 48 = .ok (.goto 4, 3) := by decide +kernel
theorem dX4_step_51 : decode cX4_step 51 = .ok (.iconst 0, 1) := by decide +kernel
theorem dX4_step_52 : decode cX4_step 52 = .ok (.istore 6, 2) := by decide +kernel
theorem dX4_step_54 : decode cX4_step 54 = .ok (.goto 79, 3) := by decide +kernel
theorem dX4_step_57 : decode cX4_step 57 = .ok (.aload_n 0, 1) := by decide +kernel
theorem dX4_step_58 : decode cX4_step 58 = .ok (.getfield 9, 3) := by decide +kernel
theorem dX4_step_61 : decode cX4_step 61 = .ok (.iconst 4, 1) := by decide +kernel
theorem dX4_step_62 : decode cX4_step 62 = .ok (.if_icmp .ne 16, 3) := by decide +kernel
theorem dX4_step_65 : decode cX4_step 65 = .ok (.aload_n 0, 1) := by decide +kernel
theorem dX4_step_66 : decode cX4_step 66 = .ok (.iload_n 2, 1) := by decide +kernel
theorem dX4_step_67 : decode cX4_step 67 = .ok (.aload_n 3, 1) := by decide +kernel
theorem dX4_step_68 : decode cX4_step 68 = .ok (.aload 4, 2) := by decide +kernel
theorem dX4_step_70 : decode cX4_step 70 = .ok (.invokevirtual 22, 3) := by decide +kernel
theorem dX4_step_73 : decode cX4_step 73 = .ok (.istore 6, 2) := by decide +kernel
theorem dX4_step_75 : decode cX4_step 75 = .ok (.goto 58, 3) := by decide +kernel
theorem dX4_step_78 : decode cX4_step 78 = .ok (.iload 5, 2) := by decide +kernel
theorem dX4_step_80 : decode cX4_step 80 = .ok (.ifCond .ne 9, 3) := by decide +kernel
theorem dX4_step_83 : decode cX4_step 83 = .ok (.iconst 4, 1) := by decide +kernel
theorem dX4_step_84 : decode cX4_step 84 = .ok (.istore 6, 2) := by decide +kernel
theorem dX4_step_86 : decode cX4_step 86 = .ok (.goto 47, 3) := by decide +kernel
theorem dX4_step_89 : decode cX4_step 89 = .ok (.aload_n 0, 1) := by decide +kernel
theorem dX4_step_90 : decode cX4_step 90 = .ok (.getfield 9, 3) := by decide +kernel
theorem dX4_step_93 : decode cX4_step 93 = .ok (.iconst 1, 1) := by decide +kernel
theorem dX4_step_94 : decode cX4_step 94 = .ok (.if_icmp .ne 21, 3) := by decide +kernel
theorem dX4_step_97 : decode cX4_step 97 = .ok (.aload_n 0, 1) := by decide +kernel
theorem dX4_step_98 : decode cX4_step 98 = .ok (.getfield 13, 3) := by decide +kernel
theorem dX4_step_101 : decode cX4_step 101 = .ok (.iconst 2, 1) := by decide +kernel
theorem dX4_step_102 : decode cX4_step 102 = .ok (.if_icmp .lt 7, 3) := by decide +kernel
theorem dX4_step_105 : decode cX4_step 105 = .ok (.iconst 2, 1) := by decide +kernel
theorem dX4_step_106 : decode cX4_step 106 = .ok (.goto 4, 3) := by decide +kernel
theorem dX4_step_109 : decode cX4_step 109 = .ok (.iconst 1, 1) := by decide +kernel
theorem dX4_step_110 : decode cX4_step 110 = .ok (.istore 6, 2) := by decide +kernel
theorem dX4_step_112 : decode cX4_step 112 = .ok (.goto 21, 3) := by decide +kernel
theorem dX4_step_115 : decode cX4_step 115 = .ok (.aload_n 0, 1) := by decide +kernel
theorem dX4_step_116 : decode cX4_step 116 = .ok (.getfield 9, 3) := by decide +kernel
theorem dX4_step_119 : decode cX4_step 119 = .ok (.iconst 2, 1) := by decide +kernel
theorem dX4_step_120 : decode cX4_step 120 = .ok (.if_icmp .ne 13, 3) := by decide +kernel
theorem dX4_step_123 : decode cX4_step 123 = .ok (.aload_n 0, 1) := by decide +kernel
theorem dX4_step_124 : decode cX4_step 124 = .ok (.iload_n 2, 1) := by decide +kernel
theorem dX4_step_125 : decode cX4_step 125 = .ok (.aload_n 3, 1) := by decide +kernel
theorem dX4_step_126 : decode cX4_step 126 = .ok (.aload 4, 2) := by decide +kernel
theorem dX4_step_128 : decode cX4_step 128 = .ok (.invokevirtual 26, 3) := by decide +kernel
theorem dX4_step_131 : decode cX4_step 131 = .ok (.istore 6, 2) := by decide +kernel
theorem dX4_step_133 : decode cX4_step 133 = .ok (.iload 6, 2) := by decide +kernel
theorem dX4_step_135 : decode cX4_step 135 = .ok (.aload_n 0, 1) := by decide +kernel
theorem dX4_step_136 : decode cX4_step 136 = .ok (.getfield 9, 3) := by decide +kernel
theorem dX4_step_139 : decode cX4_step 139 = .ok (.if_icmp .eq 14, 3) := by decide +kernel
theorem dX4_step_142 : decode cX4_step 142 = .ok (.aload_n 0, 1) := by decide +kernel
theorem dX4_step_143 : decode cX4_step 143 = .ok (.iload 6, 2) := by decide +kernel
theorem dX4_step_145 : decode cX4_step 145 = .ok (.putfield 9, 3) := by decide +kernel
theorem dX4_step_148 : decode cX4_step 148 = .ok (.aload_n 0, 1) := by decide +kernel
theorem dX4_step_149 : decode cX4_step 149 = .ok (.iconst 0, 1) := by decide +kernel
theorem dX4_step_150 : decode cX4_step 150 = .ok (.putfield 13, 3) := by decide +kernel
theorem dX4_step_153 : decode cX4_step 153 = .ok (.return_, 1) := by decide +kernel
set_option maxRecDepth 20000 in
theorem ggX4_precharged_X5_allValid : GoodIn wsX4_precharged wsX5_allValid := goodIn_r _ [7, 8, 9, 21, 22, 23, 24, 25, 26, 27] (by decide +kernel) (by decide +kernel)
set_option maxRecDepth 20000 in
theorem gX4_precharged_X5_allValid : GoodIn wsX4_precharged (wsV RX4 29 RX5 yX5_allValid wsX5_allValid) := goodIn_app (goodIn_of _ (by decide +kernel)) ggX4_precharged_X5_allValid
set_option maxRecDepth 20000 in
theorem ggX4_precharged_X0_latch : GoodIn wsX4_precharged wsX0_latch := goodIn_r _ [14, 15, 16, 17, 18, 19, 13, 20, 30, 31, 32, 33] (by decide +kernel) (by decide +kernel)
set_option maxRecDepth 20000 in
theorem gX4_precharged_X0_latch : GoodIn wsX4_precharged (wsV RX4 37 RX0 yX0_latch wsX0_latch) := goodIn_app (goodIn_of _ (by decide +kernel)) ggX4_precharged_X0_latch
theorem dX4_precharged_0 : decode cX4_precharged 0 = .ok (.aload_n 2, 1) := by decide +kernel
theorem dX4_precharged_1 : decode cX4_precharged 1 = .ok (.invokevirtual 29, 3) := by decide +kernel
theorem dX4_precharged_4 : decode cX4_precharged 4 = .ok (.ifCond .eq 19, 3) := by decide +kernel
theorem dX4_precharged_7 : decode cX4_precharged 7 = .ok (.bipush 20, 2) := by decide +kernel
theorem dX4_precharged_9 : decode cX4_precharged 9 = .ok (.iload_n 1, 1) := by decide +kernel
theorem dX4_precharged_10 : decode cX4_precharged 10 = .ok (.imul, 1) := by decide +kernel
theorem dX4_precharged_11 : decode cX4_precharged 11 = .ok (.bipush 19, 2) := by decide +kernel
theorem dX4_precharged_13 : decode cX4_precharged 13 = .ok (.aload_n 2, 1) := by decide +kernel
theorem dX4_precharged_14 : decode cX4_precharged 14 = .ok (.getfield 34, 3) := by decide +kernel
theorem dX4_precharged_17 : decode cX4_precharged 17 = .ok (.imul, 1) := by decide +kernel
theorem dX4_precharged_18 : decode cX4_precharged 18 = .ok (.if_icmp .lt 5, 3) := by decide +kernel
theorem dX4_precharged_21 : decode cX4_precharged 21 = .ok (.iconst 3, 1) := by decide +kernel
theorem dX4_precharged_22 : decode cX4_precharged 22 = .ok (.ireturn, 1) := by decide +kernel
theorem dX4_precharged_23 : decode cX4_precharged 23 = .ok (.aload_n 0, 1) := by decide +kernel
theorem dX4_precharged_24 : decode cX4_precharged 24 = .ok (.getfield 13, 3) := by decide +kernel
theorem dX4_precharged_27 : decode cX4_precharged 27 = .ok (.bipush 30, 2) := by decide +kernel
theorem dX4_precharged_29 : decode cX4_precharged 29 = .ok (.if_icmp .ge 5, 3) := by decide +kernel
theorem dX4_precharged_32 : decode cX4_precharged 32 = .ok (.iconst 2, 1) := by decide +kernel
theorem dX4_precharged_33 : decode cX4_precharged 33 = .ok (.ireturn, 1) := by decide +kernel
theorem dX4_precharged_34 : decode cX4_precharged 34 = .ok (.aload_n 3, 1) := by decide +kernel
theorem dX4_precharged_35 : decode cX4_precharged 35 = .ok (.bipush 7, 2) := by decide +kernel
theorem dX4_precharged_37 : decode cX4_precharged 37 = .ok (.invokevirtual 37, 3) := by decide +kernel
theorem dX4_precharged_40 : decode cX4_precharged 40 = .ok (.iconst 4, 1) := by decide +kernel
theorem dX4_precharged_41 : decode cX4_precharged 41 = .ok (.ireturn, 1) := by decide +kernel
set_option maxRecDepth 20000 in
theorem ggX4_opened_X0_latch : GoodIn wsX4_opened wsX0_latch := goodIn_r _ [7, 8, 9, 10, 11, 12, 6, 13, 23, 24, 25, 26] (by decide +kernel) (by decide +kernel)
set_option maxRecDepth 20000 in
theorem gX4_opened_X0_latch : GoodIn wsX4_opened (wsV RX4 37 RX0 yX0_latch wsX0_latch) := goodIn_app (goodIn_of _ (by decide +kernel)) ggX4_opened_X0_latch
theorem dX4_opened_0 : decode cX4_opened 0 = .ok (.aload_n 0, 1) := by decide +kernel
theorem dX4_opened_1 : decode cX4_opened 1 = .ok (.getfield 13, 3) := by decide +kernel
theorem dX4_opened_4 : decode cX4_opened 4 = .ok (.iconst 3, 1) := by decide +kernel
theorem dX4_opened_5 : decode cX4_opened 5 = .ok (.if_icmp .ge 5, 3) := by decide +kernel
theorem dX4_opened_8 : decode cX4_opened 8 = .ok (.iconst 4, 1) := by decide +kernel
theorem dX4_opened_9 : decode cX4_opened 9 = .ok (.ireturn, 1) := by decide +kernel
theorem dX4_opened_10 : decode cX4_opened 10 = .ok (.iconst 2, 1) := by decide +kernel
theorem dX4_opened_11 : decode cX4_opened 11 = .ok (.iload_n 1, 1) := by decide +kernel
theorem dX4_opened_12 : decode cX4_opened 12 = .ok (.imul, 1) := by decide +kernel
theorem dX4_opened_13 : decode cX4_opened 13 = .ok (.aload_n 2, 1) := by decide +kernel
theorem dX4_opened_14 : decode cX4_opened 14 = .ok (.getfield 34, 3) := by decide +kernel
theorem dX4_opened_17 : decode cX4_opened 17 = .ok (.if_icmp .le 9, 3) := by decide +kernel
theorem dX4_opened_20 : decode cX4_opened 20 = .ok (.aload_n 3, 1) := by decide +kernel
theorem dX4_opened_21 : decode cX4_opened 21 = .ok (.bipush 8, 2) := by decide +kernel
theorem dX4_opened_23 : decode cX4_opened 23 = .ok (.invokevirtual 37, 3) := by decide +kernel
theorem dX4_opened_26 : decode cX4_opened 26 = .ok (.iconst 0, 1) := by decide +kernel
theorem dX4_opened_27 : decode cX4_opened 27 = .ok (.ireturn, 1) := by decide +kernel
theorem dX5_init_0 : decode cX5_init 0 = .ok (.aload_n 0, 1) := by decide +kernel
theorem dX5_init_1 : decode cX5_init 1 = .ok (.invokespecial 3, 3) := by decide +kernel
theorem dX5_init_4 : decode cX5_init 4 = .ok (.return_, 1) := by decide +kernel
set_option maxRecDepth 20000 in
theorem ggX5_look_X3_isStale : GoodIn wsX5_look wsX3_isStale := goodIn_r _ [16, 17, 18, 57, 58, 59, 60, 61, 62, 63, 64] (by decide +kernel) (by decide +kernel)
set_option maxRecDepth 20000 in
theorem gX5_look_X3_isStale : GoodIn wsX5_look (wsV RX5 47 RX3 yX3_isStale wsX3_isStale) := goodIn_app (goodIn_of _ (by decide +kernel)) ggX5_look_X3_isStale
set_option maxRecDepth 20000 in
theorem ggX5_look_X5_lookAtCells : GoodIn wsX5_look wsX5_lookAtCells := goodIn_r _ [23, 24, 3, 5, 25, 26, 27, 28, 6, 29, 30, 31, 2, 32, 33, 34, 15, 35, 36, 37, 38, 13, 14, 16, 17, 18, 39, 40, 41, 42, 43, 44, 45, 46, 47, 48, 49, 57, 58, 59, 60, 61, 62, 63, 64, 50, 51, 52, 53, 54, 55, 56] (by decide +kernel) (by decide +kernel)
set_option maxRecDepth 20000 in
theorem gX5_look_X5_lookAtCells : GoodIn wsX5_look (wsV RX5 51 RX5 yX5_lookAtCells wsX5_lookAtCells) := goodIn_app (goodIn_of _ (by decide +kernel)) ggX5_look_X5_lookAtCells
theorem dX5_look_0 : decode cX5_look 0 = .ok (.aload_n 0, 1) := by decide +kernel
theorem dX5_look_1 : decode cX5_look 1 = .ok (.iconst 0, 1) := by decide +kernel
theorem dX5_look_2 : decode cX5_look 2 = .ok (.putfield 9, 3) := by decide +kernel
theorem dX5_look_5 : decode cX5_look 5 = .ok (.aload_n 0, 1) := by decide +kernel
theorem dX5_look_6 : decode cX5_look 6 = .ok (.iconst 0, 1) := by decide +kernel
theorem dX5_look_7 : decode cX5_look 7 = .ok (.putfield 15, 3) := by decide +kernel
theorem dX5_look_10 : decode cX5_look 10 = .ok (.aload_n 0, 1) := by decide +kernel
theorem dX5_look_11 : decode cX5_look 11 = .ok (.iconst 0, 1) := by decide +kernel
theorem dX5_look_12 : decode cX5_look 12 = .ok (.putfield 18, 3) := by decide +kernel
theorem dX5_look_15 : decode cX5_look 15 = .ok (.aload_n 0, 1) := by decide +kernel
theorem dX5_look_16 : decode cX5_look 16 = .ok (.ldc 24, 2) := by decide +kernel
theorem dX5_look_18 : decode cX5_look 18 = .ok (.putfield 25, 3) := by decide +kernel
theorem dX5_look_21 : decode cX5_look 21 = .ok (.aload_n 0, 1) := by decide +kernel
theorem dX5_look_22 : decode cX5_look 22 = .ok (.iconst 0, 1) := by decide +kernel
theorem dX5_look_23 : decode cX5_look 23 = .ok (.putfield 28, 3) := by decide +kernel
theorem dX5_look_26 : decode cX5_look 26 = .ok (.aload_n 0, 1) := by decide +kernel
theorem dX5_look_27 : decode cX5_look 27 = .ok (.ldc2_w 31, 3) := by decide +kernel
theorem dX5_look_30 : decode cX5_look 30 = .ok (.putfield 33, 3) := by decide +kernel
theorem dX5_look_33 : decode cX5_look 33 = .ok (.aload_n 0, 1) := by decide +kernel
theorem dX5_look_34 : decode cX5_look 34 = .ok (.ldc2_w 37, 3) := by decide +kernel
theorem dX5_look_37 : decode cX5_look 37 = .ok (.putfield 39, 3) := by decide +kernel
theorem dX5_look_40 : decode cX5_look 40 = .ok (.aload_n 1, 1) := by decide +kernel
theorem dX5_look_41 : decode cX5_look 41 = .ok (.astore_n 2, 1) := by decide +kernel
theorem dX5_look_42 : decode cX5_look 42 = .ok (.aload_n 2, 1) := by decide +kernel
theorem dX5_look_43 : decode cX5_look 43 = .ok (.arraylength, 1) := by decide +kernel
theorem dX5_look_44 : decode cX5_look 44 = .ok (.istore_n 3, 1) := by decide +kernel
theorem dX5_look_45 : decode cX5_look 45 = .ok (.iconst 0, 1) := by decide +kernel
theorem dX5_look_46 : decode cX5_look 46 = .ok (.istore 4, 2) := by decide +kernel
theorem dX5_look_48 : decode cX5_look 48 = .ok (.iload 4, 2) := by decide +kernel
theorem dX5_look_50 : decode cX5_look 50 = .ok (.iload_n 3, 1) := by decide +kernel
theorem dX5_look_51 : decode cX5_look 51 = .ok (.if_icmp .ge 95, 3) := by decide +kernel
theorem dX5_look_54 : decode cX5_look 54 = .ok (.aload_n 2, 1) := by decide +kernel
theorem dX5_look_55 : decode cX5_look 55 = .ok (.iload 4, 2) := by decide +kernel
theorem dX5_look_57 : decode cX5_look 57 = .ok (.aaload, 1) := by decide +kernel
theorem dX5_look_58 : decode cX5_look 58 = .ok (.astore 5, 2) := by decide +kernel
theorem dX5_look_60 : decode cX5_look 60 = .ok (.aload_n 0, 1) := by decide +kernel
theorem dX5_look_61 : decode cX5_look 61 = .ok (.aload 5, 2) := by decide +kernel
theorem dX5_look_63 : decode cX5_look 63 = .ok (.getfield 42, 3) := by decide +kernel
theorem dX5_look_66 : decode cX5_look 66 = .ok (.aload_n 0, 1) := by decide +kernel
theorem dX5_look_67 : decode cX5_look 67 = .ok (.getfield 33, 3) := by decide +kernel
theorem dX5_look_70 : decode cX5_look 70 = .ok (.dcmp .l, 1) := by decide +kernel
theorem dX5_look_71 : decode cX5_look 71 = .ok (.ifCond .le 11, 3) := by decide +kernel
theorem dX5_look_74 : decode cX5_look 74 = .ok (.aload 5, 2) := by decide +kernel
theorem dX5_look_76 : decode cX5_look 76 = .ok (.getfield 42, 3) := by decide +kernel
theorem dX5_look_79 : decode cX5_look 79 = .ok (.goto 7, 3) := by decide +kernel
theorem dX5_look_82 : decode cX5_look 82 = .ok (.aload_n 0, 1) := by decide +kernel
theorem dX5_look_83 : decode cX5_look 83 = .ok (.getfield 33, 3) := by decide +kernel
theorem dX5_look_86 : decode cX5_look 86 = .ok (.putfield 33, 3) := by decide +kernel
theorem dX5_look_89 : decode cX5_look 89 = .ok (.aload_n 0, 1) := by decide +kernel
theorem dX5_look_90 : decode cX5_look 90 = .ok (.aload 5, 2) := by decide +kernel
theorem dX5_look_92 : decode cX5_look 92 = .ok (.getfield 42, 3) := by decide +kernel
theorem dX5_look_95 : decode cX5_look 95 = .ok (.aload_n 0, 1) := by decide +kernel
theorem dX5_look_96 : decode cX5_look 96 = .ok (.getfield 39, 3) := by decide +kernel
theorem dX5_look_99 : decode cX5_look 99 = .ok (.dcmp .g, 1) := by decide +kernel
theorem dX5_look_100 : decode cX5_look 100 = .ok (.ifCond .ge 11, 3) := by decide +kernel
theorem dX5_look_103 : decode cX5_look 103 = .ok (.aload 5, 2) := by decide +kernel
theorem dX5_look_105 : decode cX5_look 105 = .ok (.getfield 42, 3) := by decide +kernel
theorem dX5_look_108 : decode cX5_look 108 = .ok (.goto 7, 3) := by decide +kernel
theorem dX5_look_111 : decode cX5_look 111 = .ok (.aload_n 0, 1) := by decide +kernel
theorem dX5_look_112 : decode cX5_look 112 = .ok (.getfield 39, 3) := by decide +kernel
theorem dX5_look_115 : decode cX5_look 115 = .ok (.putfield 39, 3) := by decide +kernel
theorem dX5_look_118 : decode cX5_look 118 = .ok (.aload 5, 2) := by decide +kernel
theorem dX5_look_120 : decode cX5_look 120 = .ok (.invokevirtual 47, 3) := by decide +kernel
theorem dX5_look_123 : decode cX5_look 123 = .ok (.ifCond .eq 11, 3) := by decide +kernel
theorem dX5_look_126 : decode cX5_look 126 = .ok (.aload_n 0, 1) := by decide +kernel
theorem dX5_look_127 : decode cX5_look 127 = .ok (.iconst 1, 1) := by decide +kernel
theorem dX5_look_128 : decode cX5_look 128 = .ok (.putfield 9, 3) := by decide +kernel
theorem dX5_look_131 : decode cX5_look 131 = .ok (.goto 9, 3) := by decide +kernel
theorem dX5_look_134 : decode cX5_look 134 = .ok (.aload_n 0, 1) := by decide +kernel
theorem dX5_look_135 : decode cX5_look 135 = .ok (.aload 5, 2) := by decide +kernel
theorem dX5_look_137 : decode cX5_look 137 = .ok (.invokevirtual 51, 3) := by decide +kernel
theorem dX5_look_140 : decode cX5_look 140 = .ok (.iinc 4 1, 3) := by decide +kernel
theorem dX5_look_143 : decode cX5_look 143 = .ok (.goto (-95), 3) := by decide +kernel
theorem dX5_look_146 : decode cX5_look 146 = .ok (.return_, 1) := by decide +kernel
set_option maxRecDepth 20000 in
theorem ggX5_lookAtCells_X3_isValid : GoodIn wsX5_lookAtCells wsX3_isValid := goodIn_r _ [17, 18, 19, 20, 21, 22, 16, 23, 24, 25, 26, 27, 28, 29, 30, 31, 32, 33, 34, 35, 36, 37, 38, 39, 40, 41, 42, 43, 44] (by decide +kernel) (by decide +kernel)
set_option maxRecDepth 20000 in
theorem gX5_lookAtCells_X3_isValid : GoodIn wsX5_lookAtCells (wsV RX5 55 RX3 yX3_isValid wsX3_isValid) := goodIn_app (goodIn_of _ (by decide +kernel)) ggX5_lookAtCells_X3_isValid
theorem dX5_lookAtCells_0 : decode cX5_lookAtCells 0 = .ok (.iconst 0, 1) := by decide +kernel
theorem dX5_lookAtCells_1 : decode cX5_lookAtCells 1 = .ok (.istore_n 2, 1) := by decide +kernel
theorem dX5_lookAtCells_2 : decode cX5_lookAtCells 2 = .ok (.iload_n 2, 1) := by decide +kernel
theorem dX5_lookAtCells_3 : decode cX5_lookAtCells 3 = .ok (.bipush 6, 2) := by decide +kernel
theorem dX5_lookAtCells_5 : decode cX5_lookAtCells 5 = .ok (.if_icmp .ge 66, 3) := by decide +kernel
theorem dX5_lookAtCells_8 : decode cX5_lookAtCells 8 = .ok (.aload_n 1, 1) := by decide +kernel
theorem dX5_lookAtCells_9 : decode cX5_lookAtCells 9 = .ok (.iload_n 2, 1) := by decide +kernel
theorem dX5_lookAtCells_10 : decode cX5_lookAtCells 10 = .ok (.invokevirtual 55, 3) := by decide +kernel
theorem dX5_lookAtCells_13 : decode cX5_lookAtCells 13 = .ok (.ifCond .eq 47, 3) := by decide +kernel
theorem dX5_lookAtCells_16 : decode cX5_lookAtCells 16 = .ok (.aload_n 1, 1) := by decide +kernel
theorem dX5_lookAtCells_17 : decode cX5_lookAtCells 17 = .ok (.getfield 59, 3) := by decide +kernel
theorem dX5_lookAtCells_20 : decode cX5_lookAtCells 20 = .ok (.iload_n 2, 1) := by decide +kernel
theorem dX5_lookAtCells_21 : decode cX5_lookAtCells 21 = .ok (.iaload, 1) := by decide +kernel
theorem dX5_lookAtCells_22 : decode cX5_lookAtCells 22 = .ok (.istore_n 3, 1) := by decide +kernel
theorem dX5_lookAtCells_23 : decode cX5_lookAtCells 23 = .ok (.aload_n 0, 1) := by decide +kernel
theorem dX5_lookAtCells_24 : decode cX5_lookAtCells 24 = .ok (.dup, 1) := by decide +kernel
theorem dX5_lookAtCells_25 : decode cX5_lookAtCells 25 = .ok (.getfield 18, 3) := by decide +kernel
theorem dX5_lookAtCells_28 : decode cX5_lookAtCells 28 = .ok (.iload_n 3, 1) := by decide +kernel
theorem dX5_lookAtCells_29 : decode cX5_lookAtCells 29 = .ok (.iadd, 1) := by decide +kernel
theorem dX5_lookAtCells_30 : decode cX5_lookAtCells 30 = .ok (.putfield 18, 3) := by decide +kernel
theorem dX5_lookAtCells_33 : decode cX5_lookAtCells 33 = .ok (.aload_n 0, 1) := by decide +kernel
theorem dX5_lookAtCells_34 : decode cX5_lookAtCells 34 = .ok (.aload_n 0, 1) := by decide +kernel
theorem dX5_lookAtCells_35 : decode cX5_lookAtCells 35 = .ok (.getfield 25, 3) := by decide +kernel
theorem dX5_lookAtCells_38 : decode cX5_lookAtCells 38 = .ok (.iload_n 3, 1) := by decide +kernel
theorem dX5_lookAtCells_39 : decode cX5_lookAtCells 39 = .ok (.invokestatic 63, 3) := by decide +kernel
theorem dX5_lookAtCells_42 : decode cX5_lookAtCells 42 = .ok (.putfield 25, 3) := by decide +kernel
theorem dX5_lookAtCells_45 : decode cX5_lookAtCells 45 = .ok (.aload_n 0, 1) := by decide +kernel
theorem dX5_lookAtCells_46 : decode cX5_lookAtCells 46 = .ok (.aload_n 0, 1) := by decide +kernel
theorem dX5_lookAtCells_47 : decode cX5_lookAtCells 47 = .ok (.getfield 28, 3) := by decide +kernel
theorem dX5_lookAtCells_50 : decode cX5_lookAtCells 50 = .ok (.iload_n 3, 1) := by decide +kernel
theorem dX5_lookAtCells_51 : decode cX5_lookAtCells 51 = .ok (.invokestatic 69, 3) := by decide +kernel
theorem dX5_lookAtCells_54 : decode cX5_lookAtCells 54 = .ok (.putfield 28, 3) := by decide +kernel
theorem dX5_lookAtCells_57 : decode cX5_lookAtCells 57 = .ok (.goto 8, 3) := by decide +kernel
theorem dX5_lookAtCells_60 : decode cX5_lookAtCells 60 = .ok (.aload_n 0, 1) := by decide +kernel
theorem dX5_lookAtCells_61 : decode cX5_lookAtCells 61 = .ok (.iconst 1, 1) := by decide +kernel
theorem dX5_lookAtCells_62 : decode cX5_lookAtCells 62 = .ok (.putfield 15, 3) := by decide +kernel
theorem dX5_lookAtCells_65 : decode cX5_lookAtCells 65 = .ok (.iinc 2 1, 3) := by decide +kernel
theorem dX5_lookAtCells_68 : decode cX5_lookAtCells 68 = .ok (.goto (-66), 3) := by decide +kernel
theorem dX5_lookAtCells_71 : decode cX5_lookAtCells 71 = .ok (.return_, 1) := by decide +kernel
theorem dX5_allValid_0 : decode cX5_allValid 0 = .ok (.aload_n 0, 1) := by decide +kernel
theorem dX5_allValid_1 : decode cX5_allValid 1 = .ok (.getfield 9, 3) := by decide +kernel
theorem dX5_allValid_4 : decode cX5_allValid 4 = .ok (.ifCond .ne 14, 3) := by decide +kernel
theorem dX5_allValid_7 : decode cX5_allValid 7 = .ok (.aload_n 0, 1) := by decide +kernel
theorem dX5_allValid_8 : decode cX5_allValid 8 = .ok (.getfield 15, 3) := by decide +kernel
theorem dX5_allValid_11 : decode cX5_allValid 11 = .ok (.ifCond .ne 7, 3) := by decide +kernel
theorem dX5_allValid_14 : decode cX5_allValid 14 = .ok (.iconst 1, 1) := by decide +kernel
theorem dX5_allValid_15 : decode cX5_allValid 15 = .ok (.goto 4, 3) := by decide +kernel
theorem dX5_allValid_18 : decode cX5_allValid 18 = .ok (.iconst 0, 1) := by decide +kernel
theorem dX5_allValid_19 : decode cX5_allValid 19 = .ok (.ireturn, 1) := by decide +kernel
theorem dJ9_floorMod_7cf53_0 : decode cJ9_floorMod_7cf53 0 = .ok (.iload_n 0, 1) := by decide +kernel
theorem dJ9_floorMod_7cf53_1 : decode cJ9_floorMod_7cf53 1 = .ok (.iload_n 1, 1) := by decide +kernel
theorem dJ9_floorMod_7cf53_2 : decode cJ9_floorMod_7cf53 2 = .ok (.irem, 1) := by decide +kernel
theorem dJ9_floorMod_7cf53_3 : decode cJ9_floorMod_7cf53 3 = .ok (.istore_n 2, 1) := by decide +kernel
theorem dJ9_floorMod_7cf53_4 : decode cJ9_floorMod_7cf53 4 = .ok (.iload_n 0, 1) := by decide +kernel
theorem dJ9_floorMod_7cf53_5 : decode cJ9_floorMod_7cf53 5 = .ok (.iload_n 1, 1) := by decide +kernel
theorem dJ9_floorMod_7cf53_6 : decode cJ9_floorMod_7cf53 6 = .ok (.ixor, 1) := by decide +kernel
theorem dJ9_floorMod_7cf53_7 : decode cJ9_floorMod_7cf53 7 = .ok (.ifCond .ge 11, 3) := by decide +kernel
theorem dJ9_floorMod_7cf53_10 : decode cJ9_floorMod_7cf53 10 = .ok (.iload_n 2, 1) := by decide +kernel
theorem dJ9_floorMod_7cf53_11 : decode cJ9_floorMod_7cf53 11 = .ok (.ifCond .eq 7, 3) := by decide +kernel
theorem dJ9_floorMod_7cf53_14 : decode cJ9_floorMod_7cf53 14 = .ok (.iload_n 2, 1) := by decide +kernel
theorem dJ9_floorMod_7cf53_15 : decode cJ9_floorMod_7cf53 15 = .ok (.iload_n 1, 1) := by decide +kernel
theorem dJ9_floorMod_7cf53_16 : decode cJ9_floorMod_7cf53 16 = .ok (.iadd, 1) := by decide +kernel
theorem dJ9_floorMod_7cf53_17 : decode cJ9_floorMod_7cf53 17 = .ok (.ireturn, 1) := by decide +kernel
theorem dJ9_floorMod_7cf53_18 : decode cJ9_floorMod_7cf53 18 = .ok (.iload_n 2, 1) := by decide +kernel
theorem dJ9_floorMod_7cf53_19 : decode cJ9_floorMod_7cf53 19 = .ok (.ireturn, 1) := by decide +kernel
theorem dJ9_max_7cf53_0 : decode cJ9_max_7cf53 0 = .ok (.iload_n 0, 1) := by decide +kernel
theorem dJ9_max_7cf53_1 : decode cJ9_max_7cf53 1 = .ok (.iload_n 1, 1) := by decide +kernel
theorem dJ9_max_7cf53_2 : decode cJ9_max_7cf53 2 = .ok (.if_icmp .lt 7, 3) := by decide +kernel
theorem dJ9_max_7cf53_5 : decode cJ9_max_7cf53 5 = .ok (.iload_n 0, 1) := by decide +kernel
theorem dJ9_max_7cf53_6 : decode cJ9_max_7cf53 6 = .ok (.goto 4, 3) := by decide +kernel
theorem dJ9_max_7cf53_9 : decode cJ9_max_7cf53 9 = .ok (.iload_n 1, 1) := by decide +kernel
theorem dJ9_max_7cf53_10 : decode cJ9_max_7cf53 10 = .ok (.ireturn, 1) := by decide +kernel
theorem dJ9_max_f86c9_0 : decode cJ9_max_f86c9 0 = .ok (.lload_n 0, 1) := by decide +kernel
theorem dJ9_max_f86c9_1 : decode cJ9_max_f86c9 1 = .ok (.lload_n 2, 1) := by decide +kernel
theorem dJ9_max_f86c9_2 : decode cJ9_max_f86c9 2 = .ok (.lcmp, 1) := by decide +kernel
theorem dJ9_max_f86c9_3 : decode cJ9_max_f86c9 3 = .ok (.ifCond .lt 7, 3) := by decide +kernel
theorem dJ9_max_f86c9_6 : decode cJ9_max_f86c9 6 = .ok (.lload_n 0, 1) := by decide +kernel
theorem dJ9_max_f86c9_7 : decode cJ9_max_f86c9 7 = .ok (.goto 4, 3) := by decide +kernel
theorem dJ9_max_f86c9_10 : decode cJ9_max_f86c9 10 = .ok (.lload_n 2, 1) := by decide +kernel
theorem dJ9_max_f86c9_11 : decode cJ9_max_f86c9 11 = .ok (.lreturn, 1) := by decide +kernel
theorem dJ9_min_7cf53_0 : decode cJ9_min_7cf53 0 = .ok (.iload_n 0, 1) := by decide +kernel
theorem dJ9_min_7cf53_1 : decode cJ9_min_7cf53 1 = .ok (.iload_n 1, 1) := by decide +kernel
theorem dJ9_min_7cf53_2 : decode cJ9_min_7cf53 2 = .ok (.if_icmp .gt 7, 3) := by decide +kernel
theorem dJ9_min_7cf53_5 : decode cJ9_min_7cf53 5 = .ok (.iload_n 0, 1) := by decide +kernel
theorem dJ9_min_7cf53_6 : decode cJ9_min_7cf53 6 = .ok (.goto 4, 3) := by decide +kernel
theorem dJ9_min_7cf53_9 : decode cJ9_min_7cf53 9 = .ok (.iload_n 1, 1) := by decide +kernel
theorem dJ9_min_7cf53_10 : decode cJ9_min_7cf53 10 = .ok (.ireturn, 1) := by decide +kernel
theorem dJ9_min_f86c9_0 : decode cJ9_min_f86c9 0 = .ok (.lload_n 0, 1) := by decide +kernel
theorem dJ9_min_f86c9_1 : decode cJ9_min_f86c9 1 = .ok (.lload_n 2, 1) := by decide +kernel
theorem dJ9_min_f86c9_2 : decode cJ9_min_f86c9 2 = .ok (.lcmp, 1) := by decide +kernel
theorem dJ9_min_f86c9_3 : decode cJ9_min_f86c9 3 = .ok (.ifCond .gt 7, 3) := by decide +kernel
theorem dJ9_min_f86c9_6 : decode cJ9_min_f86c9 6 = .ok (.lload_n 0, 1) := by decide +kernel
theorem dJ9_min_f86c9_7 : decode cJ9_min_f86c9 7 = .ok (.goto 4, 3) := by decide +kernel
theorem dJ9_min_f86c9_10 : decode cJ9_min_f86c9 10 = .ok (.lload_n 2, 1) := by decide +kernel
theorem dJ9_min_f86c9_11 : decode cJ9_min_f86c9 11 = .ok (.lreturn, 1) := by decide +kernel
