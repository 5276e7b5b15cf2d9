set_option maxRecDepth 20000 in
theorem ggX7_init_X7_nearest : GoodIn wsX7_init wsX7_nearest := goodIn_r _ [26] (by decide +kernel) (by decide +kernel)
set_option maxRecDepth 20000 in
theorem gX7_init_X7_nearest : GoodIn wsX7_init (va_wsS RX7 45 yX7_nearest wsX7_nearest) := goodIn_app (goodIn_of _ (by decide +kernel)) ggX7_init_X7_nearest
set_option maxRecDepth 20000 in
theorem ggX7_init_X7_begin : GoodIn wsX7_init wsX7_begin := goodIn_r _ [30, 31, 32, 33, 34, 35, 36, 37, 38, 39, 40, 41, 42, 43, 16, 44, 14, 8, 45, 12, 13, 15, 18, 46, 20, 47, 48, 49, 25, 50, 5, 51, 52, 53, 54, 55, 56, 57, 58, 59, 60, 61, 62, 63, 64, 65, 66, 67, 68, 69, 70, 71, 72, 73, 74, 75, 76, 77, 78, 79, 80, 81, 82, 83, 84, 85, 86, 87, 88, 89, 90] (by decide +kernel) (by decide +kernel)
set_option maxRecDepth 20000 in
theorem gX7_init_X7_begin : GoodIn wsX7_init (wsV RX7 67 RX7 yX7_begin wsX7_begin) := goodIn_app (goodIn_of _ (by decide +kernel)) ggX7_init_X7_begin
theorem dX7_init_0 : decode cX7_init 0 = .ok (.aload_n 0, 1) := by decide +kernel
theorem dX7_init_1 : decode cX7_init 1 = .ok (.invokespecial 1, 3) := by decide +kernel
theorem dX7_init_4 : decode cX7_init 4 = .ok (.aload_n 0, 1) := by decide +kernel
theorem dX7_init_5 : decode cX7_init 5 = .ok (.sipush 512, 3) := by decide +kernel
theorem dX7_init_8 : decode cX7_init 8 = .ok (.newarray .int, 2) := by decide +kernel
theorem dX7_init_10 : decode cX7_init 10 = .ok (.putfield 7, 3) := by decide +kernel
theorem dX7_init_13 : decode cX7_init 13 = .ok (.aload_n 0, 1) := by decide +kernel
theorem dX7_init_14 : decode cX7_init 14 = .ok (.bipush 32, 2) := by decide +kernel
theorem dX7_init_16 : decode cX7_init 16 = .ok (.newarray .int, 2) := by decide +kernel
theorem dX7_init_18 : decode cX7_init 18 = .ok (.putfield 13, 3) := by decide +kernel
theorem dX7_init_21 : decode cX7_init 21 = .ok (.aload_n 0, 1) := by decide +kernel
theorem dX7_init_22 : decode cX7_init 22 = .ok (.iconst 4, 1) := by decide +kernel
theorem dX7_init_23 : decode cX7_init 23 = .ok (.newarray .long, 2) := by decide +kernel
theorem dX7_init_25 : decode cX7_init 25 = .ok (.putfield 16, 3) := by decide +kernel
theorem dX7_init_28 : decode cX7_init 28 = .ok (.aload_n 0, 1) := by decide +kernel
theorem dX7_init_29 : decode cX7_init 29 = .ok (.sipush 192, 3) := by decide +kernel
theorem dX7_init_32 : decode cX7_init 32 = .ok (.newarray .int, 2) := by decide +kernel
theorem dX7_init_34 : decode cX7_init 34 = .ok (.putfield 20, 3) := by decide +kernel
theorem dX7_init_37 : decode cX7_init 37 = .ok (.aload_n 0, 1) := by decide +kernel
theorem dX7_init_38 : decode cX7_init 38 = .ok (.bipush 32, 2) := by decide +kernel
theorem dX7_init_40 : decode cX7_init 40 = .ok (.newarray .long, 2) := by decide +kernel
theorem dX7_init_42 : decode cX7_init 42 = .ok (.putfield 23, 3) := by decide +kernel
theorem dX7_init_45 : decode cX7_init 45 = .ok (.aload_n 0, 1) := by decide +kernel
theorem dX7_init_46 : decode cX7_init 46 = .ok (.iconst 4, 1) := by decide +kernel
theorem dX7_init_47 : decode cX7_init 47 = .ok (.newarray .int, 2) := by decide +kernel
theorem dX7_init_49 : decode cX7_init 49 = .ok (.putfield 26, 3) := by decide +kernel
theorem dX7_init_52 : decode cX7_init 52 = .ok (.aload_n 0, 1) := by decide +kernel
theorem dX7_init_53 : decode cX7_init 53 = .ok (.iconst 4, 1) := by decide +kernel
theorem dX7_init_54 : decode cX7_init 54 = .ok (.newarray .int, 2) := by decide +kernel
theorem dX7_init_56 : decode cX7_init 56 = .ok (.putfield 29, 3) := by decide +kernel
theorem dX7_init_59 : decode cX7_init 59 = .ok (.aload_n 0, 1) := by decide +kernel
theorem dX7_init_60 : decode cX7_init 60 = .ok (.iconst 4, 1) := by decide +kernel
theorem dX7_init_61 : decode cX7_init 61 = .ok (.newarray .int, 2) := by decide +kernel
theorem dX7_init_63 : decode cX7_init 63 = .ok (.putfield 32, 3) := by decide +kernel
theorem dX7_init_66 : decode cX7_init 66 = .ok (.aload_n 0, 1) := by decide +kernel
theorem dX7_init_67 : decode cX7_init 67 = .ok (.bipush 7, 2) := by decide +kernel
theorem dX7_init_69 : decode cX7_init 69 = .ok (.newarray .int, 2) := by decide +kernel
theorem dX7_init_71 : decode cX7_init 71 = .ok (.putfield 35, 3) := by decide +kernel
theorem dX7_init_74 : decode cX7_init 74 = .ok (.aload_n 0, 1) := by decide +kernel
theorem dX7_init_75 : decode cX7_init 75 = .ok (.iconst 4, 1) := by decide +kernel
theorem dX7_init_76 : decode cX7_init 76 = .ok (.newarray .int, 2) := by decide +kernel
theorem dX7_init_78 : decode cX7_init 78 = .ok (.putfield 38, 3) := by decide +kernel
theorem dX7_init_81 : decode cX7_init 81 = .ok (.aload_n 0, 1) := by decide +kernel
theorem dX7_init_82 : decode cX7_init 82 = .ok (.bipush 32, 2) := by decide +kernel
theorem dX7_init_84 : decode cX7_init 84 = .ok (.putfield 41, 3) := by decide +kernel
theorem dX7_init_87 : decode cX7_init 87 = .ok (.aload_n 0, 1) := by decide +kernel
theorem dX7_init_88 : decode cX7_init 88 = .ok (.iload_n 1, 1) := by decide +kernel
theorem dX7_init_89 : decode cX7_init 89 = .ok (.iconst 1, 1) := by decide +kernel
theorem dX7_init_90 : decode cX7_init 90 = .ok (.iconst 4, 1) := by decide +kernel
theorem dX7_init_91 : decode cX7_init 91 = .ok (.invokestatic 45, 3) := by decide +kernel
theorem dX7_init_94 : decode cX7_init 94 = .ok (.putfield 49, 3) := by decide +kernel
theorem dX7_init_97 : decode cX7_init 97 = .ok (.aload_n 0, 1) := by decide +kernel
theorem dX7_init_98 : decode cX7_init 98 = .ok (.iload_n 2, 1) := by decide +kernel
theorem dX7_init_99 : decode cX7_init 99 = .ok (.iconst 2, 1) := by decide +kernel
theorem dX7_init_100 : decode cX7_init 100 = .ok (.bipush 16, 2) := by decide +kernel
theorem dX7_init_102 : decode cX7_init 102 = .ok (.invokestatic 45, 3) := by decide +kernel
theorem dX7_init_105 : decode cX7_init 105 = .ok (.putfield 52, 3) := by decide +kernel
theorem dX7_init_108 : decode cX7_init 108 = .ok (.aload_n 0, 1) := by decide +kernel
theorem dX7_init_109 : decode cX7_init 109 = .ok (.ldc2_w 55, 3) := by decide +kernel
theorem dX7_init_112 : decode cX7_init 112 = .ok (.iload_n 3, 1) := by decide +kernel
theorem dX7_init_113 : decode cX7_init 113 = .ok (.iconst 1, 1) := by decide +kernel
theorem dX7_init_114 : decode cX7_init 114 = .ok (.sipush 4000, 3) := by decide +kernel
theorem dX7_init_117 : decode cX7_init 117 = .ok (.invokestatic 45, 3) := by decide +kernel
theorem dX7_init_120 : decode cX7_init 120 = .ok (.i2l, 1) := by decide +kernel
theorem dX7_init_121 : decode cX7_init 121 = .ok (.lmul, 1) := by decide +kernel
theorem dX7_init_122 : decode cX7_init 122 = .ok (.putfield 57, 3) := by decide +kernel
theorem dX7_init_125 : decode cX7_init 125 = .ok (.aload_n 0, 1) := by decide +kernel
theorem dX7_init_126 : decode cX7_init 126 = .ok (.iload 4, 2) := by decide +kernel
theorem dX7_init_128 : decode cX7_init 128 = .ok (.iconst 1, 1) := by decide +kernel
theorem dX7_init_129 : decode cX7_init 129 = .ok (.bipush 20, 2) := by decide +kernel
theorem dX7_init_131 : decode cX7_init 131 = .ok (.invokestatic 45, 3) := by decide +kernel
theorem dX7_init_134 : decode cX7_init 134 = .ok (.putfield 61, 3) := by decide +kernel
theorem dX7_init_137 : decode cX7_init 137 = .ok (.aload_n 0, 1) := by decide +kernel
theorem dX7_init_138 : decode cX7_init 138 = .ok (.iload 5, 2) := by decide +kernel
theorem dX7_init_140 : decode cX7_init 140 = .ok (.iconst 1, 1) := by decide +kernel
theorem dX7_init_141 : decode cX7_init 141 = .ok (.bipush 50, 2) := by decide +kernel
theorem dX7_init_143 : decode cX7_init 143 = .ok (.invokestatic 45, 3) := by decide +kernel
theorem dX7_init_146 : decode cX7_init 146 = .ok (.putfield 64, 3) := by decide +kernel
theorem dX7_init_149 : decode cX7_init 149 = .ok (.aload_n 0, 1) := by decide +kernel
theorem dX7_init_150 : decode cX7_init 150 = .ok (.invokevirtual 67, 3) := by decide +kernel
theorem dX7_init_153 : decode cX7_init 153 = .ok (.return_, 1) := by decide +kernel
theorem dX7_nearest_0 : decode cX7_nearest 0 = .ok (.iload_n 0, 1) := by decide +kernel
theorem dX7_nearest_1 : decode cX7_nearest 1 = .ok (.iload_n 1, 1) := by decide +kernel
theorem dX7_nearest_2 : decode cX7_nearest 2 = .ok (.if_icmp .ge 7, 3) := by decide +kernel
theorem dX7_nearest_5 : decode cX7_nearest 5 = .ok (.iload_n 1, 1) := by decide +kernel
theorem dX7_nearest_6 : decode cX7_nearest 6 = .ok (.goto 13, 3) := by decide +kernel
theorem dX7_nearest_9 : decode cX7_nearest 9 = .ok (.iload_n 0, 1) := by decide +kernel
theorem dX7_nearest_10 : decode cX7_nearest 10 = .ok (.iload_n 2, 1) := by decide +kernel
theorem dX7_nearest_11 : decode cX7_nearest 11 = .ok (.if_icmp .le 7, 3) := by decide +kernel
theorem dX7_nearest_14 : decode cX7_nearest 14 = .ok (.iload_n 2, 1) := by decide +kernel
theorem dX7_nearest_15 : decode cX7_nearest 15 = .ok (.goto 4, 3) := by decide +kernel
theorem dX7_nearest_18 : decode cX7_nearest 18 = .ok (.iload_n 0, 1) := by decide +kernel
theorem dX7_nearest_19 : decode cX7_nearest 19 = .ok (.ireturn, 1) := by decide +kernel
theorem dX7_thrown_0 : decode cX7_thrown 0 = .ok (.aload_n 0, 1) := by decide +kernel
theorem dX7_thrown_1 : decode cX7_thrown 1 = .ok (.getfield 70, 3) := by decide +kernel
theorem dX7_thrown_4 : decode cX7_thrown 4 = .ok (.ireturn, 1) := by decide +kernel
theorem dX7_chips_0 : decode cX7_chips 0 = .ok (.aload_n 0, 1) := by decide +kernel
theorem dX7_chips_1 : decode cX7_chips 1 = .ok (.iconst 0, 1) := by decide +kernel
theorem dX7_chips_2 : decode cX7_chips 2 = .ok (.putfield 70, 3) := by decide +kernel
theorem dX7_chips_5 : decode cX7_chips 5 = .ok (.aload_n 0, 1) := by decide +kernel
theorem dX7_chips_6 : decode cX7_chips 6 = .ok (.getfield 49, 3) := by decide +kernel
theorem dX7_chips_9 : decode cX7_chips 9 = .ok (.ireturn, 1) := by decide +kernel
theorem dX7_checked_0 : decode cX7_checked 0 = .ok (.iload_n 0, 1) := by decide +kernel
theorem dX7_checked_1 : decode cX7_checked 1 = .ok (.istore_n 2, 1) := by decide +kernel
theorem dX7_checked_2 : decode cX7_checked 2 = .ok (.bipush 7, 2) := by decide +kernel
theorem dX7_checked_4 : decode cX7_checked 4 = .ok (.istore_n 3, 1) := by decide +kernel
theorem dX7_checked_5 : decode cX7_checked 5 = .ok (.iload_n 3, 1) := by decide +kernel
theorem dX7_checked_6 : decode cX7_checked 6 = .ok (.ifCond .lt 53, 3) := by decide +kernel
theorem dX7_checked_9 : decode cX7_checked 9 = .ok (.iload_n 2, 1) := by decide +kernel
theorem dX7_checked_10 : decode cX7_checked 10 = .ok (.bipush 14, 2) := by decide +kernel
theorem dX7_checked_12 : decode cX7_checked 12 = .ok (.ishr, 1) := by decide +kernel
theorem dX7_checked_13 : decode cX7_checked 13 = .ok (.iconst 1, 1) := by decide +kernel
theorem dX7_checked_14 : decode cX7_checked 14 = .ok (.iand, 1) := by decide +kernel
theorem dX7_checked_15 : decode cX7_checked 15 = .ok (.iload_n 1, 1) := by decide +kernel
theorem dX7_checked_16 : decode cX7_checked 16 = .ok (.iload_n 3, 1) := by decide +kernel
theorem dX7_checked_17 : decode cX7_checked 17 = .ok (.ishr, 1) := by decide +kernel
theorem dX7_checked_18 : decode cX7_checked 18 = .ok (.iconst 1, 1) := by decide +kernel
theorem dX7_checked_19 : decode cX7_checked 19 = .ok (.iand, 1) := by decide +kernel
theorem dX7_checked_20 : decode cX7_checked 20 = .ok (.if_icmp .eq 7, 3) := by decide +kernel
theorem dX7_checked_23 : decode cX7_checked 23 = .ok (.iconst 1, 1) := by decide +kernel
theorem dX7_checked_24 : decode cX7_checked 24 = .ok (.goto 4, 3) := by decide +kernel
theorem dX7_checked_27 : decode cX7_checked 27 = .ok (.iconst 0, 1) := by decide +kernel
theorem dX7_checked_28 : decode cX7_checked 28 = .ok (.istore 4, 2) := by decide +kernel
theorem dX7_checked_30 : decode cX7_checked 30 = .ok (.iload_n 2, 1) := by decide +kernel
theorem dX7_checked_31 : decode cX7_checked 31 = .ok (.iconst 1, 1) := by decide +kernel
theorem dX7_checked_32 : decode cX7_checked 32 = .ok (.ishl, 1) := by decide +kernel
theorem dX7_checked_33 : decode cX7_checked 33 = .ok (.sipush 32767, 3) := by decide +kernel
theorem dX7_checked_36 : decode cX7_checked 36 = .ok (.iand, 1) := by decide +kernel
theorem dX7_checked_37 : decode cX7_checked 37 = .ok (.istore_n 2, 1) := by decide +kernel
theorem dX7_checked_38 : decode cX7_checked 38 = .ok (.iload 4, 2) := by decide +kernel
theorem dX7_checked_40 : decode cX7_checked 40 = .ok (.ifCond .eq 11, 3) := by decide +kernel
theorem dX7_checked_43 : decode cX7_checked 43 = .ok (.iload_n 2, 1) := by decide +kernel
theorem dX7_checked_44 : decode cX7_checked 44 = .ok (.sipush 17817, 3) := by decide +kernel
theorem dX7_checked_47 : decode cX7_checked 47 = .ok (.ixor, 1) := by decide +kernel
theorem dX7_checked_48 : decode cX7_checked 48 = .ok (.goto 4, 3) := by decide +kernel
theorem dX7_checked_51 : decode cX7_checked 51 = .ok (.iload_n 2, 1) := by decide +kernel
theorem dX7_checked_52 : decode cX7_checked 52 = .ok (.istore_n 2, 1) := by decide +kernel
theorem dX7_checked_53 : decode cX7_checked 53 = .ok (.iinc 3 (-1), 3) := by decide +kernel
theorem dX7_checked_56 : decode cX7_checked 56 = .ok (.goto (-51), 3) := by decide +kernel
theorem dX7_checked_59 : decode cX7_checked 59 = .ok (.iload_n 2, 1) := by decide +kernel
theorem dX7_checked_60 : decode cX7_checked 60 = .ok (.ireturn, 1) := by decide +kernel
theorem dX7_byteOf_0 : decode cX7_byteOf 0 = .ok (.iload 4, 2) := by decide +kernel
theorem dX7_byteOf_2 : decode cX7_byteOf 2 = .ok (.bipush 8, 2) := by decide +kernel
theorem dX7_byteOf_4 : decode cX7_byteOf 4 = .ok (.if_icmp .ge 7, 3) := by decide +kernel
theorem dX7_byteOf_7 : decode cX7_byteOf 7 = .ok (.lload_n 0, 1) := by decide +kernel
theorem dX7_byteOf_8 : decode cX7_byteOf 8 = .ok (.goto 4, 3) := by decide +kernel
theorem dX7_byteOf_11 : decode cX7_byteOf 11 = .ok (.lload_n 2, 1) := by decide +kernel
theorem dX7_byteOf_12 : decode cX7_byteOf 12 = .ok (.bipush 56, 2) := by decide +kernel
theorem dX7_byteOf_14 : decode cX7_byteOf 14 = .ok (.bipush 8, 2) := by decide +kernel
theorem dX7_byteOf_16 : decode cX7_byteOf 16 = .ok (.iload 4, 2) := by decide +kernel
theorem dX7_byteOf_18 : decode cX7_byteOf 18 = .ok (.bipush 8, 2) := by decide +kernel
theorem dX7_byteOf_20 : decode cX7_byteOf 20 = .ok (.irem, 1) := by decide +kernel
theorem dX7_byteOf_21 : decode cX7_byteOf 21 = .ok (.imul, 1) := by decide +kernel
theorem dX7_byteOf_22 : decode cX7_byteOf 22 = .ok (.isub, 1) := by decide +kernel
theorem dX7_byteOf_23 : decode cX7_byteOf 23 = .ok (.lshr, 1) := by decide +kernel
theorem dX7_byteOf_24 : decode cX7_byteOf 24 = .ok (.l2i, 1) := by decide +kernel
theorem dX7_byteOf_25 : decode cX7_byteOf 25 = .ok (.sipush 255, 3) := by decide +kernel
theorem dX7_byteOf_28 : decode cX7_byteOf 28 = .ok (.iand, 1) := by decide +kernel
theorem dX7_byteOf_29 : decode cX7_byteOf 29 = .ok (.ireturn, 1) := by decide +kernel
set_option maxRecDepth 20000 in
theorem ggX7_sealOf_X7_byteOf : GoodIn wsX7_sealOf wsX7_byteOf := goodIn_r _ [4] (by decide +kernel) (by decide +kernel)
set_option maxRecDepth 20000 in
theorem gX7_sealOf_X7_byteOf : GoodIn wsX7_sealOf (va_wsS RX7 73 yX7_byteOf wsX7_byteOf) := goodIn_app (goodIn_of _ (by decide +kernel)) ggX7_sealOf_X7_byteOf
set_option maxRecDepth 20000 in
theorem ggX7_sealOf_X7_checked : GoodIn wsX7_sealOf wsX7_checked := goodIn_r _ [7] (by decide +kernel) (by decide +kernel)
set_option maxRecDepth 20000 in
theorem gX7_sealOf_X7_checked : GoodIn wsX7_sealOf (va_wsS RX7 77 yX7_checked wsX7_checked) := goodIn_app (goodIn_of _ (by decide +kernel)) ggX7_sealOf_X7_checked
theorem dX7_sealOf_0 : decode cX7_sealOf 0 = .ok (.iconst 0, 1) := by decide +kernel
theorem dX7_sealOf_1 : decode cX7_sealOf 1 = .ok (.istore 4, 2) := by decide +kernel
theorem dX7_sealOf_3 : decode cX7_sealOf 3 = .ok (.iconst 0, 1) := by decide +kernel
theorem dX7_sealOf_4 : decode cX7_sealOf 4 = .ok (.istore 5, 2) := by decide +kernel
theorem dX7_sealOf_6 : decode cX7_sealOf 6 = .ok (.iload 5, 2) := by decide +kernel
theorem dX7_sealOf_8 : decode cX7_sealOf 8 = .ok (.bipush 14, 2) := by decide +kernel
theorem dX7_sealOf_10 : decode cX7_sealOf 10 = .ok (.if_icmp .ge 23, 3) := by decide +kernel
theorem dX7_sealOf_13 : decode cX7_sealOf 13 = .ok (.iload 4, 2) := by decide +kernel
theorem dX7_sealOf_15 : decode cX7_sealOf 15 = .ok (.lload_n 0, 1) := by decide +kernel
theorem dX7_sealOf_16 : decode cX7_sealOf 16 = .ok (.lload_n 2, 1) := by decide +kernel
theorem dX7_sealOf_17 : decode cX7_sealOf 17 = .ok (.iload 5, 2) := by decide +kernel
theorem dX7_sealOf_19 : decode cX7_sealOf 19 = .ok (.invokestatic 73, 3) := by decide +kernel
theorem dX7_sealOf_22 : decode cX7_sealOf 22 = .ok (.invokestatic 77, 3) := by decide +kernel
theorem dX7_sealOf_25 : decode cX7_sealOf 25 = .ok (.istore 4, 2) := by decide +kernel
theorem dX7_sealOf_27 : decode cX7_sealOf 27 = .ok (.iinc 5 1, 3) := by decide +kernel
theorem dX7_sealOf_30 : decode cX7_sealOf 30 = .ok (.goto (-24), 3) := by decide +kernel
theorem dX7_sealOf_33 : decode cX7_sealOf 33 = .ok (.iload 4, 2) := by decide +kernel
theorem dX7_sealOf_35 : decode cX7_sealOf 35 = .ok (.ireturn, 1) := by decide +kernel
set_option maxRecDepth 20000 in
theorem ggX7_seal_X7_sealOf : GoodIn wsX7_seal wsX7_sealOf := goodIn_r _ [5, 6, 7, 4, 8, 9, 10, 11] (by decide +kernel) (by decide +kernel)
set_option maxRecDepth 20000 in
theorem gX7_seal_X7_sealOf : GoodIn wsX7_seal (va_wsS RX7 81 yX7_sealOf wsX7_sealOf) := goodIn_app (goodIn_of _ (by decide +kernel)) ggX7_seal_X7_sealOf
theorem dX7_seal_0 : decode cX7_seal 0 = .ok (.aload_n 0, 1) := by decide +kernel
theorem dX7_seal_1 : decode cX7_seal 1 = .ok (.iconst 0, 1) := by decide +kernel
theorem dX7_seal_2 : decode cX7_seal 2 = .ok (.putfield 70, 3) := by decide +kernel
theorem dX7_seal_5 : decode cX7_seal 5 = .ok (.lload_n 1, 1) := by decide +kernel
theorem dX7_seal_6 : decode cX7_seal 6 = .ok (.lload_n 3, 1) := by decide +kernel
theorem dX7_seal_7 : decode cX7_seal 7 = .ok (.invokestatic 81, 3) := by decide +kernel
theorem dX7_seal_10 : decode cX7_seal 10 = .ok (.ireturn, 1) := by decide +kernel
set_option maxRecDepth 20000 in
theorem ggX7_two_X7_byteOf : GoodIn wsX7_two wsX7_byteOf := goodIn_r _ [4] (by decide +kernel) (by decide +kernel)
set_option maxRecDepth 20000 in
theorem gX7_two_X7_byteOf : GoodIn wsX7_two (va_wsS RX7 73 yX7_byteOf wsX7_byteOf) := goodIn_app (goodIn_of _ (by decide +kernel)) ggX7_two_X7_byteOf
theorem dX7_two_0 : decode cX7_two 0 = .ok (.lload_n 0, 1) := by decide +kernel
theorem dX7_two_1 : decode cX7_two 1 = .ok (.lload_n 2, 1) := by decide +kernel
theorem dX7_two_2 : decode cX7_two 2 = .ok (.iconst 2, 1) := by decide +kernel
theorem dX7_two_3 : decode cX7_two 3 = .ok (.iload 4, 2) := by decide +kernel
theorem dX7_two_5 : decode cX7_two 5 = .ok (.imul, 1) := by decide +kernel
theorem dX7_two_6 : decode cX7_two 6 = .ok (.invokestatic 73, 3) := by decide +kernel
theorem dX7_two_9 : decode cX7_two 9 = .ok (.bipush 8, 2) := by decide +kernel
theorem dX7_two_11 : decode cX7_two 11 = .ok (.ishl, 1) := by decide +kernel
theorem dX7_two_12 : decode cX7_two 12 = .ok (.lload_n 0, 1) := by decide +kernel
theorem dX7_two_13 : decode cX7_two 13 = .ok (.lload_n 2, 1) := by decide +kernel
theorem dX7_two_14 : decode cX7_two 14 = .ok (.iconst 2, 1) := by decide +kernel
theorem dX7_two_15 : decode cX7_two 15 = .ok (.iload 4, 2) := by decide +kernel
theorem dX7_two_17 : decode cX7_two 17 = .ok (.imul, 1) := by decide +kernel
theorem dX7_two_18 : decode cX7_two 18 = .ok (.iconst 1, 1) := by decide +kernel
theorem dX7_two_19 : decode cX7_two 19 = .ok (.iadd, 1) := by decide +kernel
theorem dX7_two_20 : decode cX7_two 20 = .ok (.invokestatic 73, 3) := by decide +kernel
theorem dX7_two_23 : decode cX7_two 23 = .ok (.ior, 1) := by decide +kernel
theorem dX7_two_24 : decode cX7_two 24 = .ok (.ireturn, 1) := by decide +kernel
set_option maxRecDepth 20000 in
theorem ggX7_reply_X7_two : GoodIn wsX7_reply wsX7_two := goodIn_r _ [13, 14, 15, 12, 16] (by decide +kernel) (by decide +kernel)
set_option maxRecDepth 20000 in
theorem gX7_reply_X7_two : GoodIn wsX7_reply (va_wsS RX7 89 yX7_two wsX7_two) := goodIn_app (goodIn_of _ (by decide +kernel)) ggX7_reply_X7_two
set_option maxRecDepth 20000 in
theorem ggX7_reply_X7_sealOf : GoodIn wsX7_reply wsX7_sealOf := goodIn_r _ [19, 14, 15, 12, 16, 20, 21, 22] (by decide +kernel) (by decide +kernel)
set_option maxRecDepth 20000 in
theorem gX7_reply_X7_sealOf : GoodIn wsX7_reply (va_wsS RX7 81 yX7_sealOf wsX7_sealOf) := goodIn_app (goodIn_of _ (by decide +kernel)) ggX7_reply_X7_sealOf
theorem dX7_reply_0 : decode cX7_reply 0 = .ok (.aload_n 0, 1) := by decide +kernel
theorem dX7_reply_1 : decode cX7_reply 1 = .ok (.iload_n 1, 1) := by decide +kernel
theorem dX7_reply_2 : decode cX7_reply 2 = .ok (.ifCond .lt 11, 3) := by decide +kernel
theorem dX7_reply_5 : decode cX7_reply 5 = .ok (.iload_n 1, 1) := by decide +kernel
theorem dX7_reply_6 : decode cX7_reply 6 = .ok (.aload_n 0, 1) := by decide +kernel
theorem dX7_reply_7 : decode cX7_reply 7 = .ok (.getfield 49, 3) := by decide +kernel
theorem dX7_reply_10 : decode cX7_reply 10 = .ok (.if_icmp .lt 7, 3) := by decide +kernel
theorem dX7_reply_13 : decode cX7_reply 13 = .ok (.iconst 1, 1) := by decide +kernel
theorem dX7_reply_14 : decode cX7_reply 14 = .ok (.goto 15, 3) := by decide +kernel
theorem dX7_reply_17 : decode cX7_reply 17 = .ok (.aload_n 0, 1) := by decide +kernel
theorem dX7_reply_18 : decode cX7_reply 18 = .ok (.getfield 85, 3) := by decide +kernel
theorem dX7_reply_21 : decode cX7_reply 21 = .ok (.ifCond .eq 7, 3) := by decide +kernel
theorem dX7_reply_24 : decode cX7_reply 24 = .ok (.iconst 2, 1) := by decide +kernel
theorem dX7_reply_25 : decode cX7_reply 25 = .ok (.goto 4, 3) := by decide +kernel
theorem dX7_reply_28 : decode cX7_reply 28 = .ok (.iconst 0, 1) := by decide +kernel
theorem dX7_reply_29 : decode cX7_reply 29 = .ok (.putfield 70, 3) := by decide +kernel
theorem dX7_reply_32 : decode cX7_reply 32 = .ok (.aload_n 0, 1) := by decide +kernel
theorem dX7_reply_33 : decode cX7_reply 33 = .ok (.getfield 70, 3) := by decide +kernel
theorem dX7_reply_36 : decode cX7_reply 36 = .ok (.ifCond .gt 20, 3) := by decide +kernel
theorem dX7_reply_39 : decode cX7_reply 39 = .ok (.lload_n 2, 1) := by decide +kernel
theorem dX7_reply_40 : decode cX7_reply 40 = .ok (.lload 4, 2) := by decide +kernel
theorem dX7_reply_42 : decode cX7_reply 42 = .ok (.bipush 7, 2) := by decide +kernel
theorem dX7_reply_44 : decode cX7_reply 44 = .ok (.invokestatic 89, 3) := by decide +kernel
theorem dX7_reply_47 : decode cX7_reply 47 = .ok (.lload_n 2, 1) := by decide +kernel
theorem dX7_reply_48 : decode cX7_reply 48 = .ok (.lload 4, 2) := by decide +kernel
theorem dX7_reply_50 : decode cX7_reply 50 = .ok (.invokestatic 81, 3) := by decide +kernel
theorem dX7_reply_53 : decode cX7_reply 53 = .ok (.if_icmp .eq 5, 3) := by decide +kernel
theorem dX7_reply_56 : decode cX7_reply 56 = .ok (.iconst 0, 1) := by decide +kernel
theorem dX7_reply_57 : decode cX7_reply 57 = .ok (.ireturn, 1) := by decide +kernel
theorem dX7_reply_58 : decode cX7_reply 58 = .ok (.aload_n 0, 1) := by decide +kernel
theorem dX7_reply_59 : decode cX7_reply 59 = .ok (.getfield 29, 3) := by decide +kernel
theorem dX7_reply_62 : decode cX7_reply 62 = .ok (.iload_n 1, 1) := by decide +kernel
theorem dX7_reply_63 : decode cX7_reply 63 = .ok (.iaload, 1) := by decide +kernel
theorem dX7_reply_64 : decode cX7_reply 64 = .ok (.bipush 8, 2) := by decide +kernel
theorem dX7_reply_66 : decode cX7_reply 66 = .ok (.irem, 1) := by decide +kernel
theorem dX7_reply_67 : decode cX7_reply 67 = .ok (.istore 6, 2) := by decide +kernel
theorem dX7_reply_69 : decode cX7_reply 69 = .ok (.iconst 0, 1) := by decide +kernel
theorem dX7_reply_70 : decode cX7_reply 70 = .ok (.istore 7, 2) := by decide +kernel
theorem dX7_reply_72 : decode cX7_reply 72 = .ok (.iload 7, 2) := by decide +kernel
theorem dX7_reply_74 : decode cX7_reply 74 = .ok (.bipush 6, 2) := by decide +kernel
theorem dX7_reply_76 : decode cX7_reply 76 = .ok (.if_icmp .ge 35, 3) := by decide +kernel
theorem dX7_reply_79 : decode cX7_reply 79 = .ok (.aload_n 0, 1) := by decide +kernel
theorem dX7_reply_80 : decode cX7_reply 80 = .ok (.getfield 20, 3) := by decide +kernel
theorem dX7_reply_83 : decode cX7_reply 83 = .ok (.bipush 6, 2) := by decide +kernel
theorem dX7_reply_85 : decode cX7_reply 85 = .ok (.bipush 8, 2) := by decide +kernel
theorem dX7_reply_87 : decode cX7_reply 87 = .ok (.iload_n 1, 1) := by decide +kernel
theorem dX7_reply_88 : decode cX7_reply 88 = .ok (.imul, 1) := by decide +kernel
theorem dX7_reply_89 : decode cX7_reply 89 = .ok (.iload 6, 2) := by decide +kernel
theorem dX7_reply_91 : decode cX7_reply 91 = .ok (.iadd, 1) := by decide +kernel
theorem dX7_reply_92 : decode cX7_reply 92 = .ok (.imul, 1) := by decide +kernel
theorem dX7_reply_93 : decode cX7_reply 93 = .ok (.iload 7, 2) := by decide +kernel
theorem dX7_reply_95 : decode cX7_reply 95 = .ok (.iadd, 1) := by decide +kernel
theorem dX7_reply_96 : decode cX7_reply 96 = .ok (.lload_n 2, 1) := by decide +kernel
theorem dX7_reply_97 : decode cX7_reply 97 = .ok (.lload 4, 2) := by decide +kernel
theorem dX7_reply_99 : decode cX7_reply 99 = .ok (.iload 7, 2) := by decide +kernel
theorem dX7_reply_101 : decode cX7_reply 101 = .ok (.invokestatic 89, 3) := by decide +kernel
theorem dX7_reply_104 : decode cX7_reply 104 = .ok (.iastore, 1) := by decide +kernel
theorem dX7_reply_105 : decode cX7_reply 105 = .ok (.iinc 7 1, 3) := by decide +kernel
theorem dX7_reply_108 : decode cX7_reply 108 = .ok (.goto (-36), 3) := by decide +kernel
theorem dX7_reply_111 : decode cX7_reply 111 = .ok (.aload_n 0, 1) := by decide +kernel
theorem dX7_reply_112 : decode cX7_reply 112 = .ok (.getfield 23, 3) := by decide +kernel
theorem dX7_reply_115 : decode cX7_reply 115 = .ok (.bipush 8, 2) := by decide +kernel
theorem dX7_reply_117 : decode cX7_reply 117 = .ok (.iload_n 1, 1) := by decide +kernel
theorem dX7_reply_118 : decode cX7_reply 118 = .ok (.imul, 1) := by decide +kernel
theorem dX7_reply_119 : decode cX7_reply 119 = .ok (.iload 6, 2) := by decide +kernel
theorem dX7_reply_121 : decode cX7_reply 121 = .ok (.iadd, 1) := by decide +kernel
theorem dX7_reply_122 : decode cX7_reply 122 = .ok (.aload_n 0, 1) := by decide +kernel
theorem dX7_reply_123 : decode cX7_reply 123 = .ok (.getfield 92, 3) := by decide +kernel
theorem dX7_reply_126 : decode cX7_reply 126 = .ok (.lastore, 1) := by decide +kernel
theorem dX7_reply_127 : decode cX7_reply 127 = .ok (.aload_n 0, 1) := by decide +kernel
theorem dX7_reply_128 : decode cX7_reply 128 = .ok (.getfield 26, 3) := by decide +kernel
theorem dX7_reply_131 : decode cX7_reply 131 = .ok (.iload_n 1, 1) := by decide +kernel
theorem dX7_reply_132 : decode cX7_reply 132 = .ok (.lload_n 2, 1) := by decide +kernel
theorem dX7_reply_133 : decode cX7_reply 133 = .ok (.lload 4, 2) := by decide +kernel
theorem dX7_reply_135 : decode cX7_reply 135 = .ok (.bipush 6, 2) := by decide +kernel
theorem dX7_reply_137 : decode cX7_reply 137 = .ok (.invokestatic 89, 3) := by decide +kernel
theorem dX7_reply_140 : decode cX7_reply 140 = .ok (.iastore, 1) := by decide +kernel
theorem dX7_reply_141 : decode cX7_reply 141 = .ok (.aload_n 0, 1) := by decide +kernel
theorem dX7_reply_142 : decode cX7_reply 142 = .ok (.getfield 29, 3) := by decide +kernel
theorem dX7_reply_145 : decode cX7_reply 145 = .ok (.iload_n 1, 1) := by decide +kernel
theorem dX7_reply_146 : decode cX7_reply 146 = .ok (.dup2, 1) := by decide +kernel
theorem dX7_reply_147 : decode cX7_reply 147 = .ok (.iaload, 1) := by decide +kernel
theorem dX7_reply_148 : decode cX7_reply 148 = .ok (.iconst 1, 1) := by decide +kernel
theorem dX7_reply_149 : decode cX7_reply 149 = .ok (.iadd, 1) := by decide +kernel
theorem dX7_reply_150 : decode cX7_reply 150 = .ok (.iastore, 1) := by decide +kernel
theorem dX7_reply_151 : decode cX7_reply 151 = .ok (.aload_n 0, 1) := by decide +kernel
theorem dX7_reply_152 : decode cX7_reply 152 = .ok (.getfield 32, 3) := by decide +kernel
theorem dX7_reply_155 : decode cX7_reply 155 = .ok (.iload_n 1, 1) := by decide +kernel
theorem dX7_reply_156 : decode cX7_reply 156 = .ok (.iconst 0, 1) := by decide +kernel
theorem dX7_reply_157 : decode cX7_reply 157 = .ok (.iastore, 1) := by decide +kernel
theorem dX7_reply_158 : decode cX7_reply 158 = .ok (.iconst 1, 1) := by decide +kernel
theorem dX7_reply_159 : decode cX7_reply 159 = .ok (.ireturn, 1) := by decide +kernel
theorem dX7_current_0 : decode cX7_current 0 = .ok (.aload_n 0, 1) := by decide +kernel
theorem dX7_current_1 : decode cX7_current 1 = .ok (.dload_n 1, 1) := by decide +kernel
theorem dX7_current_2 : decode cX7_current 2 = .ok (.ldc2_w 95, 3) := by decide +kernel
theorem dX7_current_5 : decode cX7_current 5 = .ok (.dcmp .l, 1) := by decide +kernel
theorem dX7_current_6 : decode cX7_current 6 = .ok (.ifCond .lt 11, 3) := by decide +kernel
theorem dX7_current_9 : decode cX7_current 9 = .ok (.dload_n 1, 1) := by decide +kernel
theorem dX7_current_10 : decode cX7_current 10 = .ok (.ldc2_w 97, 3) := by decide +kernel
theorem dX7_current_13 : decode cX7_current 13 = .ok (.dcmp .g, 1) := by decide +kernel
theorem dX7_current_14 : decode cX7_current 14 = .ok (.ifCond .le 7, 3) := by decide +kernel
theorem dX7_current_17 : decode cX7_current 17 = .ok (.iconst 1, 1) := by decide +kernel
theorem dX7_current_18 : decode cX7_current 18 = .ok (.goto 15, 3) := by decide +kernel
theorem dX7_current_21 : decode cX7_current 21 = .ok (.aload_n 0, 1) := by decide +kernel
theorem dX7_current_22 : decode cX7_current 22 = .ok (.getfield 85, 3) := by decide +kernel
theorem dX7_current_25 : decode cX7_current 25 = .ok (.ifCond .eq 7, 3) := by decide +kernel
theorem dX7_current_28 : decode cX7_current 28 = .ok (.iconst 2, 1) := by decide +kernel
theorem dX7_current_29 : decode cX7_current 29 = .ok (.goto 4, 3) := by decide +kernel
theorem dX7_current_32 : decode cX7_current 32 = .ok (.iconst 0, 1) := by decide +kernel
theorem dX7_current_33 : decode cX7_current 33 = .ok (.putfield 70, 3) := by decide +kernel
theorem dX7_current_36 : decode cX7_current 36 = .ok (.aload_n 0, 1) := by decide +kernel
theorem dX7_current_37 : decode cX7_current 37 = .ok (.aload_n 0, 1) := by decide +kernel
theorem dX7_current_38 : decode cX7_current 38 = .ok (.getfield 70, 3) := by decide +kernel
theorem dX7_current_41 : decode cX7_current 41 = .ok (.ifCond .le 10, 3) := by decide +kernel
theorem dX7_current_44 : decode cX7_current 44 = .ok (.aload_n 0, 1) := by decide +kernel
theorem dX7_current_45 : decode cX7_current 45 = .ok (.getfield 92, 3) := by decide +kernel
theorem dX7_current_48 : decode cX7_current 48 = .ok (.goto 9, 3) := by decide +kernel
theorem dX7_current_51 : decode cX7_current 51 = .ok (.dload_n 1, 1) := by decide +kernel
theorem dX7_current_52 : decode cX7_current 52 = .ok (.ldc2_w 99, 3) := by decide +kernel
theorem dX7_current_55 : decode cX7_current 55 = .ok (.dmul, 1) := by decide +kernel
theorem dX7_current_56 : decode cX7_current 56 = .ok (.d2l, 1) := by decide +kernel
theorem dX7_current_57 : decode cX7_current 57 = .ok (.putfield 92, 3) := by decide +kernel
theorem dX7_current_60 : decode cX7_current 60 = .ok (.return_, 1) := by decide +kernel
theorem dX7_warm_0 : decode cX7_warm 0 = .ok (.aload_n 0, 1) := by decide +kernel
theorem dX7_warm_1 : decode cX7_warm 1 = .ok (.iload_n 1, 1) := by decide +kernel
theorem dX7_warm_2 : decode cX7_warm 2 = .ok (.ifCond .lt 11, 3) := by decide +kernel
theorem dX7_warm_5 : decode cX7_warm 5 = .ok (.iload_n 1, 1) := by decide +kernel
theorem dX7_warm_6 : decode cX7_warm 6 = .ok (.aload_n 0, 1) := by decide +kernel
theorem dX7_warm_7 : decode cX7_warm 7 = .ok (.getfield 49, 3) := by decide +kernel
theorem dX7_warm_10 : decode cX7_warm 10 = .ok (.if_icmp .lt 7, 3) := by decide +kernel
theorem dX7_warm_13 : decode cX7_warm 13 = .ok (.iconst 1, 1) := by decide +kernel
theorem dX7_warm_14 : decode cX7_warm 14 = .ok (.goto 35, 3) := by decide +kernel
theorem dX7_warm_17 : decode cX7_warm 17 = .ok (.dload_n 2, 1) := by decide +kernel
theorem dX7_warm_18 : decode cX7_warm 18 = .ok (.ldc2_w 101, 3) := by decide +kernel
theorem dX7_warm_21 : decode cX7_warm 21 = .ok (.dcmp .l, 1) := by decide +kernel
theorem dX7_warm_22 : decode cX7_warm 22 = .ok (.ifCond .lt 11, 3) := by decide +kernel
theorem dX7_warm_25 : decode cX7_warm 25 = .ok (.dload_n 2, 1) := by decide +kernel
theorem dX7_warm_26 : decode cX7_warm 26 = .ok (.ldc2_w 103, 3) := by decide +kernel
theorem dX7_warm_29 : decode cX7_warm 29 = .ok (.dcmp .g, 1) := by decide +kernel
theorem dX7_warm_30 : decode cX7_warm 30 = .ok (.ifCond .le 7, 3) := by decide +kernel
theorem dX7_warm_33 : decode cX7_warm 33 = .ok (.iconst 2, 1) := by decide +kernel
theorem dX7_warm_34 : decode cX7_warm 34 = .ok (.goto 15, 3) := by decide +kernel
theorem dX7_warm_37 : decode cX7_warm 37 = .ok (.aload_n 0, 1) := by decide +kernel
theorem dX7_warm_38 : decode cX7_warm 38 = .ok (.getfield 85, 3) := by decide +kernel
theorem dX7_warm_41 : decode cX7_warm 41 = .ok (.ifCond .eq 7, 3) := by decide +kernel
theorem dX7_warm_44 : decode cX7_warm 44 = .ok (.iconst 3, 1) := by decide +kernel
theorem dX7_warm_45 : decode cX7_warm 45 = .ok (.goto 4, 3) := by decide +kernel
theorem dX7_warm_48 : decode cX7_warm 48 = .ok (.iconst 0, 1) := by decide +kernel
theorem dX7_warm_49 : decode cX7_warm 49 = .ok (.putfield 70, 3) := by decide +kernel
theorem dX7_warm_52 : decode cX7_warm 52 = .ok (.aload_n 0, 1) := by decide +kernel
theorem dX7_warm_53 : decode cX7_warm 53 = .ok (.getfield 70, 3) := by decide +kernel
theorem dX7_warm_56 : decode cX7_warm 56 = .ok (.ifCond .ne 15, 3) := by decide +kernel
theorem dX7_warm_59 : decode cX7_warm 59 = .ok (.aload_n 0, 1) := by decide +kernel
theorem dX7_warm_60 : decode cX7_warm 60 = .ok (.getfield 16, 3) := by decide +kernel
theorem dX7_warm_63 : decode cX7_warm 63 = .ok (.iload_n 1, 1) := by decide +kernel
theorem dX7_warm_64 : decode cX7_warm 64 = .ok (.dload_n 2, 1) := by decide +kernel
theorem dX7_warm_65 : decode cX7_warm 65 = .ok (.ldc2_w 99, 3) := by decide +kernel
theorem dX7_warm_68 : decode cX7_warm 68 = .ok (.dmul, 1) := by decide +kernel
theorem dX7_warm_69 : decode cX7_warm 69 = .ok (.d2l, 1) := by decide +kernel
theorem dX7_warm_70 : decode cX7_warm 70 = .ok (.lastore, 1) := by decide +kernel
theorem dX7_warm_71 : decode cX7_warm 71 = .ok (.return_, 1) := by decide +kernel
theorem dX7_bus_0 : decode cX7_bus 0 = .ok (.aload_n 0, 1) := by decide +kernel
theorem dX7_bus_1 : decode cX7_bus 1 = .ok (.iload_n 1, 1) := by decide +kernel
theorem dX7_bus_2 : decode cX7_bus 2 = .ok (.ifCond .lt 9, 3) := by decide +kernel
theorem dX7_bus_5 : decode cX7_bus 5 = .ok (.iload_n 1, 1) := by decide +kernel
theorem dX7_bus_6 : decode cX7_bus 6 = .ok (.ldc 105, 2) := by decide +kernel
theorem dX7_bus_8 : decode cX7_bus 8 = .ok (.if_icmp .le 7, 3) := by decide +kernel
theorem dX7_bus_11 : decode cX7_bus 11 = .ok (.iconst 1, 1) := by decide +kernel
theorem dX7_bus_12 : decode cX7_bus 12 = .ok (.goto 15, 3) := by decide +kernel
theorem dX7_bus_15 : decode cX7_bus 15 = .ok (.aload_n 0, 1) := by decide +kernel
theorem dX7_bus_16 : decode cX7_bus 16 = .ok (.getfield 85, 3) := by decide +kernel
theorem dX7_bus_19 : decode cX7_bus 19 = .ok (.ifCond .eq 7, 3) := by decide +kernel
theorem dX7_bus_22 : decode cX7_bus 22 = .ok (.iconst 2, 1) := by decide +kernel
theorem dX7_bus_23 : decode cX7_bus 23 = .ok (.goto 4, 3) := by decide +kernel
theorem dX7_bus_26 : decode cX7_bus 26 = .ok (.iconst 0, 1) := by decide +kernel
theorem dX7_bus_27 : decode cX7_bus 27 = .ok (.putfield 70, 3) := by decide +kernel
theorem dX7_bus_30 : decode cX7_bus 30 = .ok (.aload_n 0, 1) := by decide +kernel
theorem dX7_bus_31 : decode cX7_bus 31 = .ok (.aload_n 0, 1) := by decide +kernel
theorem dX7_bus_32 : decode cX7_bus 32 = .ok (.getfield 70, 3) := by decide +kernel
theorem dX7_bus_35 : decode cX7_bus 35 = .ok (.ifCond .le 10, 3) := by decide +kernel
theorem dX7_bus_38 : decode cX7_bus 38 = .ok (.aload_n 0, 1) := by decide +kernel
theorem dX7_bus_39 : decode cX7_bus 39 = .ok (.getfield 106, 3) := by decide +kernel
theorem dX7_bus_42 : decode cX7_bus 42 = .ok (.goto 4, 3) := by decide +kernel
theorem dX7_bus_45 : decode cX7_bus 45 = .ok (.iload_n 1, 1) := by decide +kernel
theorem dX7_bus_46 : decode cX7_bus 46 = .ok (.putfield 106, 3) := by decide +kernel
theorem dX7_bus_49 : decode cX7_bus 49 = .ok (.return_, 1) := by decide +kernel
theorem dX7_want_0 : decode cX7_want 0 = .ok (.aload_n 0, 1) := by decide +kernel
theorem dX7_want_1 : decode cX7_want 1 = .ok (.aload_n 0, 1) := by decide +kernel
theorem dX7_want_2 : decode cX7_want 2 = .ok (.getfield 85, 3) := by decide +kernel
theorem dX7_want_5 : decode cX7_want 5 = .ok (.ifCond .eq 7, 3) := by decide +kernel
theorem dX7_want_8 : decode cX7_want 8 = .ok (.iconst 1, 1) := by decide +kernel
theorem dX7_want_9 : decode cX7_want 9 = .ok (.goto 4, 3) := by decide +kernel
theorem dX7_want_12 : decode cX7_want 12 = .ok (.iconst 0, 1) := by decide +kernel
theorem dX7_want_13 : decode cX7_want 13 = .ok (.putfield 70, 3) := by decide +kernel
theorem dX7_want_16 : decode cX7_want 16 = .ok (.aload_n 0, 1) := by decide +kernel
theorem dX7_want_17 : decode cX7_want 17 = .ok (.aload_n 0, 1) := by decide +kernel
theorem dX7_want_18 : decode cX7_want 18 = .ok (.getfield 70, 3) := by decide +kernel
theorem dX7_want_21 : decode cX7_want 21 = .ok (.ifCond .le 10, 3) := by decide +kernel
theorem dX7_want_24 : decode cX7_want 24 = .ok (.aload_n 0, 1) := by decide +kernel
theorem dX7_want_25 : decode cX7_want 25 = .ok (.getfield 109, 3) := by decide +kernel
theorem dX7_want_28 : decode cX7_want 28 = .ok (.goto 4, 3) := by decide +kernel
theorem dX7_want_31 : decode cX7_want 31 = .ok (.iload_n 1, 1) := by decide +kernel
theorem dX7_want_32 : decode cX7_want 32 = .ok (.putfield 109, 3) := by decide +kernel
theorem dX7_want_35 : decode cX7_want 35 = .ok (.return_, 1) := by decide +kernel
theorem dX7_set_0 : decode cX7_set 0 = .ok (.aload_n 0, 1) := by decide +kernel
theorem dX7_set_1 : decode cX7_set 1 = .ok (.dload_n 1, 1) := by decide +kernel
theorem dX7_set_2 : decode cX7_set 2 = .ok (.dconst 0, 1) := by decide +kernel
theorem dX7_set_3 : decode cX7_set 3 = .ok (.dcmp .l, 1) := by decide +kernel
theorem dX7_set_4 : decode cX7_set 4 = .ok (.ifCond .lt 13, 3) := by decide +kernel
theorem dX7_set_7 : decode cX7_set 7 = .ok (.dload_n 1, 1) := by decide +kernel
theorem dX7_set_8 : decode cX7_set 8 = .ok (.aload_n 0, 1) := by decide +kernel
theorem dX7_set_9 : decode cX7_set 9 = .ok (.getfield 57, 3) := by decide +kernel
theorem dX7_set_12 : decode cX7_set 12 = .ok (.l2d, 1) := by decide +kernel
theorem dX7_set_13 : decode cX7_set 13 = .ok (.dcmp .g, 1) := by decide +kernel
theorem dX7_set_14 : decode cX7_set 14 = .ok (.ifCond .le 7, 3) := by decide +kernel
theorem dX7_set_17 : decode cX7_set 17 = .ok (.iconst 1, 1) := by decide +kernel
theorem dX7_set_18 : decode cX7_set 18 = .ok (.goto 15, 3) := by decide +kernel
theorem dX7_set_21 : decode cX7_set 21 = .ok (.aload_n 0, 1) := by decide +kernel
theorem dX7_set_22 : decode cX7_set 22 = .ok (.getfield 85, 3) := by decide +kernel
theorem dX7_set_25 : decode cX7_set 25 = .ok (.ifCond .eq 7, 3) := by decide +kernel
theorem dX7_set_28 : decode cX7_set 28 = .ok (.iconst 2, 1) := by decide +kernel
theorem dX7_set_29 : decode cX7_set 29 = .ok (.goto 4, 3) := by decide +kernel
theorem dX7_set_32 : decode cX7_set 32 = .ok (.iconst 0, 1) := by decide +kernel
theorem dX7_set_33 : decode cX7_set 33 = .ok (.putfield 70, 3) := by decide +kernel
theorem dX7_set_36 : decode cX7_set 36 = .ok (.aload_n 0, 1) := by decide +kernel
theorem dX7_set_37 : decode cX7_set 37 = .ok (.aload_n 0, 1) := by decide +kernel
theorem dX7_set_38 : decode cX7_set 38 = .ok (.getfield 70, 3) := by decide +kernel
theorem dX7_set_41 : decode cX7_set 41 = .ok (.ifCond .le 10, 3) := by decide +kernel
theorem dX7_set_44 : decode cX7_set 44 = .ok (.aload_n 0, 1) := by decide +kernel
theorem dX7_set_45 : decode cX7_set 45 = .ok (.getfield 112, 3) := by decide +kernel
theorem dX7_set_48 : decode cX7_set 48 = .ok (.goto 9, 3) := by decide +kernel
theorem dX7_set_51 : decode cX7_set 51 = .ok (.dload_n 1, 1) := by decide +kernel
theorem dX7_set_52 : decode cX7_set 52 = .ok (.ldc2_w 115, 3) := by decide +kernel
theorem dX7_set_55 : decode cX7_set 55 = .ok (.dmul, 1) := by decide +kernel
theorem dX7_set_56 : decode cX7_set 56 = .ok (.d2l, 1) := by decide +kernel
theorem dX7_set_57 : decode cX7_set 57 = .ok (.putfield 112, 3) := by decide +kernel
theorem dX7_set_60 : decode cX7_set 60 = .ok (.return_, 1) := by decide +kernel
theorem dX7_isStale_0 : decode cX7_isStale 0 = .ok (.aload_n 0, 1) := by decide +kernel
theorem dX7_isStale_1 : decode cX7_isStale 1 = .ok (.getfield 29, 3) := by decide +kernel
theorem dX7_isStale_4 : decode cX7_isStale 4 = .ok (.iload_n 1, 1) := by decide +kernel
theorem dX7_isStale_5 : decode cX7_isStale 5 = .ok (.iaload, 1) := by decide +kernel
theorem dX7_isStale_6 : decode cX7_isStale 6 = .ok (.ifCond .eq 14, 3) := by decide +kernel
theorem dX7_isStale_9 : decode cX7_isStale 9 = .ok (.aload_n 0, 1) := by decide +kernel
theorem dX7_isStale_10 : decode cX7_isStale 10 = .ok (.getfield 32, 3) := by decide +kernel
theorem dX7_isStale_13 : decode cX7_isStale 13 = .ok (.iload_n 1, 1) := by decide +kernel
theorem dX7_isStale_14 : decode cX7_isStale 14 = .ok (.iaload, 1) := by decide +kernel
theorem dX7_isStale_15 : decode cX7_isStale 15 = .ok (.bipush 10, 2) := by decide +kernel
theorem dX7_isStale_17 : decode cX7_isStale 17 = .ok (.if_icmp .le 7, 3) := by decide +kernel
theorem dX7_isStale_20 : decode cX7_isStale 20 = .ok (.iconst 1, 1) := by decide +kernel
theorem dX7_isStale_21 : decode cX7_isStale 21 = .ok (.goto 4, 3) := by decide +kernel
theorem dX7_isStale_24 : decode cX7_isStale 24 = .ok (.iconst 0, 1) := by decide +kernel
theorem dX7_isStale_25 : decode cX7_isStale 25 = .ok (.ireturn, 1) := by decide +kernel
theorem dX7_numberOf_0 : decode cX7_numberOf 0 = .ok (.aload_n 0, 1) := by decide +kernel
theorem dX7_numberOf_1 : decode cX7_numberOf 1 = .ok (.getfield 29, 3) := by decide +kernel
theorem dX7_numberOf_4 : decode cX7_numberOf 4 = .ok (.iload_n 1, 1) := by decide +kernel
theorem dX7_numberOf_5 : decode cX7_numberOf 5 = .ok (.iaload, 1) := by decide +kernel
theorem dX7_numberOf_6 : decode cX7_numberOf 6 = .ok (.iconst 1, 1) := by decide +kernel
theorem dX7_numberOf_7 : decode cX7_numberOf 7 = .ok (.isub, 1) := by decide +kernel
theorem dX7_numberOf_8 : decode cX7_numberOf 8 = .ok (.iload_n 3, 1) := by decide +kernel
theorem dX7_numberOf_9 : decode cX7_numberOf 9 = .ok (.isub, 1) := by decide +kernel
theorem dX7_numberOf_10 : decode cX7_numberOf 10 = .ok (.bipush 8, 2) := by decide +kernel
theorem dX7_numberOf_12 : decode cX7_numberOf 12 = .ok (.irem, 1) := by decide +kernel
theorem dX7_numberOf_13 : decode cX7_numberOf 13 = .ok (.istore 4, 2) := by decide +kernel
theorem dX7_numberOf_15 : decode cX7_numberOf 15 = .ok (.aload_n 0, 1) := by decide +kernel
theorem dX7_numberOf_16 : decode cX7_numberOf 16 = .ok (.getfield 20, 3) := by decide +kernel
theorem dX7_numberOf_19 : decode cX7_numberOf 19 = .ok (.bipush 6, 2) := by decide +kernel
theorem dX7_numberOf_21 : decode cX7_numberOf 21 = .ok (.bipush 8, 2) := by decide +kernel
theorem dX7_numberOf_23 : decode cX7_numberOf 23 = .ok (.iload_n 1, 1) := by decide +kernel
theorem dX7_numberOf_24 : decode cX7_numberOf 24 = .ok (.imul, 1) := by decide +kernel
theorem dX7_numberOf_25 : decode cX7_numberOf 25 = .ok (.iload 4, 2) := by decide +kernel
theorem dX7_numberOf_27 : decode cX7_numberOf 27 = .ok (.iadd, 1) := by decide +kernel
theorem dX7_numberOf_28 : decode cX7_numberOf 28 = .ok (.imul, 1) := by decide +kernel
theorem dX7_numberOf_29 : decode cX7_numberOf 29 = .ok (.iload_n 2, 1) := by decide +kernel
theorem dX7_numberOf_30 : decode cX7_numberOf 30 = .ok (.iadd, 1) := by decide +kernel
theorem dX7_numberOf_31 : decode cX7_numberOf 31 = .ok (.iaload, 1) := by decide +kernel
theorem dX7_numberOf_32 : decode cX7_numberOf 32 = .ok (.ireturn, 1) := by decide +kernel
set_option maxRecDepth 20000 in
theorem ggX7_isStuck_X7_numberOf : GoodIn wsX7_isStuck wsX7_numberOf := goodIn_r _ [8, 1, 9, 10, 11, 12, 13, 14, 15, 16, 17, 18, 19, 20, 21, 22, 23, 24, 25, 26, 27, 28, 29, 30, 31, 32, 33, 34, 35, 36, 37, 38, 39, 40, 41] (by decide +kernel) (by decide +kernel)
set_option maxRecDepth 20000 in
theorem gX7_isStuck_X7_numberOf : GoodIn wsX7_isStuck (wsV RX7 117 RX7 yX7_numberOf wsX7_numberOf) := goodIn_app (goodIn_of _ (by decide +kernel)) ggX7_isStuck_X7_numberOf
theorem dX7_isStuck_0 : decode cX7_isStuck 0 = .ok (.aload_n 0, 1) := by decide +kernel
theorem dX7_isStuck_1 : decode cX7_isStuck 1 = .ok (.getfield 29, 3) := by decide +kernel
theorem dX7_isStuck_4 : decode cX7_isStuck 4 = .ok (.iload_n 1, 1) := by decide +kernel
theorem dX7_isStuck_5 : decode cX7_isStuck 5 = .ok (.iaload, 1) := by decide +kernel
theorem dX7_isStuck_6 : decode cX7_isStuck 6 = .ok (.bipush 8, 2) := by decide +kernel
theorem dX7_isStuck_8 : decode cX7_isStuck 8 = .ok (.if_icmp .ge 5, 3) := by decide +kernel
theorem dX7_isStuck_11 : decode cX7_isStuck 11 = .ok (.iconst 0, 1) := by decide +kernel
theorem dX7_isStuck_12 : decode cX7_isStuck 12 = .ok (.ireturn, 1) := by decide +kernel
theorem dX7_isStuck_13 : decode cX7_isStuck 13 = .ok (.iconst 1, 1) := by decide +kernel
theorem dX7_isStuck_14 : decode cX7_isStuck 14 = .ok (.istore_n 3, 1) := by decide +kernel
theorem dX7_isStuck_15 : decode cX7_isStuck 15 = .ok (.aload_n 0, 1) := by decide +kernel
theorem dX7_isStuck_16 : decode cX7_isStuck 16 = .ok (.getfield 23, 3) := by decide +kernel
theorem dX7_isStuck_19 : decode cX7_isStuck 19 = .ok (.bipush 8, 2) := by decide +kernel
theorem dX7_isStuck_21 : decode cX7_isStuck 21 = .ok (.iload_n 1, 1) := by decide +kernel
theorem dX7_isStuck_22 : decode cX7_isStuck 22 = .ok (.imul, 1) := by decide +kernel
theorem dX7_isStuck_23 : decode cX7_isStuck 23 = .ok (.laload, 1) := by decide +kernel
theorem dX7_isStuck_24 : decode cX7_isStuck 24 = .ok (.lstore 4, 2) := by decide +kernel
theorem dX7_isStuck_26 : decode cX7_isStuck 26 = .ok (.lload 4, 2) := by decide +kernel
theorem dX7_isStuck_28 : decode cX7_isStuck 28 = .ok (.lstore 6, 2) := by decide +kernel
theorem dX7_isStuck_30 : decode cX7_isStuck 30 = .ok (.iconst 0, 1) := by decide +kernel
theorem dX7_isStuck_31 : decode cX7_isStuck 31 = .ok (.istore 8, 2) := by decide +kernel
theorem dX7_isStuck_33 : decode cX7_isStuck 33 = .ok (.iload 8, 2) := by decide +kernel
theorem dX7_isStuck_35 : decode cX7_isStuck 35 = .ok (.bipush 8, 2) := by decide +kernel
theorem dX7_isStuck_37 : decode cX7_isStuck 37 = .ok (.if_icmp .ge 85, 3) := by decide +kernel
theorem dX7_isStuck_40 : decode cX7_isStuck 40 = .ok (.iload_n 3, 1) := by decide +kernel
theorem dX7_isStuck_41 : decode cX7_isStuck 41 = .ok (.ifCond .eq 25, 3) := by decide +kernel
theorem dX7_isStuck_44 : decode cX7_isStuck 44 = .ok (.aload_n 0, 1) := by decide +kernel
theorem dX7_isStuck_45 : decode cX7_isStuck 45 = .ok (.iload_n 1, 1) := by decide +kernel
theorem dX7_isStuck_46 : decode cX7_isStuck 46 = .ok (.iload_n 2, 1) := by decide +kernel
theorem dX7_isStuck_47 : decode cX7_isStuck 47 = .ok (.iload 8, 2) := by decide +kernel
theorem dX7_isStuck_49 : decode cX7_isStuck 49 = .ok (.invokevirtual 117, 3) := by decide +kernel
theorem dX7_isStuck_52 : decode cX7_isStuck 52 = .ok (.aload_n 0, 1) := by decide +kernel
theorem dX7_isStuck_53 : decode cX7_isStuck 53 = .ok (.iload_n 1, 1) := by decide +kernel
theorem dX7_isStuck_54 : decode cX7_isStuck 54 = .ok (.iload_n 2, 1) := by decide +kernel
theorem dX7_isStuck_55 : decode cX7_isStuck 55 = .ok (.iconst 0, 1) := by decide +kernel
theorem dX7_isStuck_56 : decode cX7_isStuck 56 = .ok (.invokevirtual 117, 3) := by decide +kernel
theorem dX7_isStuck_59 : decode cX7_isStuck 59 = .ok (.if_icmp .ne 7, 3) := by decide +kernel
theorem dX7_isStuck_62 : decode cX7_isStuck 62 = .ok (.iconst 1, 1) := by decide +kernel
theorem dX7_isStuck_63 : decode cX7_isStuck 63 = .ok (.goto 4, 3) := by decide +kernel
theorem dX7_isStuck_66 : decode cX7_isStuck 66 = .ok (.iconst 0, 1) := by decide +kernel
theorem dX7_isStuck_67 : decode cX7_isStuck 67 = .ok (.istore_n 3, 1) := by decide +kernel
theorem dX7_isStuck_68 : decode cX7_isStuck 68 = .ok (.aload_n 0, 1) := by decide +kernel
theorem dX7_isStuck_69 : decode cX7_isStuck 69 = .ok (.getfield 23, 3) := by decide +kernel
theorem dX7_isStuck_72 : decode cX7_isStuck 72 = .ok (.bipush 8, 2) := by decide +kernel
theorem dX7_isStuck_74 : decode cX7_isStuck 74 = .ok (.iload_n 1, 1) := by decide +kernel
theorem dX7_isStuck_75 : decode cX7_isStuck 75 = .ok (.imul, 1) := by decide +kernel
theorem dX7_isStuck_76 : decode cX7_isStuck 76 = .ok (.iload 8, 2) := by decide +kernel
theorem dX7_isStuck_78 : decode cX7_isStuck 78 = .ok (.iadd, 1) := by decide +kernel
theorem dX7_isStuck_79 : decode cX7_isStuck 79 = .ok (.laload, 1) := by decide +kernel
theorem dX7_isStuck_80 : decode cX7_isStuck 80 = .ok (.lstore 9, 2) := by decide +kernel
theorem dX7_isStuck_82 : decode cX7_isStuck 82 = .ok (.lload 9, 2) := by decide +kernel
theorem dX7_isStuck_84 : decode cX7_isStuck 84 = .ok (.lload 4, 2) := by decide +kernel
theorem dX7_isStuck_86 : decode cX7_isStuck 86 = .ok (.lcmp, 1) := by decide +kernel
theorem dX7_isStuck_87 : decode cX7_isStuck 87 = .ok (.ifCond .ge 8, 3) := by decide +kernel
theorem dX7_isStuck_90 : decode cX7_isStuck 90 = .ok (.lload 9, 2) := by decide +kernel
theorem dX7_isStuck_92 : decode cX7_isStuck 92 = .ok (.goto 5, 3) := by decide +kernel
theorem dX7_isStuck_95 : decode cX7_isStuck 95 = .ok (.lload 4, 2) := by decide +kernel
theorem dX7_isStuck_97 : decode cX7_isStuck 97 = .ok (.lstore 4, 2) := by decide +kernel
theorem dX7_isStuck_99 : decode cX7_isStuck 99 = .ok (.lload 9, 2) := by decide +kernel
theorem dX7_isStuck_101 : decode cX7_isStuck 101 = .ok (.lload 6, 2) := by decide +kernel
theorem dX7_isStuck_103 : decode cX7_isStuck 103 = .ok (.lcmp, 1) := by decide +kernel
theorem dX7_isStuck_104 : decode cX7_isStuck 104 = .ok (.ifCond .le 8, 3) := by decide +kernel
theorem dX7_isStuck_107 : decode cX7_isStuck 107 = .ok (.lload 9, 2) := by decide +kernel
theorem dX7_isStuck_109 : decode cX7_isStuck 109 = .ok (.goto 5, 3) := by decide +kernel
theorem dX7_isStuck_112 : decode cX7_isStuck 112 = .ok (.lload 6, 2) := by decide +kernel
theorem dX7_isStuck_114 : decode cX7_isStuck 114 = .ok (.lstore 6, 2) := by decide +kernel
theorem dX7_isStuck_116 : decode cX7_isStuck 116 = .ok (.iinc 8 1, 3) := by decide +kernel
theorem dX7_isStuck_119 : decode cX7_isStuck 119 = .ok (.goto (-86), 3) := by decide +kernel
theorem dX7_isStuck_122 : decode cX7_isStuck 122 = .ok (.iload_n 3, 1) := by decide +kernel
theorem dX7_isStuck_123 : decode cX7_isStuck 123 = .ok (.ifCond .eq 19, 3) := by decide +kernel
theorem dX7_isStuck_126 : decode cX7_isStuck 126 = .ok (.lload 6, 2) := by decide +kernel
theorem dX7_isStuck_128 : decode cX7_isStuck 128 = .ok (.lload 4, 2) := by decide +kernel
theorem dX7_isStuck_130 : decode cX7_isStuck 130 = .ok (.lsub, 1) := by decide +kernel
theorem dX7_isStuck_131 : decode cX7_isStuck 131 = .ok (.ldc2_w 120, 3) := by decide +kernel
theorem dX7_isStuck_134 : decode cX7_isStuck 134 = .ok (.lcmp, 1) := by decide +kernel
theorem dX7_isStuck_135 : decode cX7_isStuck 135 = .ok (.ifCond .le 7, 3) := by decide +kernel
theorem dX7_isStuck_138 : decode cX7_isStuck 138 = .ok (.iconst 1, 1) := by decide +kernel
theorem dX7_isStuck_139 : decode cX7_isStuck 139 = .ok (.goto 4, 3) := by decide +kernel
theorem dX7_isStuck_142 : decode cX7_isStuck 142 = .ok (.iconst 0, 1) := by decide +kernel
theorem dX7_isStuck_143 : decode cX7_isStuck 143 = .ok (.ireturn, 1) := by decide +kernel
set_option maxRecDepth 20000 in
theorem ggX7_isValid_X7_isStale : GoodIn wsX7_isValid wsX7_isStale := goodIn_r _ [6, 7, 8, 20, 21, 22, 23, 24, 25, 26, 27, 28, 29, 30, 31, 32, 33, 34, 35, 36, 37, 38, 39, 40, 41, 42, 43, 44, 45, 46, 47, 48, 49, 50, 51] (by decide +kernel) (by decide +kernel)
set_option maxRecDepth 20000 in
theorem gX7_isValid_X7_isStale : GoodIn wsX7_isValid (wsV RX7 122 RX7 yX7_isStale wsX7_isStale) := goodIn_app (goodIn_of _ (by decide +kernel)) ggX7_isValid_X7_isStale
set_option maxRecDepth 20000 in
theorem ggX7_isValid_X7_numberOf : GoodIn wsX7_isValid wsX7_numberOf := goodIn_r _ [12, 7, 13, 20, 21, 22, 23, 24, 25, 26, 27, 28, 29, 30, 31, 32, 33, 34, 35, 36, 37, 38, 39, 40, 41, 42, 43, 44, 45, 46, 47, 48, 49, 50, 51] (by decide +kernel) (by decide +kernel)
set_option maxRecDepth 20000 in
theorem gX7_isValid_X7_numberOf : GoodIn wsX7_isValid (wsV RX7 117 RX7 yX7_numberOf wsX7_numberOf) := goodIn_app (goodIn_of _ (by decide +kernel)) ggX7_isValid_X7_numberOf
set_option maxRecDepth 20000 in
theorem ggX7_isValid_X7_isStuck : GoodIn wsX7_isValid wsX7_isStuck := goodIn_r _ [17, 7, 18, 19, 9, 10, 11, 5, 12, 13, 20, 21, 22, 23, 24, 25, 26, 27, 28, 29, 30, 31, 32, 33, 34, 35, 36, 37, 38, 39, 40, 41, 42, 43, 44, 45, 46, 47, 48, 49, 50, 51] (by decide +kernel) (by decide +kernel)
set_option maxRecDepth 20000 in
theorem gX7_isValid_X7_isStuck : GoodIn wsX7_isValid (wsV RX7 126 RX7 yX7_isStuck wsX7_isStuck) := goodIn_app (goodIn_of _ (by decide +kernel)) ggX7_isValid_X7_isStuck
theorem dX7_isValid_0 : decode cX7_isValid 0 = .ok (.aload_n 0, 1) := by decide +kernel
theorem dX7_isValid_1 : decode cX7_isValid 1 = .ok (.iload_n 1, 1) := by decide +kernel
theorem dX7_isValid_2 : decode cX7_isValid 2 = .ok (.invokevirtual 122, 3) := by decide +kernel
theorem dX7_isValid_5 : decode cX7_isValid 5 = .ok (.ifCond .eq 5, 3) := by decide +kernel
theorem dX7_isValid_8 : decode cX7_isValid 8 = .ok (.iconst 0, 1) := by decide +kernel
theorem dX7_isValid_9 : decode cX7_isValid 9 = .ok (.ireturn, 1) := by decide +kernel
theorem dX7_isValid_10 : decode cX7_isValid 10 = .ok (.aload_n 0, 1) := by decide +kernel
theorem dX7_isValid_11 : decode cX7_isValid 11 = .ok (.iload_n 1, 1) := by decide +kernel
theorem dX7_isValid_12 : decode cX7_isValid 12 = .ok (.iload_n 2, 1) := by decide +kernel
theorem dX7_isValid_13 : decode cX7_isValid 13 = .ok (.iconst 0, 1) := by decide +kernel
theorem dX7_isValid_14 : decode cX7_isValid 14 = .ok (.invokevirtual 117, 3) := by decide +kernel
theorem dX7_isValid_17 : decode cX7_isValid 17 = .ok (.istore_n 3, 1) := by decide +kernel
theorem dX7_isValid_18 : decode cX7_isValid 18 = .ok (.iload_n 3, 1) := by decide +kernel
theorem dX7_isValid_19 : decode cX7_isValid 19 = .ok (.sipush 500, 3) := by decide +kernel
theorem dX7_isValid_22 : decode cX7_isValid 22 = .ok (.if_icmp .lt 36, 3) := by decide +kernel
theorem dX7_isValid_25 : decode cX7_isValid 25 = .ok (.iload_n 3, 1) := by decide +kernel
theorem dX7_isValid_26 : decode cX7_isValid 26 = .ok (.sipush 4999, 3) := by decide +kernel
theorem dX7_isValid_29 : decode cX7_isValid 29 = .ok (.if_icmp .gt 29, 3) := by decide +kernel
theorem dX7_isValid_32 : decode cX7_isValid 32 = .ok (.aload_n 0, 1) := by decide +kernel
theorem dX7_isValid_33 : decode cX7_isValid 33 = .ok (.getfield 26, 3) := by decide +kernel
theorem dX7_isValid_36 : decode cX7_isValid 36 = .ok (.iload_n 1, 1) := by decide +kernel
theorem dX7_isValid_37 : decode cX7_isValid 37 = .ok (.iaload, 1) := by decide +kernel
theorem dX7_isValid_38 : decode cX7_isValid 38 = .ok (.iload_n 2, 1) := by decide +kernel
theorem dX7_isValid_39 : decode cX7_isValid 39 = .ok (.ishr, 1) := by decide +kernel
theorem dX7_isValid_40 : decode cX7_isValid 40 = .ok (.iconst 1, 1) := by decide +kernel
theorem dX7_isValid_41 : decode cX7_isValid 41 = .ok (.iand, 1) := by decide +kernel
theorem dX7_isValid_42 : decode cX7_isValid 42 = .ok (.ifCond .ne 16, 3) := by decide +kernel
theorem dX7_isValid_45 : decode cX7_isValid 45 = .ok (.aload_n 0, 1) := by decide +kernel
theorem dX7_isValid_46 : decode cX7_isValid 46 = .ok (.iload_n 1, 1) := by decide +kernel
theorem dX7_isValid_47 : decode cX7_isValid 47 = .ok (.iload_n 2, 1) := by decide +kernel
theorem dX7_isValid_48 : decode cX7_isValid 48 = .ok (.invokevirtual 126, 3) := by decide +kernel
theorem dX7_isValid_51 : decode cX7_isValid 51 = .ok (.ifCond .ne 7, 3) := by decide +kernel
theorem dX7_isValid_54 : decode cX7_isValid 54 = .ok (.iconst 1, 1) := by decide +kernel
theorem dX7_isValid_55 : decode cX7_isValid 55 = .ok (.goto 4, 3) := by decide +kernel
theorem dX7_isValid_58 : decode cX7_isValid 58 = .ok (.iconst 0, 1) := by decide +kernel
theorem dX7_isValid_59 : decode cX7_isValid 59 = .ok (.ireturn, 1) := by decide +kernel
set_option maxRecDepth 20000 in
theorem ggX7_areAllValid_X7_isValid : GoodIn wsX7_areAllValid wsX7_isValid := goodIn_r _ [6, 7, 8, 9, 10, 5, 11, 12, 13, 14, 15, 16, 17, 18, 19, 20, 21, 22, 23, 24, 25, 26, 27, 28, 29, 30, 31, 32, 33, 34, 35, 36, 37, 38, 39, 40, 41, 42, 43, 44, 45, 46, 47, 48, 49, 50, 51, 52, 53, 54, 55, 56] (by decide +kernel) (by decide +kernel)
set_option maxRecDepth 20000 in
theorem gX7_areAllValid_X7_isValid : GoodIn wsX7_areAllValid (wsV RX7 130 RX7 yX7_isValid wsX7_isValid) := goodIn_app (goodIn_of _ (by decide +kernel)) ggX7_areAllValid_X7_isValid
theorem dX7_areAllValid_0 : decode cX7_areAllValid 0 = .ok (.iconst 1, 1) := by decide +kernel
theorem dX7_areAllValid_1 : decode cX7_areAllValid 1 = .ok (.istore_n 1, 1) := by decide +kernel
theorem dX7_areAllValid_2 : decode cX7_areAllValid 2 = .ok (.iconst 0, 1) := by decide +kernel
theorem dX7_areAllValid_3 : decode cX7_areAllValid 3 = .ok (.istore_n 2, 1) := by decide +kernel
theorem dX7_areAllValid_4 : decode cX7_areAllValid 4 = .ok (.iload_n 2, 1) := by decide +kernel
theorem dX7_areAllValid_5 : decode cX7_areAllValid 5 = .ok (.bipush 6, 2) := by decide +kernel
theorem dX7_areAllValid_7 : decode cX7_areAllValid 7 = .ok (.aload_n 0, 1) := by decide +kernel
theorem dX7_areAllValid_8 : decode cX7_areAllValid 8 = .ok (.getfield 49, 3) := by decide +kernel
theorem dX7_areAllValid_11 : decode cX7_areAllValid 11 = .ok (.imul, 1) := by decide +kernel
theorem dX7_areAllValid_12 : decode cX7_areAllValid 12 = .ok (.if_icmp .ge 34, 3) := by decide +kernel
theorem dX7_areAllValid_15 : decode cX7_areAllValid 15 = .ok (.iload_n 1, 1) := by decide +kernel
theorem dX7_areAllValid_16 : decode cX7_areAllValid 16 = .ok (.ifCond .eq 22, 3) := by decide +kernel
theorem dX7_areAllValid_19 : decode cX7_areAllValid 19 = .ok (.aload_n 0, 1) := by decide +kernel
theorem dX7_areAllValid_20 : decode cX7_areAllValid 20 = .ok (.iload_n 2, 1) := by decide +kernel
theorem dX7_areAllValid_21 : decode cX7_areAllValid 21 = .ok (.bipush 6, 2) := by decide +kernel
theorem dX7_areAllValid_23 : decode cX7_areAllValid 23 = .ok (.idiv, 1) := by decide +kernel
theorem dX7_areAllValid_24 : decode cX7_areAllValid 24 = .ok (.iload_n 2, 1) := by decide +kernel
theorem dX7_areAllValid_25 : decode cX7_areAllValid 25 = .ok (.bipush 6, 2) := by decide +kernel
theorem dX7_areAllValid_27 : decode cX7_areAllValid 27 = .ok (.irem, 1) := by decide +kernel
theorem dX7_areAllValid_28 : decode cX7_areAllValid 28 = .ok (.invokevirtual 130, 3) := by decide +kernel
theorem dX7_areAllValid_31 : decode cX7_areAllValid 31 = .ok (.ifCond .eq 7, 3) := by decide +kernel
theorem dX7_areAllValid_34 : decode cX7_areAllValid 34 = .ok (.iconst 1, 1) := by decide +kernel
theorem dX7_areAllValid_35 : decode cX7_areAllValid 35 = .ok (.goto 4, 3) := by decide +kernel
theorem dX7_areAllValid_38 : decode cX7_areAllValid 38 = .ok (.iconst 0, 1) := by decide +kernel
theorem dX7_areAllValid_39 : decode cX7_areAllValid 39 = .ok (.istore_n 1, 1) := by decide +kernel
theorem dX7_areAllValid_40 : decode cX7_areAllValid 40 = .ok (.iinc 2 1, 3) := by decide +kernel
theorem dX7_areAllValid_43 : decode cX7_areAllValid 43 = .ok (.goto (-39), 3) := by decide +kernel
theorem dX7_areAllValid_46 : decode cX7_areAllValid 46 = .ok (.iload_n 1, 1) := by decide +kernel
theorem dX7_areAllValid_47 : decode cX7_areAllValid 47 = .ok (.ireturn, 1) := by decide +kernel
set_option maxRecDepth 20000 in
theorem ggX7_sum_X7_isValid : GoodIn wsX7_sum wsX7_isValid := goodIn_r _ [6, 7, 8, 9, 10, 5, 11, 12, 13, 14, 15, 16, 17, 18, 19, 20, 21, 22, 23, 24, 25, 26, 27, 28, 29, 30, 31, 32, 33, 34, 35, 36, 37, 38, 39, 40, 41, 42, 43, 44, 45, 46, 47, 48, 49, 50, 51, 52, 53, 54, 55, 56] (by decide +kernel) (by decide +kernel)
set_option maxRecDepth 20000 in
theorem gX7_sum_X7_isValid : GoodIn wsX7_sum (wsV RX7 130 RX7 yX7_isValid wsX7_isValid) := goodIn_app (goodIn_of _ (by decide +kernel)) ggX7_sum_X7_isValid
set_option maxRecDepth 20000 in
theorem ggX7_sum_X7_numberOf : GoodIn wsX7_sum wsX7_numberOf := goodIn_r _ [17, 12, 18, 25, 26, 27, 28, 29, 30, 31, 32, 33, 34, 35, 36, 37, 38, 39, 40, 41, 42, 43, 44, 45, 46, 47, 48, 49, 50, 51, 52, 53, 54, 55, 56] (by decide +kernel) (by decide +kernel)
set_option maxRecDepth 20000 in
theorem gX7_sum_X7_numberOf : GoodIn wsX7_sum (wsV RX7 117 RX7 yX7_numberOf wsX7_numberOf) := goodIn_app (goodIn_of _ (by decide +kernel)) ggX7_sum_X7_numberOf
theorem dX7_sum_0 : decode cX7_sum 0 = .ok (.iconst 0, 1) := by decide +kernel
theorem dX7_sum_1 : decode cX7_sum 1 = .ok (.istore_n 1, 1) := by decide +kernel
theorem dX7_sum_2 : decode cX7_sum 2 = .ok (.iconst 0, 1) := by decide +kernel
theorem dX7_sum_3 : decode cX7_sum 3 = .ok (.istore_n 2, 1) := by decide +kernel
theorem dX7_sum_4 : decode cX7_sum 4 = .ok (.iload_n 2, 1) := by decide +kernel
theorem dX7_sum_5 : decode cX7_sum 5 = .ok (.bipush 6, 2) := by decide +kernel
theorem dX7_sum_7 : decode cX7_sum 7 = .ok (.aload_n 0, 1) := by decide +kernel
theorem dX7_sum_8 : decode cX7_sum 8 = .ok (.getfield 49, 3) := by decide +kernel
theorem dX7_sum_11 : decode cX7_sum 11 = .ok (.imul, 1) := by decide +kernel
theorem dX7_sum_12 : decode cX7_sum 12 = .ok (.if_icmp .ge 44, 3) := by decide +kernel
theorem dX7_sum_15 : decode cX7_sum 15 = .ok (.aload_n 0, 1) := by decide +kernel
theorem dX7_sum_16 : decode cX7_sum 16 = .ok (.iload_n 2, 1) := by decide +kernel
theorem dX7_sum_17 : decode cX7_sum 17 = .ok (.bipush 6, 2) := by decide +kernel
theorem dX7_sum_19 : decode cX7_sum 19 = .ok (.idiv, 1) := by decide +kernel
theorem dX7_sum_20 : decode cX7_sum 20 = .ok (.iload_n 2, 1) := by decide +kernel
theorem dX7_sum_21 : decode cX7_sum 21 = .ok (.bipush 6, 2) := by decide +kernel
theorem dX7_sum_23 : decode cX7_sum 23 = .ok (.irem, 1) := by decide +kernel
theorem dX7_sum_24 : decode cX7_sum 24 = .ok (.invokevirtual 130, 3) := by decide +kernel
theorem dX7_sum_27 : decode cX7_sum 27 = .ok (.ifCond .eq 21, 3) := by decide +kernel
theorem dX7_sum_30 : decode cX7_sum 30 = .ok (.iload_n 1, 1) := by decide +kernel
theorem dX7_sum_31 : decode cX7_sum 31 = .ok (.aload_n 0, 1) := by decide +kernel
theorem dX7_sum_32 : decode cX7_sum 32 = .ok (.iload_n 2, 1) := by decide +kernel
theorem dX7_sum_33 : decode cX7_sum 33 = .ok (.bipush 6, 2) := by decide +kernel
theorem dX7_sum_35 : decode cX7_sum 35 = .ok (.idiv, 1) := by decide +kernel
theorem dX7_sum_36 : decode cX7_sum 36 = .ok (.iload_n 2, 1) := by decide +kernel
theorem dX7_sum_37 : decode cX7_sum 37 = .ok (.bipush 6, 2) := by decide +kernel
theorem dX7_sum_39 : decode cX7_sum 39 = .ok (.irem, 1) := by decide +kernel
theorem dX7_sum_40 : decode cX7_sum 40 = .ok (.iconst 0, 1) := by decide +kernel
theorem dX7_sum_41 : decode cX7_sum 41 = .ok (.invokevirtual 117, 3) := by decide +kernel
theorem dX7_sum_44 : decode cX7_sum 44 = .ok (.iadd, 1) := by decide +kernel
theorem dX7_sum_45 : decode cX7_sum 45 = .ok (.goto 4, 3) := by decide +kernel
theorem dX7_sum_48 : decode cX7_sum 48 = .ok (.iload_n 1, 1) := by decide +kernel
theorem dX7_sum_49 : decode cX7_sum 49 = .ok (.istore_n 1, 1) := by decide +kernel
theorem dX7_sum_50 : decode cX7_sum 50 = .ok (.iinc 2 1, 3) := by decide +kernel
theorem dX7_sum_53 : decode cX7_sum 53 = .ok (.goto (-49), 3) := by decide +kernel
theorem dX7_sum_56 : decode cX7_sum 56 = .ok (.iload_n 1, 1) := by decide +kernel
theorem dX7_sum_57 : decode cX7_sum 57 = .ok (.ireturn, 1) := by decide +kernel
theorem dX7_knot_0 : decode cX7_knot 0 = .ok (.iload_n 0, 1) := by decide +kernel
theorem dX7_knot_1 : decode cX7_knot 1 = .ok (.ifCond .ne 9, 3) := by decide +kernel
theorem dX7_knot_4 : decode cX7_knot 4 = .ok (.sipush 3000, 3) := by decide +kernel
theorem dX7_knot_7 : decode cX7_knot 7 = .ok (.goto 61, 3) := by decide +kernel
theorem dX7_knot_10 : decode cX7_knot 10 = .ok (.iload_n 0, 1) := by decide +kernel
theorem dX7_knot_11 : decode cX7_knot 11 = .ok (.iconst 1, 1) := by decide +kernel
theorem dX7_knot_12 : decode cX7_knot 12 = .ok (.if_icmp .ne 9, 3) := by decide +kernel
theorem dX7_knot_15 : decode cX7_knot 15 = .ok (.sipush 3300, 3) := by decide +kernel
theorem dX7_knot_18 : decode cX7_knot 18 = .ok (.goto 50, 3) := by decide +kernel
theorem dX7_knot_21 : decode cX7_knot 21 = .ok (.iload_n 0, 1) := by decide +kernel
theorem dX7_knot_22 : decode cX7_knot 22 = .ok (.iconst 2, 1) := by decide +kernel
theorem dX7_knot_23 : decode cX7_knot 23 = .ok (.if_icmp .ne 9, 3) := by decide +kernel
theorem dX7_knot_26 : decode cX7_knot 26 = .ok (.sipush 3500, 3) := by decide +kernel
theorem dX7_knot_29 : decode cX7_knot 29 = .ok (.goto 39, 3) := by decide +kernel
theorem dX7_knot_32 : decode cX7_knot 32 = .ok (.iload_n 0, 1) := by decide +kernel
theorem dX7_knot_33 : decode cX7_knot 33 = .ok (.iconst 3, 1) := by decide +kernel
theorem dX7_knot_34 : decode cX7_knot 34 = .ok (.if_icmp .ne 9, 3) := by decide +kernel
theorem dX7_knot_37 : decode cX7_knot 37 = .ok (.sipush 3650, 3) := by decide +kernel
theorem dX7_knot_40 : decode cX7_knot 40 = .ok (.goto 28, 3) := by decide +kernel
theorem dX7_knot_43 : decode cX7_knot 43 = .ok (.iload_n 0, 1) := by decide +kernel
theorem dX7_knot_44 : decode cX7_knot 44 = .ok (.iconst 4, 1) := by decide +kernel
theorem dX7_knot_45 : decode cX7_knot 45 = .ok (.if_icmp .ne 9, 3) := by decide +kernel
theorem dX7_knot_48 : decode cX7_knot 48 = .ok (.sipush 3800, 3) := by decide +kernel
theorem dX7_knot_51 : decode cX7_knot 51 = .ok (.goto 17, 3) := by decide +kernel
theorem dX7_knot_54 : decode cX7_knot 54 = .ok (.iload_n 0, 1) := by decide +kernel
theorem dX7_knot_55 : decode cX7_knot 55 = .ok (.iconst 5, 1) := by decide +kernel
theorem dX7_knot_56 : decode cX7_knot 56 = .ok (.if_icmp .ne 9, 3) := by decide +kernel
theorem dX7_knot_59 : decode cX7_knot 59 = .ok (.sipush 4000, 3) := by decide +kernel
theorem dX7_knot_62 : decode cX7_knot 62 = .ok (.goto 6, 3) := by decide +kernel
theorem dX7_knot_65 : decode cX7_knot 65 = .ok (.sipush 4150, 3) := by decide +kernel
theorem dX7_knot_68 : decode cX7_knot 68 = .ok (.ireturn, 1) := by decide +kernel
theorem dX7_share_0 : decode cX7_share 0 = .ok (.iload_n 0, 1) := by decide +kernel
theorem dX7_share_1 : decode cX7_share 1 = .ok (.ifCond .ne 7, 3) := by decide +kernel
theorem dX7_share_4 : decode cX7_share 4 = .ok (.iconst 0, 1) := by decide +kernel
theorem dX7_share_5 : decode cX7_share 5 = .ok (.goto 60, 3) := by decide +kernel
theorem dX7_share_8 : decode cX7_share 8 = .ok (.iload_n 0, 1) := by decide +kernel
theorem dX7_share_9 : decode cX7_share 9 = .ok (.iconst 1, 1) := by decide +kernel
theorem dX7_share_10 : decode cX7_share 10 = .ok (.if_icmp .ne 8, 3) := by decide +kernel
theorem dX7_share_13 : decode cX7_share 13 = .ok (.bipush 102, 2) := by decide +kernel
theorem dX7_share_15 : decode cX7_share 15 = .ok (.goto 50, 3) := by decide +kernel
theorem dX7_share_18 : decode cX7_share 18 = .ok (.iload_n 0, 1) := by decide +kernel
theorem dX7_share_19 : decode cX7_share 19 = .ok (.iconst 2, 1) := by decide +kernel
theorem dX7_share_20 : decode cX7_share 20 = .ok (.if_icmp .ne 9, 3) := by decide +kernel
theorem dX7_share_23 : decode cX7_share 23 = .ok (.sipush 256, 3) := by decide +kernel
theorem dX7_share_26 : decode cX7_share 26 = .ok (.goto 39, 3) := by decide +kernel
theorem dX7_share_29 : decode cX7_share 29 = .ok (.iload_n 0, 1) := by decide +kernel
theorem dX7_share_30 : decode cX7_share 30 = .ok (.iconst 3, 1) := by decide +kernel
theorem dX7_share_31 : decode cX7_share 31 = .ok (.if_icmp .ne 9, 3) := by decide +kernel
theorem dX7_share_34 : decode cX7_share 34 = .ok (.sipush 512, 3) := by decide +kernel
theorem dX7_share_37 : decode cX7_share 37 = .ok (.goto 28, 3) := by decide +kernel
theorem dX7_share_40 : decode cX7_share 40 = .ok (.iload_n 0, 1) := by decide +kernel
theorem dX7_share_41 : decode cX7_share 41 = .ok (.iconst 4, 1) := by decide +kernel
theorem dX7_share_42 : decode cX7_share 42 = .ok (.if_icmp .ne 9, 3) := by decide +kernel
theorem dX7_share_45 : decode cX7_share 45 = .ok (.sipush 717, 3) := by decide +kernel
theorem dX7_share_48 : decode cX7_share 48 = .ok (.goto 17, 3) := by decide +kernel
theorem dX7_share_51 : decode cX7_share 51 = .ok (.iload_n 0, 1) := by decide +kernel
theorem dX7_share_52 : decode cX7_share 52 = .ok (.iconst 5, 1) := by decide +kernel
theorem dX7_share_53 : decode cX7_share 53 = .ok (.if_icmp .ne 9, 3) := by decide +kernel
theorem dX7_share_56 : decode cX7_share 56 = .ok (.sipush 922, 3) := by decide +kernel
theorem dX7_share_59 : decode cX7_share 59 = .ok (.goto 6, 3) := by decide +kernel
theorem dX7_share_62 : decode cX7_share 62 = .ok (.sipush 1024, 3) := by decide +kernel
theorem dX7_share_65 : decode cX7_share 65 = .ok (.ireturn, 1) := by decide +kernel
set_option maxRecDepth 20000 in
theorem ggX7_told_X7_knot : GoodIn wsX7_told wsX7_knot := goodIn_r _ [4] (by decide +kernel) (by decide +kernel)
set_option maxRecDepth 20000 in
theorem gX7_told_X7_knot : GoodIn wsX7_told (va_wsS RX7 133 yX7_knot wsX7_knot) := goodIn_app (goodIn_of _ (by decide +kernel)) ggX7_told_X7_knot
set_option maxRecDepth 20000 in
theorem ggX7_told_X7_share : GoodIn wsX7_told wsX7_share := goodIn_r _ [7] (by decide +kernel) (by decide +kernel)
set_option maxRecDepth 20000 in
theorem gX7_told_X7_share : GoodIn wsX7_told (va_wsS RX7 137 yX7_share wsX7_share) := goodIn_app (goodIn_of _ (by decide +kernel)) ggX7_told_X7_share
theorem dX7_told_0 : decode cX7_told 0 = .ok (.iload_n 0, 1) := by decide +kernel
theorem dX7_told_1 : decode cX7_told 1 = .ok (.sipush 3000, 3) := by decide +kernel
theorem dX7_told_4 : decode cX7_told 4 = .ok (.if_icmp .gt 5, 3) := by decide +kernel
theorem dX7_told_7 : decode cX7_told 7 = .ok (.iconst 0, 1) := by decide +kernel
theorem dX7_told_8 : decode cX7_told 8 = .ok (.ireturn, 1) := by decide +kernel
theorem dX7_told_9 : decode cX7_told 9 = .ok (.iload_n 0, 1) := by decide +kernel
theorem dX7_told_10 : decode cX7_told 10 = .ok (.sipush 4150, 3) := by decide +kernel
theorem dX7_told_13 : decode cX7_told 13 = .ok (.if_icmp .lt 7, 3) := by decide +kernel
theorem dX7_told_16 : decode cX7_told 16 = .ok (.sipush 1024, 3) := by decide +kernel
theorem dX7_told_19 : decode cX7_told 19 = .ok (.ireturn, 1) := by decide +kernel
theorem dX7_told_20 : decode cX7_told 20 = .ok (.iconst 0, 1) := by decide +kernel
theorem dX7_told_21 : decode cX7_told 21 = .ok (.istore_n 1, 1) := by decide +kernel
theorem dX7_told_22 : decode cX7_told 22 = .ok (.iload_n 0, 1) := by decide +kernel
theorem dX7_told_23 : decode cX7_told 23 = .ok (.iload_n 1, 1) := by decide +kernel
theorem dX7_told_24 : decode cX7_told 24 = .ok (.iconst 1, 1) := by decide +kernel
theorem dX7_told_25 : decode cX7_told 25 = .ok (.iadd, 1) := by decide +kernel
theorem dX7_told_26 : decode cX7_told 26 = .ok (.invokestatic 133, 3) := by decide +kernel
theorem dX7_told_29 : decode cX7_told 29 = .ok (.if_icmp .le 9, 3) := by decide +kernel
theorem dX7_told_32 : decode cX7_told 32 = .ok (.iinc 1 1, 3) := by decide +kernel
theorem dX7_told_35 : decode cX7_told 35 = .ok (.goto (-13), 3) := by decide +kernel
theorem dX7_told_38 : decode cX7_told 38 = .ok (.iload_n 1, 1) := by decide +kernel
theorem dX7_told_39 : decode cX7_told 39 = .ok (.invokestatic 137, 3) := by decide +kernel
theorem dX7_told_42 : decode cX7_told 42 = .ok (.iload_n 1, 1) := by decide +kernel
theorem dX7_told_43 : decode cX7_told 43 = .ok (.iconst 1, 1) := by decide +kernel
theorem dX7_told_44 : decode cX7_told 44 = .ok (.iadd, 1) := by decide +kernel
theorem dX7_told_45 : decode cX7_told 45 = .ok (.invokestatic 137, 3) := by decide +kernel
theorem dX7_told_48 : decode cX7_told 48 = .ok (.iload_n 1, 1) := by decide +kernel
theorem dX7_told_49 : decode cX7_told 49 = .ok (.invokestatic 137, 3) := by decide +kernel
theorem dX7_told_52 : decode cX7_told 52 = .ok (.isub, 1) := by decide +kernel
theorem dX7_told_53 : decode cX7_told 53 = .ok (.iload_n 0, 1) := by decide +kernel
theorem dX7_told_54 : decode cX7_told 54 = .ok (.iload_n 1, 1) := by decide +kernel
theorem dX7_told_55 : decode cX7_told 55 = .ok (.invokestatic 133, 3) := by decide +kernel
theorem dX7_told_58 : decode cX7_told 58 = .ok (.isub, 1) := by decide +kernel
theorem dX7_told_59 : decode cX7_told 59 = .ok (.imul, 1) := by decide +kernel
theorem dX7_told_60 : decode cX7_told 60 = .ok (.iload_n 1, 1) := by decide +kernel
theorem dX7_told_61 : decode cX7_told 61 = .ok (.iconst 1, 1) := by decide +kernel
theorem dX7_told_62 : decode cX7_told 62 = .ok (.iadd, 1) := by decide +kernel
theorem dX7_told_63 : decode cX7_told 63 = .ok (.invokestatic 133, 3) := by decide +kernel
theorem dX7_told_66 : decode cX7_told 66 = .ok (.iload_n 1, 1) := by decide +kernel
theorem dX7_told_67 : decode cX7_told 67 = .ok (.invokestatic 133, 3) := by decide +kernel
theorem dX7_told_70 : decode cX7_told 70 = .ok (.isub, 1) := by decide +kernel
theorem dX7_told_71 : decode cX7_told 71 = .ok (.idiv, 1) := by decide +kernel
theorem dX7_told_72 : decode cX7_told 72 = .ok (.iadd, 1) := by decide +kernel
theorem dX7_told_73 : decode cX7_told 73 = .ok (.ireturn, 1) := by decide +kernel
theorem dX7_sizeOf_0 : decode cX7_sizeOf 0 = .ok (.lload_n 0, 1) := by decide +kernel
theorem dX7_sizeOf_1 : decode cX7_sizeOf 1 = .ok (.lconst 0, 1) := by decide +kernel
theorem dX7_sizeOf_2 : decode cX7_sizeOf 2 = .ok (.lcmp, 1) := by decide +kernel
theorem dX7_sizeOf_3 : decode cX7_sizeOf 3 = .ok (.ifCond .ge 8, 3) := by decide +kernel
theorem dX7_sizeOf_6 : decode cX7_sizeOf 6 = .ok (.lload_n 0, 1) := by decide +kernel
theorem dX7_sizeOf_7 : decode cX7_sizeOf 7 = .ok (.lneg, 1) := by decide +kernel
theorem dX7_sizeOf_8 : decode cX7_sizeOf 8 = .ok (.goto 4, 3) := by decide +kernel
theorem dX7_sizeOf_11 : decode cX7_sizeOf 11 = .ok (.lload_n 0, 1) := by decide +kernel
theorem dX7_sizeOf_12 : decode cX7_sizeOf 12 = .ok (.lreturn, 1) := by decide +kernel
set_option maxRecDepth 20000 in
theorem ggX7_countCharge_X7_sizeOf : GoodIn wsX7_countCharge wsX7_sizeOf := goodIn_r _ [15] (by decide +kernel) (by decide +kernel)
set_option maxRecDepth 20000 in
theorem gX7_countCharge_X7_sizeOf : GoodIn wsX7_countCharge (va_wsS RX7 147 yX7_sizeOf wsX7_sizeOf) := goodIn_app (goodIn_of _ (by decide +kernel)) ggX7_countCharge_X7_sizeOf
set_option maxRecDepth 20000 in
theorem ggX7_countCharge_X7_areAllValid : GoodIn wsX7_countCharge wsX7_areAllValid := goodIn_r _ [19, 11, 20, 21, 22, 14, 23, 24, 25, 26, 27, 28, 29, 30, 31, 32, 33, 34, 35, 36, 37, 38, 39, 40, 41, 55, 56, 57, 58, 59, 60, 61, 62, 63, 64, 65, 66, 67, 68, 69, 70, 71, 72, 73, 74, 75, 76, 77, 78, 79, 80, 81, 82, 83, 84, 85, 86] (by decide +kernel) (by decide +kernel)
set_option maxRecDepth 20000 in
theorem gX7_countCharge_X7_areAllValid : GoodIn wsX7_countCharge (wsV RX7 158 RX7 yX7_areAllValid wsX7_areAllValid) := goodIn_app (goodIn_of _ (by decide +kernel)) ggX7_countCharge_X7_areAllValid
set_option maxRecDepth 20000 in
theorem ggX7_countCharge_X7_sum : GoodIn wsX7_countCharge wsX7_sum := goodIn_r _ [45, 11, 20, 21, 22, 14, 23, 24, 25, 26, 27, 28, 29, 30, 31, 32, 33, 34, 35, 36, 37, 38, 39, 40, 41, 55, 56, 57, 58, 59, 60, 61, 62, 63, 64, 65, 66, 67, 68, 69, 70, 71, 72, 73, 74, 75, 76, 77, 78, 79, 80, 81, 82, 83, 84, 85, 86] (by decide +kernel) (by decide +kernel)
set_option maxRecDepth 20000 in
theorem gX7_countCharge_X7_sum : GoodIn wsX7_countCharge (wsV RX7 164 RX7 yX7_sum wsX7_sum) := goodIn_app (goodIn_of _ (by decide +kernel)) ggX7_countCharge_X7_sum
set_option maxRecDepth 20000 in
theorem ggX7_countCharge_X7_told : GoodIn wsX7_countCharge wsX7_told := goodIn_r _ [48, 49, 50, 14, 51, 52, 53, 54] (by decide +kernel) (by decide +kernel)
set_option maxRecDepth 20000 in
theorem gX7_countCharge_X7_told : GoodIn wsX7_countCharge (va_wsS RX7 168 yX7_told wsX7_told) := goodIn_app (goodIn_of _ (by decide +kernel)) ggX7_countCharge_X7_told
theorem dX7_countCharge_0 : decode cX7_countCharge 0 = .ok (.ldc2_w 140, 3) := by decide +kernel
theorem dX7_countCharge_3 : decode cX7_countCharge 3 = .ok (.aload_n 0, 1) := by decide +kernel
theorem dX7_countCharge_4 : decode cX7_countCharge 4 = .ok (.getfield 57, 3) := by decide +kernel
theorem dX7_countCharge_7 : decode cX7_countCharge 7 = .ok (.lmul, 1) := by decide +kernel
theorem dX7_countCharge_8 : decode cX7_countCharge 8 = .ok (.lstore_n 1, 1) := by decide +kernel
theorem dX7_countCharge_9 : decode cX7_countCharge 9 = .ok (.aload_n 0, 1) := by decide +kernel
theorem dX7_countCharge_10 : decode cX7_countCharge 10 = .ok (.aload_n 0, 1) := by decide +kernel
theorem dX7_countCharge_11 : decode cX7_countCharge 11 = .ok (.getfield 112, 3) := by decide +kernel
theorem dX7_countCharge_14 : decode cX7_countCharge 14 = .ok (.ldc2_w 142, 3) := by decide +kernel
theorem dX7_countCharge_17 : decode cX7_countCharge 17 = .ok (.aload_n 0, 1) := by decide +kernel
theorem dX7_countCharge_18 : decode cX7_countCharge 18 = .ok (.getfield 92, 3) := by decide +kernel
theorem dX7_countCharge_21 : decode cX7_countCharge 21 = .ok (.lmul, 1) := by decide +kernel
theorem dX7_countCharge_22 : decode cX7_countCharge 22 = .ok (.lsub, 1) := by decide +kernel
theorem dX7_countCharge_23 : decode cX7_countCharge 23 = .ok (.putfield 112, 3) := by decide +kernel
theorem dX7_countCharge_26 : decode cX7_countCharge 26 = .ok (.aload_n 0, 1) := by decide +kernel
theorem dX7_countCharge_27 : decode cX7_countCharge 27 = .ok (.aload_n 0, 1) := by decide +kernel
theorem dX7_countCharge_28 : decode cX7_countCharge 28 = .ok (.getfield 112, 3) := by decide +kernel
theorem dX7_countCharge_31 : decode cX7_countCharge 31 = .ok (.lconst 0, 1) := by decide +kernel
theorem dX7_countCharge_32 : decode cX7_countCharge 32 = .ok (.lcmp, 1) := by decide +kernel
theorem dX7_countCharge_33 : decode cX7_countCharge 33 = .ok (.ifCond .ge 7, 3) := by decide +kernel
theorem dX7_countCharge_36 : decode cX7_countCharge 36 = .ok (.lconst 0, 1) := by decide +kernel
theorem dX7_countCharge_37 : decode cX7_countCharge 37 = .ok (.goto 20, 3) := by decide +kernel
theorem dX7_countCharge_40 : decode cX7_countCharge 40 = .ok (.aload_n 0, 1) := by decide +kernel
theorem dX7_countCharge_41 : decode cX7_countCharge 41 = .ok (.getfield 112, 3) := by decide +kernel
theorem dX7_countCharge_44 : decode cX7_countCharge 44 = .ok (.lload_n 1, 1) := by decide +kernel
theorem dX7_countCharge_45 : decode cX7_countCharge 45 = .ok (.lcmp, 1) := by decide +kernel
theorem dX7_countCharge_46 : decode cX7_countCharge 46 = .ok (.ifCond .le 7, 3) := by decide +kernel
theorem dX7_countCharge_49 : decode cX7_countCharge 49 = .ok (.lload_n 1, 1) := by decide +kernel
theorem dX7_countCharge_50 : decode cX7_countCharge 50 = .ok (.goto 7, 3) := by decide +kernel
theorem dX7_countCharge_53 : decode cX7_countCharge 53 = .ok (.aload_n 0, 1) := by decide +kernel
theorem dX7_countCharge_54 : decode cX7_countCharge 54 = .ok (.getfield 112, 3) := by decide +kernel
theorem dX7_countCharge_57 : decode cX7_countCharge 57 = .ok (.putfield 112, 3) := by decide +kernel
theorem dX7_countCharge_60 : decode cX7_countCharge 60 = .ok (.aload_n 0, 1) := by decide +kernel
theorem dX7_countCharge_61 : decode cX7_countCharge 61 = .ok (.aload_n 0, 1) := by decide +kernel
theorem dX7_countCharge_62 : decode cX7_countCharge 62 = .ok (.getfield 144, 3) := by decide +kernel
theorem dX7_countCharge_65 : decode cX7_countCharge 65 = .ok (.aload_n 0, 1) := by decide +kernel
theorem dX7_countCharge_66 : decode cX7_countCharge 66 = .ok (.getfield 92, 3) := by decide +kernel
theorem dX7_countCharge_69 : decode cX7_countCharge 69 = .ok (.invokestatic 147, 3) := by decide +kernel
theorem dX7_countCharge_72 : decode cX7_countCharge 72 = .ok (.ladd, 1) := by decide +kernel
theorem dX7_countCharge_73 : decode cX7_countCharge 73 = .ok (.putfield 144, 3) := by decide +kernel
theorem dX7_countCharge_76 : decode cX7_countCharge 76 = .ok (.aload_n 0, 1) := by decide +kernel
theorem dX7_countCharge_77 : decode cX7_countCharge 77 = .ok (.getfield 144, 3) := by decide +kernel
theorem dX7_countCharge_80 : decode cX7_countCharge 80 = .ok (.ldc2_w 151, 3) := by decide +kernel
theorem dX7_countCharge_83 : decode cX7_countCharge 83 = .ok (.lcmp, 1) := by decide +kernel
theorem dX7_countCharge_84 : decode cX7_countCharge 84 = .ok (.ifCond .lt 18, 3) := by decide +kernel
theorem dX7_countCharge_87 : decode cX7_countCharge 87 = .ok (.aload_n 0, 1) := by decide +kernel
theorem dX7_countCharge_88 : decode cX7_countCharge 88 = .ok (.aload_n 0, 1) := by decide +kernel
theorem dX7_countCharge_89 : decode cX7_countCharge 89 = .ok (.getfield 144, 3) := by decide +kernel
theorem dX7_countCharge_92 : decode cX7_countCharge 92 = .ok (.ldc2_w 151, 3) := by decide +kernel
theorem dX7_countCharge_95 : decode cX7_countCharge 95 = .ok (.lsub, 1) := by decide +kernel
theorem dX7_countCharge_96 : decode cX7_countCharge 96 = .ok (.putfield 144, 3) := by decide +kernel
theorem dX7_countCharge_99 : decode cX7_countCharge 99 = .ok (.goto (-23), 3) := by decide +kernel
theorem dX7_countCharge_102 : decode cX7_countCharge 102 = .ok (.aload_n 0, 1) := by decide +kernel
theorem dX7_countCharge_103 : decode cX7_countCharge 103 = .ok (.aload_n 0, 1) := by decide +kernel
theorem dX7_countCharge_104 : decode cX7_countCharge 104 = .ok (.getfield 92, 3) := by decide +kernel
theorem dX7_countCharge_107 : decode cX7_countCharge 107 = .ok (.invokestatic 147, 3) := by decide +kernel
theorem dX7_countCharge_110 : decode cX7_countCharge 110 = .ok (.ldc2_w 153, 3) := by decide +kernel
theorem dX7_countCharge_113 : decode cX7_countCharge 113 = .ok (.lcmp, 1) := by decide +kernel
theorem dX7_countCharge_114 : decode cX7_countCharge 114 = .ok (.ifCond .ge 12, 3) := by decide +kernel
theorem dX7_countCharge_117 : decode cX7_countCharge 117 = .ok (.aload_n 0, 1) := by decide +kernel
theorem dX7_countCharge_118 : decode cX7_countCharge 118 = .ok (.getfield 155, 3) := by decide +kernel
theorem dX7_countCharge_121 : decode cX7_countCharge 121 = .ok (.iconst 1, 1) := by decide +kernel
theorem dX7_countCharge_122 : decode cX7_countCharge 122 = .ok (.iadd, 1) := by decide +kernel
theorem dX7_countCharge_123 : decode cX7_countCharge 123 = .ok (.goto 4, 3) := by decide +kernel
theorem dX7_countCharge_126 : decode cX7_countCharge 126 = .ok (.iconst 0, 1) := by decide +kernel
theorem dX7_countCharge_127 : decode cX7_countCharge 127 = .ok (.putfield 155, 3) := by decide +kernel
theorem dX7_countCharge_130 : decode cX7_countCharge 130 = .ok (.aload_n 0, 1) := by decide +kernel
theorem dX7_countCharge_131 : decode cX7_countCharge 131 = .ok (.getfield 155, 3) := by decide +kernel
theorem dX7_countCharge_134 : decode cX7_countCharge 134 = .ok (.bipush 60, 2) := by decide +kernel
theorem dX7_countCharge_136 : decode cX7_countCharge 136 = .ok (.if_icmp .lt 39, 3) := by decide +kernel
theorem dX7_countCharge_139 : decode cX7_countCharge 139 = .ok (.aload_n 0, 1) := by decide +kernel
theorem dX7_countCharge_140 : decode cX7_countCharge 140 = .ok (.invokevirtual 158, 3) := by decide +kernel
theorem dX7_countCharge_143 : decode cX7_countCharge 143 = .ok (.ifCond .eq 32, 3) := by decide +kernel
theorem dX7_countCharge_146 : decode cX7_countCharge 146 = .ok (.aload_n 0, 1) := by decide +kernel
theorem dX7_countCharge_147 : decode cX7_countCharge 147 = .ok (.ldc2_w 162, 3) := by decide +kernel
theorem dX7_countCharge_150 : decode cX7_countCharge 150 = .ok (.aload_n 0, 1) := by decide +kernel
theorem dX7_countCharge_151 : decode cX7_countCharge 151 = .ok (.getfield 57, 3) := by decide +kernel
theorem dX7_countCharge_154 : decode cX7_countCharge 154 = .ok (.lmul, 1) := by decide +kernel
theorem dX7_countCharge_155 : decode cX7_countCharge 155 = .ok (.aload_n 0, 1) := by decide +kernel
theorem dX7_countCharge_156 : decode cX7_countCharge 156 = .ok (.invokevirtual 164, 3) := by decide +kernel
theorem dX7_countCharge_159 : decode cX7_countCharge 159 = .ok (.bipush 6, 2) := by decide +kernel
theorem dX7_countCharge_161 : decode cX7_countCharge 161 = .ok (.aload_n 0, 1) := by decide +kernel
theorem dX7_countCharge_162 : decode cX7_countCharge 162 = .ok (.getfield 49, 3) := by decide +kernel
theorem dX7_countCharge_165 : decode cX7_countCharge 165 = .ok (.imul, 1) := by decide +kernel
theorem dX7_countCharge_166 : decode cX7_countCharge 166 = .ok (.idiv, 1) := by decide +kernel
theorem dX7_countCharge_167 : decode cX7_countCharge 167 = .ok (.invokestatic 168, 3) := by decide +kernel
theorem dX7_countCharge_170 : decode cX7_countCharge 170 = .ok (.i2l, 1) := by decide +kernel
theorem dX7_countCharge_171 : decode cX7_countCharge 171 = .ok (.lmul, 1) := by decide +kernel
theorem dX7_countCharge_172 : decode cX7_countCharge 172 = .ok (.putfield 112, 3) := by decide +kernel
theorem dX7_countCharge_175 : decode cX7_countCharge 175 = .ok (.return_, 1) := by decide +kernel
theorem dX7_floor_0 : decode cX7_floor 0 = .ok (.lload_n 0, 1) := by decide +kernel
theorem dX7_floor_1 : decode cX7_floor 1 = .ok (.lload_n 2, 1) := by decide +kernel
theorem dX7_floor_2 : decode cX7_floor 2 = .ok (.ldiv, 1) := by decide +kernel
theorem dX7_floor_3 : decode cX7_floor 3 = .ok (.lstore 4, 2) := by decide +kernel
theorem dX7_floor_5 : decode cX7_floor 5 = .ok (.lload_n 0, 1) := by decide +kernel
theorem dX7_floor_6 : decode cX7_floor 6 = .ok (.lload_n 2, 1) := by decide +kernel
theorem dX7_floor_7 : decode cX7_floor 7 = .ok (.lrem, 1) := by decide +kernel
theorem dX7_floor_8 : decode cX7_floor 8 = .ok (.lconst 0, 1) := by decide +kernel
theorem dX7_floor_9 : decode cX7_floor 9 = .ok (.lcmp, 1) := by decide +kernel
theorem dX7_floor_10 : decode cX7_floor 10 = .ok (.ifCond .eq 16, 3) := by decide +kernel
theorem dX7_floor_13 : decode cX7_floor 13 = .ok (.lload_n 0, 1) := by decide +kernel
theorem dX7_floor_14 : decode cX7_floor 14 = .ok (.lconst 0, 1) := by decide +kernel
theorem dX7_floor_15 : decode cX7_floor 15 = .ok (.lcmp, 1) := by decide +kernel
theorem dX7_floor_16 : decode cX7_floor 16 = .ok (.ifCond .ge 10, 3) := by decide +kernel
theorem dX7_floor_19 : decode cX7_floor 19 = .ok (.lload 4, 2) := by decide +kernel
theorem dX7_floor_21 : decode cX7_floor 21 = .ok (.lconst 1, 1) := by decide +kernel
theorem dX7_floor_22 : decode cX7_floor 22 = .ok (.lsub, 1) := by decide +kernel
theorem dX7_floor_23 : decode cX7_floor 23 = .ok (.goto 5, 3) := by decide +kernel
theorem dX7_floor_26 : decode cX7_floor 26 = .ok (.lload 4, 2) := by decide +kernel
theorem dX7_floor_28 : decode cX7_floor 28 = .ok (.lreturn, 1) := by decide +kernel
theorem dX7_hottest_0 : decode cX7_hottest 0 = .ok (.aload_n 0, 1) := by decide +kernel
theorem dX7_hottest_1 : decode cX7_hottest 1 = .ok (.getfield 16, 3) := by decide +kernel
theorem dX7_hottest_4 : decode cX7_hottest 4 = .ok (.iconst 0, 1) := by decide +kernel
theorem dX7_hottest_5 : decode cX7_hottest 5 = .ok (.laload, 1) := by decide +kernel
theorem dX7_hottest_6 : decode cX7_hottest 6 = .ok (.lstore_n 1, 1) := by decide +kernel
theorem dX7_hottest_7 : decode cX7_hottest 7 = .ok (.iconst 1, 1) := by decide +kernel
theorem dX7_hottest_8 : decode cX7_hottest 8 = .ok (.istore_n 3, 1) := by decide +kernel
theorem dX7_hottest_9 : decode cX7_hottest 9 = .ok (.iload_n 3, 1) := by decide +kernel
theorem dX7_hottest_10 : decode cX7_hottest 10 = .ok (.aload_n 0, 1) := by decide +kernel
theorem dX7_hottest_11 : decode cX7_hottest 11 = .ok (.getfield 49, 3) := by decide +kernel
theorem dX7_hottest_14 : decode cX7_hottest 14 = .ok (.if_icmp .ge 31, 3) := by decide +kernel
theorem dX7_hottest_17 : decode cX7_hottest 17 = .ok (.aload_n 0, 1) := by decide +kernel
theorem dX7_hottest_18 : decode cX7_hottest 18 = .ok (.getfield 16, 3) := by decide +kernel
theorem dX7_hottest_21 : decode cX7_hottest 21 = .ok (.iload_n 3, 1) := by decide +kernel
theorem dX7_hottest_22 : decode cX7_hottest 22 = .ok (.laload, 1) := by decide +kernel
theorem dX7_hottest_23 : decode cX7_hottest 23 = .ok (.lload_n 1, 1) := by decide +kernel
theorem dX7_hottest_24 : decode cX7_hottest 24 = .ok (.lcmp, 1) := by decide +kernel
theorem dX7_hottest_25 : decode cX7_hottest 25 = .ok (.ifCond .le 12, 3) := by decide +kernel
theorem dX7_hottest_28 : decode cX7_hottest 28 = .ok (.aload_n 0, 1) := by decide +kernel
theorem dX7_hottest_29 : decode cX7_hottest 29 = .ok (.getfield 16, 3) := by decide +kernel
theorem dX7_hottest_32 : decode cX7_hottest 32 = .ok (.iload_n 3, 1) := by decide +kernel
theorem dX7_hottest_33 : decode cX7_hottest 33 = .ok (.laload, 1) := by decide +kernel
theorem dX7_hottest_34 : decode cX7_hottest 34 = .ok (.goto 4, 3) := by decide +kernel
theorem dX7_hottest_37 : decode cX7_hottest 37 = .ok (.lload_n 1, 1) := by decide +kernel
theorem dX7_hottest_38 : decode cX7_hottest 38 = .ok (.lstore_n 1, 1) := by decide +kernel
theorem dX7_hottest_39 : decode cX7_hottest 39 = .ok (.iinc 3 1, 3) := by decide +kernel
theorem dX7_hottest_42 : decode cX7_hottest 42 = .ok (.goto (-33), 3) := by decide +kernel
theorem dX7_hottest_45 : decode cX7_hottest 45 = .ok (.lload_n 1, 1) := by decide +kernel
theorem dX7_hottest_46 : decode cX7_hottest 46 = .ok (.lreturn, 1) := by decide +kernel
theorem dX7_coldest_0 : decode cX7_coldest 0 = .ok (.aload_n 0, 1) := by decide +kernel
theorem dX7_coldest_1 : decode cX7_coldest 1 = .ok (.getfield 16, 3) := by decide +kernel
theorem dX7_coldest_4 : decode cX7_coldest 4 = .ok (.iconst 0, 1) := by decide +kernel
theorem dX7_coldest_5 : decode cX7_coldest 5 = .ok (.laload, 1) := by decide +kernel
theorem dX7_coldest_6 : decode cX7_coldest 6 = .ok (.lstore_n 1, 1) := by decide +kernel
theorem dX7_coldest_7 : decode cX7_coldest 7 = .ok (.iconst 1, 1) := by decide +kernel
theorem dX7_coldest_8 : decode cX7_coldest 8 = .ok (.istore_n 3, 1) := by decide +kernel
theorem dX7_coldest_9 : decode cX7_coldest 9 = .ok (.iload_n 3, 1) := by decide +kernel
theorem dX7_coldest_10 : decode cX7_coldest 10 = .ok (.aload_n 0, 1) := by decide +kernel
theorem dX7_coldest_11 : decode cX7_coldest 11 = .ok (.getfield 49, 3) := by decide +kernel
theorem dX7_coldest_14 : decode cX7_coldest 14 = .ok (.if_icmp .ge 31, 3) := by decide +kernel
theorem dX7_coldest_17 : decode cX7_coldest 17 = .ok (.aload_n 0, 1) := by decide +kernel
theorem dX7_coldest_18 : decode cX7_coldest 18 = .ok (.getfield 16, 3) := by decide +kernel
theorem dX7_coldest_21 : decode cX7_coldest 21 = .ok (.iload_n 3, 1) := by decide +kernel
theorem dX7_coldest_22 : decode cX7_coldest 22 = .ok (.laload, 1) := by decide +kernel
theorem dX7_coldest_23 : decode cX7_coldest 23 = .ok (.lload_n 1, 1) := by decide +kernel
theorem dX7_coldest_24 : decode cX7_coldest 24 = .ok (.lcmp, 1) := by decide +kernel
theorem dX7_coldest_25 : decode cX7_coldest 25 = .ok (.ifCond .ge 12, 3) := by decide +kernel
theorem dX7_coldest_28 : decode cX7_coldest 28 = .ok (.aload_n 0, 1) := by decide +kernel
theorem dX7_coldest_29 : decode cX7_coldest 29 = .ok (.getfield 16, 3) := by decide +kernel
theorem dX7_coldest_32 : decode cX7_coldest 32 = .ok (.iload_n 3, 1) := by decide +kernel
theorem dX7_coldest_33 : decode cX7_coldest 33 = .ok (.laload, 1) := by decide +kernel
theorem dX7_coldest_34 : decode cX7_coldest 34 = .ok (.goto 4, 3) := by decide +kernel
theorem dX7_coldest_37 : decode cX7_coldest 37 = .ok (.lload_n 1, 1) := by decide +kernel
theorem dX7_coldest_38 : decode cX7_coldest 38 = .ok (.lstore_n 1, 1) := by decide +kernel
theorem dX7_coldest_39 : decode cX7_coldest 39 = .ok (.iinc 3 1, 3) := by decide +kernel
theorem dX7_coldest_42 : decode cX7_coldest 42 = .ok (.goto (-33), 3) := by decide +kernel
theorem dX7_coldest_45 : decode cX7_coldest 45 = .ok (.lload_n 1, 1) := by decide +kernel
theorem dX7_coldest_46 : decode cX7_coldest 46 = .ok (.lreturn, 1) := by decide +kernel
set_option maxRecDepth 20000 in
theorem ggX7_full_X7_floor : GoodIn wsX7_full wsX7_floor := goodIn_r _ [9] (by decide +kernel) (by decide +kernel)
set_option maxRecDepth 20000 in
theorem gX7_full_X7_floor : GoodIn wsX7_full (va_wsS RX7 173 yX7_floor wsX7_floor) := goodIn_app (goodIn_of _ (by decide +kernel)) ggX7_full_X7_floor
theorem dX7_full_0 : decode cX7_full 0 = .ok (.ldc2_w 162, 3) := by decide +kernel
theorem dX7_full_3 : decode cX7_full 3 = .ok (.lload_n 1, 1) := by decide +kernel
theorem dX7_full_4 : decode cX7_full 4 = .ok (.lmul, 1) := by decide +kernel
theorem dX7_full_5 : decode cX7_full 5 = .ok (.ldc2_w 140, 3) := by decide +kernel
theorem dX7_full_8 : decode cX7_full 8 = .ok (.aload_n 0, 1) := by decide +kernel
theorem dX7_full_9 : decode cX7_full 9 = .ok (.getfield 57, 3) := by decide +kernel
theorem dX7_full_12 : decode cX7_full 12 = .ok (.lmul, 1) := by decide +kernel
theorem dX7_full_13 : decode cX7_full 13 = .ok (.lcmp, 1) := by decide +kernel
theorem dX7_full_14 : decode cX7_full 14 = .ok (.ifCond .lt 9, 3) := by decide +kernel
theorem dX7_full_17 : decode cX7_full 17 = .ok (.ldc2_w 120, 3) := by decide +kernel
theorem dX7_full_20 : decode cX7_full 20 = .ok (.goto 19, 3) := by decide +kernel
theorem dX7_full_23 : decode cX7_full 23 = .ok (.ldc2_w 171, 3) := by decide +kernel
theorem dX7_full_26 : decode cX7_full 26 = .ok (.lload_n 1, 1) := by decide +kernel
theorem dX7_full_27 : decode cX7_full 27 = .ok (.lmul, 1) := by decide +kernel
theorem dX7_full_28 : decode cX7_full 28 = .ok (.ldc2_w 140, 3) := by decide +kernel
theorem dX7_full_31 : decode cX7_full 31 = .ok (.aload_n 0, 1) := by decide +kernel
theorem dX7_full_32 : decode cX7_full 32 = .ok (.getfield 57, 3) := by decide +kernel
theorem dX7_full_35 : decode cX7_full 35 = .ok (.lmul, 1) := by decide +kernel
theorem dX7_full_36 : decode cX7_full 36 = .ok (.invokestatic 173, 3) := by decide +kernel
theorem dX7_full_39 : decode cX7_full 39 = .ok (.lreturn, 1) := by decide +kernel
theorem dX7_least_0 : decode cX7_least 0 = .ok (.lload_n 0, 1) := by decide +kernel
theorem dX7_least_1 : decode cX7_least 1 = .ok (.lload_n 2, 1) := by decide +kernel
theorem dX7_least_2 : decode cX7_least 2 = .ok (.lcmp, 1) := by decide +kernel
theorem dX7_least_3 : decode cX7_least 3 = .ok (.ifCond .ge 7, 3) := by decide +kernel
theorem dX7_least_6 : decode cX7_least 6 = .ok (.lload_n 0, 1) := by decide +kernel
theorem dX7_least_7 : decode cX7_least 7 = .ok (.goto 4, 3) := by decide +kernel
theorem dX7_least_10 : decode cX7_least 10 = .ok (.lload_n 2, 1) := by decide +kernel
theorem dX7_least_11 : decode cX7_least 11 = .ok (.lstore 6, 2) := by decide +kernel
theorem dX7_least_13 : decode cX7_least 13 = .ok (.lload 6, 2) := by decide +kernel
theorem dX7_least_15 : decode cX7_least 15 = .ok (.lload 4, 2) := by decide +kernel
theorem dX7_least_17 : decode cX7_least 17 = .ok (.lcmp, 1) := by decide +kernel
theorem dX7_least_18 : decode cX7_least 18 = .ok (.ifCond .ge 8, 3) := by decide +kernel
theorem dX7_least_21 : decode cX7_least 21 = .ok (.lload 6, 2) := by decide +kernel
theorem dX7_least_23 : decode cX7_least 23 = .ok (.goto 5, 3) := by decide +kernel
theorem dX7_least_26 : decode cX7_least 26 = .ok (.lload 4, 2) := by decide +kernel
theorem dX7_least_28 : decode cX7_least 28 = .ok (.lreturn, 1) := by decide +kernel
set_option maxRecDepth 20000 in
theorem ggX7_allow_X7_hottest : GoodIn wsX7_allow wsX7_hottest := goodIn_r _ [20, 21, 22, 39, 40, 41, 42, 43, 44, 45, 46, 47, 48, 49, 50, 51, 52, 53, 54, 55, 56, 57, 58, 59, 60, 61, 62, 63, 64, 65, 66, 67, 68, 69, 70] (by decide +kernel) (by decide +kernel)
set_option maxRecDepth 20000 in
theorem gX7_allow_X7_hottest : GoodIn wsX7_allow (wsV RX7 177 RX7 yX7_hottest wsX7_hottest) := goodIn_app (goodIn_of _ (by decide +kernel)) ggX7_allow_X7_hottest
set_option maxRecDepth 20000 in
theorem ggX7_allow_X7_coldest : GoodIn wsX7_allow wsX7_coldest := goodIn_r _ [26, 21, 22, 39, 40, 41, 42, 43, 44, 45, 46, 47, 48, 49, 50, 51, 52, 53, 54, 55, 56, 57, 58, 59, 60, 61, 62, 63, 64, 65, 66, 67, 68, 69, 70] (by decide +kernel) (by decide +kernel)
set_option maxRecDepth 20000 in
theorem gX7_allow_X7_coldest : GoodIn wsX7_allow (wsV RX7 181 RX7 yX7_coldest wsX7_coldest) := goodIn_app (goodIn_of _ (by decide +kernel)) ggX7_allow_X7_coldest
set_option maxRecDepth 20000 in
theorem ggX7_allow_X7_floor : GoodIn wsX7_allow wsX7_floor := goodIn_r _ [29] (by decide +kernel) (by decide +kernel)
set_option maxRecDepth 20000 in
theorem gX7_allow_X7_floor : GoodIn wsX7_allow (va_wsS RX7 173 yX7_floor wsX7_floor) := goodIn_app (goodIn_of _ (by decide +kernel)) ggX7_allow_X7_floor
set_option maxRecDepth 20000 in
theorem ggX7_allow_X7_full : GoodIn wsX7_allow wsX7_full := goodIn_r _ [33, 34, 13, 14, 2, 35, 27, 28, 19, 29, 39, 40, 41, 42, 43, 44, 45, 46, 47, 48, 49, 50, 51, 52, 53, 54, 55, 56, 57, 58, 59, 60, 61, 62, 63, 64, 65, 66, 67, 68, 69, 70] (by decide +kernel) (by decide +kernel)
set_option maxRecDepth 20000 in
theorem gX7_allow_X7_full : GoodIn wsX7_allow (wsV RX7 198 RX7 yX7_full wsX7_full) := goodIn_app (goodIn_of _ (by decide +kernel)) ggX7_allow_X7_full
set_option maxRecDepth 20000 in
theorem ggX7_allow_X7_least : GoodIn wsX7_allow wsX7_least := goodIn_r _ [38] (by decide +kernel) (by decide +kernel)
set_option maxRecDepth 20000 in
theorem gX7_allow_X7_least : GoodIn wsX7_allow (va_wsS RX7 201 yX7_least wsX7_least) := goodIn_app (goodIn_of _ (by decide +kernel)) ggX7_allow_X7_least
theorem dX7_allow_0 : decode cX7_allow 0 = .ok (.aload_n 0, 1) := by decide +kernel
theorem dX7_allow_1 : decode cX7_allow 1 = .ok (.invokevirtual 177, 3) := by decide +kernel
theorem dX7_allow_4 : decode cX7_allow 4 = .ok (.lstore_n 1, 1) := by decide +kernel
theorem dX7_allow_5 : decode cX7_allow 5 = .ok (.aload_n 0, 1) := by decide +kernel
theorem dX7_allow_6 : decode cX7_allow 6 = .ok (.invokevirtual 181, 3) := by decide +kernel
theorem dX7_allow_9 : decode cX7_allow 9 = .ok (.lstore_n 3, 1) := by decide +kernel
theorem dX7_allow_10 : decode cX7_allow 10 = .ok (.lload_n 1, 1) := by decide +kernel
theorem dX7_allow_11 : decode cX7_allow 11 = .ok (.ldc2_w 184, 3) := by decide +kernel
theorem dX7_allow_14 : decode cX7_allow 14 = .ok (.lcmp, 1) := by decide +kernel
theorem dX7_allow_15 : decode cX7_allow 15 = .ok (.ifCond .gt 9, 3) := by decide +kernel
theorem dX7_allow_18 : decode cX7_allow 18 = .ok (.ldc2_w 120, 3) := by decide +kernel
theorem dX7_allow_21 : decode cX7_allow 21 = .ok (.goto 26, 3) := by decide +kernel
theorem dX7_allow_24 : decode cX7_allow 24 = .ok (.lload_n 1, 1) := by decide +kernel
theorem dX7_allow_25 : decode cX7_allow 25 = .ok (.ldc2_w 186, 3) := by decide +kernel
theorem dX7_allow_28 : decode cX7_allow 28 = .ok (.lcmp, 1) := by decide +kernel
theorem dX7_allow_29 : decode cX7_allow 29 = .ok (.ifCond .lt 7, 3) := by decide +kernel
theorem dX7_allow_32 : decode cX7_allow 32 = .ok (.lconst 0, 1) := by decide +kernel
theorem dX7_allow_33 : decode cX7_allow 33 = .ok (.goto 14, 3) := by decide +kernel
theorem dX7_allow_36 : decode cX7_allow 36 = .ok (.ldc2_w 186, 3) := by decide +kernel
theorem dX7_allow_39 : decode cX7_allow 39 = .ok (.lload_n 1, 1) := by decide +kernel
theorem dX7_allow_40 : decode cX7_allow 40 = .ok (.lsub, 1) := by decide +kernel
theorem dX7_allow_41 : decode cX7_allow 41 = .ok (.ldc2_w 188, 3) := by decide +kernel
theorem dX7_allow_44 : decode cX7_allow 44 = .ok (.invokestatic 173, 3) := by decide +kernel
theorem dX7_allow_47 : decode cX7_allow 47 = .ok (.lstore 5, 2) := by decide +kernel
theorem dX7_allow_49 : decode cX7_allow 49 = .ok (.lload_n 3, 1) := by decide +kernel
theorem dX7_allow_50 : decode cX7_allow 50 = .ok (.ldc2_w 190, 3) := by decide +kernel
theorem dX7_allow_53 : decode cX7_allow 53 = .ok (.lcmp, 1) := by decide +kernel
theorem dX7_allow_54 : decode cX7_allow 54 = .ok (.ifCond .lt 9, 3) := by decide +kernel
theorem dX7_allow_57 : decode cX7_allow 57 = .ok (.ldc2_w 120, 3) := by decide +kernel
theorem dX7_allow_60 : decode cX7_allow 60 = .ok (.goto 26, 3) := by decide +kernel
theorem dX7_allow_63 : decode cX7_allow 63 = .ok (.lload_n 3, 1) := by decide +kernel
theorem dX7_allow_64 : decode cX7_allow 64 = .ok (.ldc2_w 192, 3) := by decide +kernel
theorem dX7_allow_67 : decode cX7_allow 67 = .ok (.lcmp, 1) := by decide +kernel
theorem dX7_allow_68 : decode cX7_allow 68 = .ok (.ifCond .gt 7, 3) := by decide +kernel
theorem dX7_allow_71 : decode cX7_allow 71 = .ok (.lconst 0, 1) := by decide +kernel
theorem dX7_allow_72 : decode cX7_allow 72 = .ok (.goto 14, 3) := by decide +kernel
theorem dX7_allow_75 : decode cX7_allow 75 = .ok (.lload_n 3, 1) := by decide +kernel
theorem dX7_allow_76 : decode cX7_allow 76 = .ok (.ldc2_w 194, 3) := by decide +kernel
theorem dX7_allow_79 : decode cX7_allow 79 = .ok (.ladd, 1) := by decide +kernel
theorem dX7_allow_80 : decode cX7_allow 80 = .ok (.ldc2_w 153, 3) := by decide +kernel
theorem dX7_allow_83 : decode cX7_allow 83 = .ok (.invokestatic 173, 3) := by decide +kernel
theorem dX7_allow_86 : decode cX7_allow 86 = .ok (.lstore 7, 2) := by decide +kernel
theorem dX7_allow_88 : decode cX7_allow 88 = .ok (.aload_n 0, 1) := by decide +kernel
theorem dX7_allow_89 : decode cX7_allow 89 = .ok (.ldc2_w 196, 3) := by decide +kernel
theorem dX7_allow_92 : decode cX7_allow 92 = .ok (.lload 5, 2) := by decide +kernel
theorem dX7_allow_94 : decode cX7_allow 94 = .ok (.lload 7, 2) := by decide +kernel
theorem dX7_allow_96 : decode cX7_allow 96 = .ok (.aload_n 0, 1) := by decide +kernel
theorem dX7_allow_97 : decode cX7_allow 97 = .ok (.aload_n 0, 1) := by decide +kernel
theorem dX7_allow_98 : decode cX7_allow 98 = .ok (.getfield 112, 3) := by decide +kernel
theorem dX7_allow_101 : decode cX7_allow 101 = .ok (.invokevirtual 198, 3) := by decide +kernel
theorem dX7_allow_104 : decode cX7_allow 104 = .ok (.invokestatic 201, 3) := by decide +kernel
theorem dX7_allow_107 : decode cX7_allow 107 = .ok (.lmul, 1) := by decide +kernel
theorem dX7_allow_108 : decode cX7_allow 108 = .ok (.putfield 205, 3) := by decide +kernel
theorem dX7_allow_111 : decode cX7_allow 111 = .ok (.aload_n 0, 1) := by decide +kernel
theorem dX7_allow_112 : decode cX7_allow 112 = .ok (.ldc2_w 208, 3) := by decide +kernel
theorem dX7_allow_115 : decode cX7_allow 115 = .ok (.lload 5, 2) := by decide +kernel
theorem dX7_allow_117 : decode cX7_allow 117 = .ok (.lload 7, 2) := by decide +kernel
theorem dX7_allow_119 : decode cX7_allow 119 = .ok (.aload_n 0, 1) := by decide +kernel
theorem dX7_allow_120 : decode cX7_allow 120 = .ok (.ldc2_w 140, 3) := by decide +kernel
theorem dX7_allow_123 : decode cX7_allow 123 = .ok (.aload_n 0, 1) := by decide +kernel
theorem dX7_allow_124 : decode cX7_allow 124 = .ok (.getfield 57, 3) := by decide +kernel
theorem dX7_allow_127 : decode cX7_allow 127 = .ok (.lmul, 1) := by decide +kernel
theorem dX7_allow_128 : decode cX7_allow 128 = .ok (.aload_n 0, 1) := by decide +kernel
theorem dX7_allow_129 : decode cX7_allow 129 = .ok (.getfield 112, 3) := by decide +kernel
theorem dX7_allow_132 : decode cX7_allow 132 = .ok (.lsub, 1) := by decide +kernel
theorem dX7_allow_133 : decode cX7_allow 133 = .ok (.invokevirtual 198, 3) := by decide +kernel
theorem dX7_allow_136 : decode cX7_allow 136 = .ok (.invokestatic 201, 3) := by decide +kernel
theorem dX7_allow_139 : decode cX7_allow 139 = .ok (.lmul, 1) := by decide +kernel
theorem dX7_allow_140 : decode cX7_allow 140 = .ok (.putfield 210, 3) := by decide +kernel
theorem dX7_allow_143 : decode cX7_allow 143 = .ok (.return_, 1) := by decide +kernel
set_option maxRecDepth 20000 in
theorem ggX7_isSo_X7_hottest : GoodIn wsX7_isSo wsX7_hottest := goodIn_r _ [14, 15, 9, 42, 43, 44, 45, 46, 47, 48, 49, 50, 51, 52, 53, 54, 55, 56, 57, 58, 59, 60, 61, 62, 63, 64, 65, 66, 67, 68, 69, 70, 71, 72, 73] (by decide +kernel) (by decide +kernel)
set_option maxRecDepth 20000 in
theorem gX7_isSo_X7_hottest : GoodIn wsX7_isSo (wsV RX7 177 RX7 yX7_hottest wsX7_hottest) := goodIn_app (goodIn_of _ (by decide +kernel)) ggX7_isSo_X7_hottest
set_option maxRecDepth 20000 in
theorem ggX7_isSo_X7_coldest : GoodIn wsX7_isSo wsX7_coldest := goodIn_r _ [19, 15, 9, 42, 43, 44, 45, 46, 47, 48, 49, 50, 51, 52, 53, 54, 55, 56, 57, 58, 59, 60, 61, 62, 63, 64, 65, 66, 67, 68, 69, 70, 71, 72, 73] (by decide +kernel) (by decide +kernel)
set_option maxRecDepth 20000 in
theorem gX7_isSo_X7_coldest : GoodIn wsX7_isSo (wsV RX7 181 RX7 yX7_coldest wsX7_coldest) := goodIn_app (goodIn_of _ (by decide +kernel)) ggX7_isSo_X7_coldest
set_option maxRecDepth 20000 in
theorem ggX7_isSo_X7_isStale : GoodIn wsX7_isSo wsX7_isStale := goodIn_r _ [23, 24, 25, 42, 43, 44, 45, 46, 47, 48, 49, 50, 51, 52, 53, 54, 55, 56, 57, 58, 59, 60, 61, 62, 63, 64, 65, 66, 67, 68, 69, 70, 71, 72, 73] (by decide +kernel) (by decide +kernel)
set_option maxRecDepth 20000 in
theorem gX7_isSo_X7_isStale : GoodIn wsX7_isSo (wsV RX7 122 RX7 yX7_isStale wsX7_isStale) := goodIn_app (goodIn_of _ (by decide +kernel)) ggX7_isSo_X7_isStale
set_option maxRecDepth 20000 in
theorem ggX7_isSo_X7_isValid : GoodIn wsX7_isSo wsX7_isValid := goodIn_r _ [29, 30, 20, 21, 22, 13, 23, 24, 25, 31, 32, 33, 34, 35, 36, 37, 38, 39, 40, 41, 42, 43, 44, 45, 46, 47, 48, 49, 50, 51, 52, 53, 54, 55, 56, 57, 58, 59, 60, 61, 62, 63, 64, 65, 66, 67, 68, 69, 70, 71, 72, 73] (by decide +kernel) (by decide +kernel)
set_option maxRecDepth 20000 in
theorem gX7_isSo_X7_isValid : GoodIn wsX7_isSo (wsV RX7 130 RX7 yX7_isValid wsX7_isValid) := goodIn_app (goodIn_of _ (by decide +kernel)) ggX7_isSo_X7_isValid
set_option maxRecDepth 20000 in
theorem ggX7_isSo_X7_numberOf : GoodIn wsX7_isSo wsX7_numberOf := goodIn_r _ [34, 24, 35, 42, 43, 44, 45, 46, 47, 48, 49, 50, 51, 52, 53, 54, 55, 56, 57, 58, 59, 60, 61, 62, 63, 64, 65, 66, 67, 68, 69, 70, 71, 72, 73] (by decide +kernel) (by decide +kernel)
set_option maxRecDepth 20000 in
theorem gX7_isSo_X7_numberOf : GoodIn wsX7_isSo (wsV RX7 117 RX7 yX7_numberOf wsX7_numberOf) := goodIn_app (goodIn_of _ (by decide +kernel)) ggX7_isSo_X7_numberOf
theorem dX7_isSo_0 : decode cX7_isSo 0 = .ok (.iload_n 1, 1) := by decide +kernel
theorem dX7_isSo_1 : decode cX7_isSo 1 = .ok (.iconst 4, 1) := by decide +kernel
theorem dX7_isSo_2 : decode cX7_isSo 2 = .ok (.if_icmp .ne 20, 3) := by decide +kernel
theorem dX7_isSo_5 : decode cX7_isSo 5 = .ok (.aload_n 0, 1) := by decide +kernel
theorem dX7_isSo_6 : decode cX7_isSo 6 = .ok (.invokevirtual 177, 3) := by decide +kernel
theorem dX7_isSo_9 : decode cX7_isSo 9 = .ok (.ldc2_w 213, 3) := by decide +kernel
theorem dX7_isSo_12 : decode cX7_isSo 12 = .ok (.lcmp, 1) := by decide +kernel
theorem dX7_isSo_13 : decode cX7_isSo 13 = .ok (.ifCond .le 7, 3) := by decide +kernel
theorem dX7_isSo_16 : decode cX7_isSo 16 = .ok (.iconst 1, 1) := by decide +kernel
theorem dX7_isSo_17 : decode cX7_isSo 17 = .ok (.goto 4, 3) := by decide +kernel
theorem dX7_isSo_20 : decode cX7_isSo 20 = .ok (.iconst 0, 1) := by decide +kernel
theorem dX7_isSo_21 : decode cX7_isSo 21 = .ok (.ireturn, 1) := by decide +kernel
theorem dX7_isSo_22 : decode cX7_isSo 22 = .ok (.iload_n 1, 1) := by decide +kernel
theorem dX7_isSo_23 : decode cX7_isSo 23 = .ok (.iconst 5, 1) := by decide +kernel
theorem dX7_isSo_24 : decode cX7_isSo 24 = .ok (.if_icmp .ne 20, 3) := by decide +kernel
theorem dX7_isSo_27 : decode cX7_isSo 27 = .ok (.aload_n 0, 1) := by decide +kernel
theorem dX7_isSo_28 : decode cX7_isSo 28 = .ok (.invokevirtual 181, 3) := by decide +kernel
theorem dX7_isSo_31 : decode cX7_isSo 31 = .ok (.ldc2_w 215, 3) := by decide +kernel
theorem dX7_isSo_34 : decode cX7_isSo 34 = .ok (.lcmp, 1) := by decide +kernel
theorem dX7_isSo_35 : decode cX7_isSo 35 = .ok (.ifCond .ge 7, 3) := by decide +kernel
theorem dX7_isSo_38 : decode cX7_isSo 38 = .ok (.iconst 1, 1) := by decide +kernel
theorem dX7_isSo_39 : decode cX7_isSo 39 = .ok (.goto 4, 3) := by decide +kernel
theorem dX7_isSo_42 : decode cX7_isSo 42 = .ok (.iconst 0, 1) := by decide +kernel
theorem dX7_isSo_43 : decode cX7_isSo 43 = .ok (.ireturn, 1) := by decide +kernel
theorem dX7_isSo_44 : decode cX7_isSo 44 = .ok (.iload_n 1, 1) := by decide +kernel
theorem dX7_isSo_45 : decode cX7_isSo 45 = .ok (.bipush 6, 2) := by decide +kernel
theorem dX7_isSo_47 : decode cX7_isSo 47 = .ok (.if_icmp .ne 49, 3) := by decide +kernel
theorem dX7_isSo_50 : decode cX7_isSo 50 = .ok (.ldc2_w 162, 3) := by decide +kernel
theorem dX7_isSo_53 : decode cX7_isSo 53 = .ok (.aload_n 0, 1) := by decide +kernel
theorem dX7_isSo_54 : decode cX7_isSo 54 = .ok (.getfield 92, 3) := by decide +kernel
theorem dX7_isSo_57 : decode cX7_isSo 57 = .ok (.lmul, 1) := by decide +kernel
theorem dX7_isSo_58 : decode cX7_isSo 58 = .ok (.aload_n 0, 1) := by decide +kernel
theorem dX7_isSo_59 : decode cX7_isSo 59 = .ok (.getfield 205, 3) := by decide +kernel
theorem dX7_isSo_62 : decode cX7_isSo 62 = .ok (.ldc2_w 217, 3) := by decide +kernel
theorem dX7_isSo_65 : decode cX7_isSo 65 = .ok (.ladd, 1) := by decide +kernel
theorem dX7_isSo_66 : decode cX7_isSo 66 = .ok (.lcmp, 1) := by decide +kernel
theorem dX7_isSo_67 : decode cX7_isSo 67 = .ok (.ifCond .gt 23, 3) := by decide +kernel
theorem dX7_isSo_70 : decode cX7_isSo 70 = .ok (.ldc2_w 219, 3) := by decide +kernel
theorem dX7_isSo_73 : decode cX7_isSo 73 = .ok (.aload_n 0, 1) := by decide +kernel
theorem dX7_isSo_74 : decode cX7_isSo 74 = .ok (.getfield 92, 3) := by decide +kernel
theorem dX7_isSo_77 : decode cX7_isSo 77 = .ok (.lmul, 1) := by decide +kernel
theorem dX7_isSo_78 : decode cX7_isSo 78 = .ok (.aload_n 0, 1) := by decide +kernel
theorem dX7_isSo_79 : decode cX7_isSo 79 = .ok (.getfield 210, 3) := by decide +kernel
theorem dX7_isSo_82 : decode cX7_isSo 82 = .ok (.ldc2_w 217, 3) := by decide +kernel
theorem dX7_isSo_85 : decode cX7_isSo 85 = .ok (.ladd, 1) := by decide +kernel
theorem dX7_isSo_86 : decode cX7_isSo 86 = .ok (.lcmp, 1) := by decide +kernel
theorem dX7_isSo_87 : decode cX7_isSo 87 = .ok (.ifCond .le 7, 3) := by decide +kernel
theorem dX7_isSo_90 : decode cX7_isSo 90 = .ok (.iconst 1, 1) := by decide +kernel
theorem dX7_isSo_91 : decode cX7_isSo 91 = .ok (.goto 4, 3) := by decide +kernel
theorem dX7_isSo_94 : decode cX7_isSo 94 = .ok (.iconst 0, 1) := by decide +kernel
theorem dX7_isSo_95 : decode cX7_isSo 95 = .ok (.ireturn, 1) := by decide +kernel
theorem dX7_isSo_96 : decode cX7_isSo 96 = .ok (.iconst 0, 1) := by decide +kernel
theorem dX7_isSo_97 : decode cX7_isSo 97 = .ok (.istore_n 2, 1) := by decide +kernel
theorem dX7_isSo_98 : decode cX7_isSo 98 = .ok (.iload_n 2, 1) := by decide +kernel
theorem dX7_isSo_99 : decode cX7_isSo 99 = .ok (.bipush 6, 2) := by decide +kernel
theorem dX7_isSo_101 : decode cX7_isSo 101 = .ok (.aload_n 0, 1) := by decide +kernel
theorem dX7_isSo_102 : decode cX7_isSo 102 = .ok (.getfield 49, 3) := by decide +kernel
theorem dX7_isSo_105 : decode cX7_isSo 105 = .ok (.imul, 1) := by decide +kernel
theorem dX7_isSo_106 : decode cX7_isSo 106 = .ok (.if_icmp .ge 111, 3) := by decide +kernel
theorem dX7_isSo_109 : decode cX7_isSo 109 = .ok (.iload_n 2, 1) := by decide +kernel
theorem dX7_isSo_110 : decode cX7_isSo 110 = .ok (.bipush 6, 2) := by decide +kernel
theorem dX7_isSo_112 : decode cX7_isSo 112 = .ok (.idiv, 1) := by decide +kernel
theorem dX7_isSo_113 : decode cX7_isSo 113 = .ok (.istore_n 3, 1) := by decide +kernel
theorem dX7_isSo_114 : decode cX7_isSo 114 = .ok (.aload_n 0, 1) := by decide +kernel
theorem dX7_isSo_115 : decode cX7_isSo 115 = .ok (.iload_n 3, 1) := by decide +kernel
theorem dX7_isSo_116 : decode cX7_isSo 116 = .ok (.invokevirtual 122, 3) := by decide +kernel
theorem dX7_isSo_119 : decode cX7_isSo 119 = .ok (.istore 4, 2) := by decide +kernel
theorem dX7_isSo_121 : decode cX7_isSo 121 = .ok (.aload_n 0, 1) := by decide +kernel
theorem dX7_isSo_122 : decode cX7_isSo 122 = .ok (.iload_n 3, 1) := by decide +kernel
theorem dX7_isSo_123 : decode cX7_isSo 123 = .ok (.iload_n 2, 1) := by decide +kernel
theorem dX7_isSo_124 : decode cX7_isSo 124 = .ok (.bipush 6, 2) := by decide +kernel
theorem dX7_isSo_126 : decode cX7_isSo 126 = .ok (.irem, 1) := by decide +kernel
theorem dX7_isSo_127 : decode cX7_isSo 127 = .ok (.invokevirtual 130, 3) := by decide +kernel
theorem dX7_isSo_130 : decode cX7_isSo 130 = .ok (.istore 5, 2) := by decide +kernel
theorem dX7_isSo_132 : decode cX7_isSo 132 = .ok (.iload 5, 2) := by decide +kernel
theorem dX7_isSo_134 : decode cX7_isSo 134 = .ok (.ifCond .eq 16, 3) := by decide +kernel
theorem dX7_isSo_137 : decode cX7_isSo 137 = .ok (.aload_n 0, 1) := by decide +kernel
theorem dX7_isSo_138 : decode cX7_isSo 138 = .ok (.iload_n 3, 1) := by decide +kernel
theorem dX7_isSo_139 : decode cX7_isSo 139 = .ok (.iload_n 2, 1) := by decide +kernel
theorem dX7_isSo_140 : decode cX7_isSo 140 = .ok (.bipush 6, 2) := by decide +kernel
theorem dX7_isSo_142 : decode cX7_isSo 142 = .ok (.irem, 1) := by decide +kernel
theorem dX7_isSo_143 : decode cX7_isSo 143 = .ok (.iconst 0, 1) := by decide +kernel
theorem dX7_isSo_144 : decode cX7_isSo 144 = .ok (.invokevirtual 117, 3) := by decide +kernel
theorem dX7_isSo_147 : decode cX7_isSo 147 = .ok (.goto 6, 3) := by decide +kernel
theorem dX7_isSo_150 : decode cX7_isSo 150 = .ok (.sipush 3000, 3) := by decide +kernel
theorem dX7_isSo_153 : decode cX7_isSo 153 = .ok (.istore 6, 2) := by decide +kernel
theorem dX7_isSo_155 : decode cX7_isSo 155 = .ok (.iload_n 1, 1) := by decide +kernel
theorem dX7_isSo_156 : decode cX7_isSo 156 = .ok (.ifCond .ne 11, 3) := by decide +kernel
theorem dX7_isSo_159 : decode cX7_isSo 159 = .ok (.iload 4, 2) := by decide +kernel
theorem dX7_isSo_161 : decode cX7_isSo 161 = .ok (.ifCond .eq 50, 3) := by decide +kernel
theorem dX7_isSo_164 : decode cX7_isSo 164 = .ok (.goto 45, 3) := by decide +kernel
theorem dX7_isSo_167 : decode cX7_isSo 167 = .ok (.iload_n 1, 1) := by decide +kernel
theorem dX7_isSo_168 : decode cX7_isSo 168 = .ok (.iconst 1, 1) := by decide +kernel
theorem dX7_isSo_169 : decode cX7_isSo 169 = .ok (.if_icmp .ne 16, 3) := by decide +kernel
theorem dX7_isSo_172 : decode cX7_isSo 172 = .ok (.iload 4, 2) := by decide +kernel
theorem dX7_isSo_174 : decode cX7_isSo 174 = .ok (.ifCond .ne 37, 3) := by decide +kernel
theorem dX7_isSo_177 : decode cX7_isSo 177 = .ok (.iload 5, 2) := by decide +kernel
theorem dX7_isSo_179 : decode cX7_isSo 179 = .ok (.ifCond .ne 32, 3) := by decide +kernel
theorem dX7_isSo_182 : decode cX7_isSo 182 = .ok (.goto 27, 3) := by decide +kernel
theorem dX7_isSo_185 : decode cX7_isSo 185 = .ok (.iload_n 1, 1) := by decide +kernel
theorem dX7_isSo_186 : decode cX7_isSo 186 = .ok (.iconst 2, 1) := by decide +kernel
theorem dX7_isSo_187 : decode cX7_isSo 187 = .ok (.if_icmp .ne 14, 3) := by decide +kernel
theorem dX7_isSo_190 : decode cX7_isSo 190 = .ok (.iload 6, 2) := by decide +kernel
theorem dX7_isSo_192 : decode cX7_isSo 192 = .ok (.sipush 4200, 3) := by decide +kernel
theorem dX7_isSo_195 : decode cX7_isSo 195 = .ok (.if_icmp .le 16, 3) := by decide +kernel
theorem dX7_isSo_198 : decode cX7_isSo 198 = .ok (.goto 11, 3) := by decide +kernel
theorem dX7_isSo_201 : decode cX7_isSo 201 = .ok (.iload 6, 2) := by decide +kernel
theorem dX7_isSo_203 : decode cX7_isSo 203 = .ok (.sipush 2500, 3) := by decide +kernel
theorem dX7_isSo_206 : decode cX7_isSo 206 = .ok (.if_icmp .ge 5, 3) := by decide +kernel
theorem dX7_isSo_209 : decode cX7_isSo 209 = .ok (.iconst 1, 1) := by decide +kernel
theorem dX7_isSo_210 : decode cX7_isSo 210 = .ok (.ireturn, 1) := by decide +kernel
theorem dX7_isSo_211 : decode cX7_isSo 211 = .ok (.iinc 2 1, 3) := by decide +kernel
theorem dX7_isSo_214 : decode cX7_isSo 214 = .ok (.goto (-116), 3) := by decide +kernel
theorem dX7_isSo_217 : decode cX7_isSo 217 = .ok (.iconst 0, 1) := by decide +kernel
theorem dX7_isSo_218 : decode cX7_isSo 218 = .ok (.ireturn, 1) := by decide +kernel
theorem dX7_latch_0 : decode cX7_latch 0 = .ok (.aload_n 0, 1) := by decide +kernel
theorem dX7_latch_1 : decode cX7_latch 1 = .ok (.aload_n 0, 1) := by decide +kernel
theorem dX7_latch_2 : decode cX7_latch 2 = .ok (.getfield 221, 3) := by decide +kernel
theorem dX7_latch_5 : decode cX7_latch 5 = .ok (.ifCond .ne 14, 3) := by decide +kernel
theorem dX7_latch_8 : decode cX7_latch 8 = .ok (.aload_n 0, 1) := by decide +kernel
theorem dX7_latch_9 : decode cX7_latch 9 = .ok (.getfield 224, 3) := by decide +kernel
theorem dX7_latch_12 : decode cX7_latch 12 = .ok (.iload_n 1, 1) := by decide +kernel
theorem dX7_latch_13 : decode cX7_latch 13 = .ok (.ishr, 1) := by decide +kernel
theorem dX7_latch_14 : decode cX7_latch 14 = .ok (.iconst 1, 1) := by decide +kernel
theorem dX7_latch_15 : decode cX7_latch 15 = .ok (.iand, 1) := by decide +kernel
theorem dX7_latch_16 : decode cX7_latch 16 = .ok (.ifCond .ne 7, 3) := by decide +kernel
theorem dX7_latch_19 : decode cX7_latch 19 = .ok (.iconst 1, 1) := by decide +kernel
theorem dX7_latch_20 : decode cX7_latch 20 = .ok (.goto 4, 3) := by decide +kernel
theorem dX7_latch_23 : decode cX7_latch 23 = .ok (.iconst 0, 1) := by decide +kernel
theorem dX7_latch_24 : decode cX7_latch 24 = .ok (.putfield 221, 3) := by decide +kernel
theorem dX7_latch_27 : decode cX7_latch 27 = .ok (.aload_n 0, 1) := by decide +kernel
theorem dX7_latch_28 : decode cX7_latch 28 = .ok (.aload_n 0, 1) := by decide +kernel
theorem dX7_latch_29 : decode cX7_latch 29 = .ok (.getfield 224, 3) := by decide +kernel
theorem dX7_latch_32 : decode cX7_latch 32 = .ok (.iconst 1, 1) := by decide +kernel
theorem dX7_latch_33 : decode cX7_latch 33 = .ok (.iload_n 1, 1) := by decide +kernel
theorem dX7_latch_34 : decode cX7_latch 34 = .ok (.ishl, 1) := by decide +kernel
theorem dX7_latch_35 : decode cX7_latch 35 = .ok (.ior, 1) := by decide +kernel
theorem dX7_latch_36 : decode cX7_latch 36 = .ok (.putfield 224, 3) := by decide +kernel
theorem dX7_latch_39 : decode cX7_latch 39 = .ok (.return_, 1) := by decide +kernel
theorem dX7_isSerious_0 : decode cX7_isSerious 0 = .ok (.aload_n 0, 1) := by decide +kernel
theorem dX7_isSerious_1 : decode cX7_isSerious 1 = .ok (.getfield 224, 3) := by decide +kernel
theorem dX7_isSerious_4 : decode cX7_isSerious 4 = .ok (.bipush (-35), 2) := by decide +kernel
theorem dX7_isSerious_6 : decode cX7_isSerious 6 = .ok (.iand, 1) := by decide +kernel
theorem dX7_isSerious_7 : decode cX7_isSerious 7 = .ok (.ifCond .eq 7, 3) := by decide +kernel
theorem dX7_isSerious_10 : decode cX7_isSerious 10 = .ok (.iconst 1, 1) := by decide +kernel
theorem dX7_isSerious_11 : decode cX7_isSerious 11 = .ok (.goto 4, 3) := by decide +kernel
theorem dX7_isSerious_14 : decode cX7_isSerious 14 = .ok (.iconst 0, 1) := by decide +kernel
theorem dX7_isSerious_15 : decode cX7_isSerious 15 = .ok (.ireturn, 1) := by decide +kernel
set_option maxRecDepth 20000 in
theorem ggX7_causes_X7_isSo : GoodIn wsX7_causes wsX7_isSo := goodIn_r _ [7, 8, 9, 10, 11, 12, 13, 14, 15, 16, 17, 18, 19, 6, 20, 21, 22, 23, 24, 25, 26, 27, 28, 29, 30, 31, 32, 33, 34, 35, 36, 37, 38, 39, 40, 41, 42, 43, 44, 45, 46, 47, 54, 55, 56, 57, 58, 59, 60, 61, 62, 63, 64, 65, 66, 67, 68, 69, 70, 71, 72, 73, 74, 75, 76, 77, 78, 79, 80, 81, 82, 83, 84, 85] (by decide +kernel) (by decide +kernel)
set_option maxRecDepth 20000 in
theorem gX7_causes_X7_isSo : GoodIn wsX7_causes (wsV RX7 227 RX7 yX7_isSo wsX7_isSo) := goodIn_app (goodIn_of _ (by decide +kernel)) ggX7_causes_X7_isSo
set_option maxRecDepth 20000 in
theorem ggX7_causes_X7_latch : GoodIn wsX7_causes wsX7_latch := goodIn_r _ [51, 52, 53, 54, 55, 56, 57, 58, 59, 60, 61, 62, 63, 64, 65, 66, 67, 68, 69, 70, 71, 72, 73, 74, 75, 76, 77, 78, 79, 80, 81, 82, 83, 84, 85] (by decide +kernel) (by decide +kernel)
set_option maxRecDepth 20000 in
theorem gX7_causes_X7_latch : GoodIn wsX7_causes (wsV RX7 230 RX7 yX7_latch wsX7_latch) := goodIn_app (goodIn_of _ (by decide +kernel)) ggX7_causes_X7_latch
theorem dX7_causes_0 : decode cX7_causes 0 = .ok (.iconst 0, 1) := by decide +kernel
theorem dX7_causes_1 : decode cX7_causes 1 = .ok (.istore_n 1, 1) := by decide +kernel
theorem dX7_causes_2 : decode cX7_causes 2 = .ok (.iload_n 1, 1) := by decide +kernel
theorem dX7_causes_3 : decode cX7_causes 3 = .ok (.bipush 7, 2) := by decide +kernel
theorem dX7_causes_5 : decode cX7_causes 5 = .ok (.if_icmp .ge 71, 3) := by decide +kernel
theorem dX7_causes_8 : decode cX7_causes 8 = .ok (.aload_n 0, 1) := by decide +kernel
theorem dX7_causes_9 : decode cX7_causes 9 = .ok (.getfield 35, 3) := by decide +kernel
theorem dX7_causes_12 : decode cX7_causes 12 = .ok (.iload_n 1, 1) := by decide +kernel
theorem dX7_causes_13 : decode cX7_causes 13 = .ok (.aload_n 0, 1) := by decide +kernel
theorem dX7_causes_14 : decode cX7_causes 14 = .ok (.iload_n 1, 1) := by decide +kernel
theorem dX7_causes_15 : decode cX7_causes 15 = .ok (.invokevirtual 227, 3) := by decide +kernel
theorem dX7_causes_18 : decode cX7_causes 18 = .ok (.ifCond .ne 7, 3) := by decide +kernel
theorem dX7_causes_21 : decode cX7_causes 21 = .ok (.iconst 0, 1) := by decide +kernel
theorem dX7_causes_22 : decode cX7_causes 22 = .ok (.goto 29, 3) := by decide +kernel
theorem dX7_causes_25 : decode cX7_causes 25 = .ok (.aload_n 0, 1) := by decide +kernel
theorem dX7_causes_26 : decode cX7_causes 26 = .ok (.getfield 35, 3) := by decide +kernel
theorem dX7_causes_29 : decode cX7_causes 29 = .ok (.iload_n 1, 1) := by decide +kernel
theorem dX7_causes_30 : decode cX7_causes 30 = .ok (.iaload, 1) := by decide +kernel
theorem dX7_causes_31 : decode cX7_causes 31 = .ok (.sipush 255, 3) := by decide +kernel
theorem dX7_causes_34 : decode cX7_causes 34 = .ok (.if_icmp .ge 14, 3) := by decide +kernel
theorem dX7_causes_37 : decode cX7_causes 37 = .ok (.aload_n 0, 1) := by decide +kernel
theorem dX7_causes_38 : decode cX7_causes 38 = .ok (.getfield 35, 3) := by decide +kernel
theorem dX7_causes_41 : decode cX7_causes 41 = .ok (.iload_n 1, 1) := by decide +kernel
theorem dX7_causes_42 : decode cX7_causes 42 = .ok (.iaload, 1) := by decide +kernel
theorem dX7_causes_43 : decode cX7_causes 43 = .ok (.iconst 1, 1) := by decide +kernel
theorem dX7_causes_44 : decode cX7_causes 44 = .ok (.iadd, 1) := by decide +kernel
theorem dX7_causes_45 : decode cX7_causes 45 = .ok (.goto 6, 3) := by decide +kernel
theorem dX7_causes_48 : decode cX7_causes 48 = .ok (.sipush 255, 3) := by decide +kernel
theorem dX7_causes_51 : decode cX7_causes 51 = .ok (.iastore, 1) := by decide +kernel
theorem dX7_causes_52 : decode cX7_causes 52 = .ok (.aload_n 0, 1) := by decide +kernel
theorem dX7_causes_53 : decode cX7_causes 53 = .ok (.getfield 35, 3) := by decide +kernel
theorem dX7_causes_56 : decode cX7_causes 56 = .ok (.iload_n 1, 1) := by decide +kernel
theorem dX7_causes_57 : decode cX7_causes 57 = .ok (.iaload, 1) := by decide +kernel
theorem dX7_causes_58 : decode cX7_causes 58 = .ok (.aload_n 0, 1) := by decide +kernel
theorem dX7_causes_59 : decode cX7_causes 59 = .ok (.getfield 61, 3) := by decide +kernel
theorem dX7_causes_62 : decode cX7_causes 62 = .ok (.if_icmp .lt 8, 3) := by decide +kernel
theorem dX7_causes_65 : decode cX7_causes 65 = .ok (.aload_n 0, 1) := by decide +kernel
theorem dX7_causes_66 : decode cX7_causes 66 = .ok (.iload_n 1, 1) := by decide +kernel
theorem dX7_causes_67 : decode cX7_causes 67 = .ok (.invokevirtual 230, 3) := by decide +kernel
theorem dX7_causes_70 : decode cX7_causes 70 = .ok (.iinc 1 1, 3) := by decide +kernel
theorem dX7_causes_73 : decode cX7_causes 73 = .ok (.goto (-71), 3) := by decide +kernel
theorem dX7_causes_76 : decode cX7_causes 76 = .ok (.return_, 1) := by decide +kernel
theorem dX7_become_0 : decode cX7_become 0 = .ok (.aload_n 0, 1) := by decide +kernel
theorem dX7_become_1 : decode cX7_become 1 = .ok (.iload_n 1, 1) := by decide +kernel
theorem dX7_become_2 : decode cX7_become 2 = .ok (.putfield 234, 3) := by decide +kernel
theorem dX7_become_5 : decode cX7_become 5 = .ok (.aload_n 0, 1) := by decide +kernel
theorem dX7_become_6 : decode cX7_become 6 = .ok (.iconst 0, 1) := by decide +kernel
theorem dX7_become_7 : decode cX7_become 7 = .ok (.putfield 237, 3) := by decide +kernel
theorem dX7_become_10 : decode cX7_become 10 = .ok (.return_, 1) := by decide +kernel
set_option maxRecDepth 20000 in
theorem ggX7_contactors_X7_isSerious : GoodIn wsX7_contactors wsX7_isSerious := goodIn_r _ [12, 13, 54, 55, 56, 57, 58, 59, 60, 61, 62, 63, 64, 65, 66, 67, 68, 69, 70, 71, 72, 73, 74, 75, 76, 77, 78, 79, 80, 81, 82, 83, 84, 85] (by decide +kernel) (by decide +kernel)
set_option maxRecDepth 20000 in
theorem gX7_contactors_X7_isSerious : GoodIn wsX7_contactors (wsV RX7 240 RX7 yX7_isSerious wsX7_isSerious) := goodIn_app (goodIn_of _ (by decide +kernel)) ggX7_contactors_X7_isSerious
set_option maxRecDepth 20000 in
theorem ggX7_contactors_X7_become : GoodIn wsX7_contactors wsX7_become := goodIn_r _ [17, 3, 1, 54, 55, 56, 57, 58, 59, 60, 61, 62, 63, 64, 65, 66, 67, 68, 69, 70, 71, 72, 73, 74, 75, 76, 77, 78, 79, 80, 81, 82, 83, 84, 85] (by decide +kernel) (by decide +kernel)
set_option maxRecDepth 20000 in
theorem gX7_contactors_X7_become : GoodIn wsX7_contactors (wsV RX7 243 RX7 yX7_become wsX7_become) := goodIn_app (goodIn_of _ (by decide +kernel)) ggX7_contactors_X7_become
set_option maxRecDepth 20000 in
theorem ggX7_contactors_X7_areAllValid : GoodIn wsX7_contactors wsX7_areAllValid := goodIn_r _ [21, 22, 23, 24, 25, 11, 26, 27, 28, 29, 30, 31, 32, 33, 34, 35, 36, 37, 38, 39, 40, 41, 42, 43, 44, 54, 55, 56, 57, 58, 59, 60, 61, 62, 63, 64, 65, 66, 67, 68, 69, 70, 71, 72, 73, 74, 75, 76, 77, 78, 79, 80, 81, 82, 83, 84, 85] (by decide +kernel) (by decide +kernel)
set_option maxRecDepth 20000 in
theorem gX7_contactors_X7_areAllValid : GoodIn wsX7_contactors (wsV RX7 158 RX7 yX7_areAllValid wsX7_areAllValid) := goodIn_app (goodIn_of _ (by decide +kernel)) ggX7_contactors_X7_areAllValid
set_option maxRecDepth 20000 in
theorem ggX7_contactors_X7_sum : GoodIn wsX7_contactors wsX7_sum := goodIn_r _ [48, 22, 23, 24, 25, 11, 26, 27, 28, 29, 30, 31, 32, 33, 34, 35, 36, 37, 38, 39, 40, 41, 42, 43, 44, 54, 55, 56, 57, 58, 59, 60, 61, 62, 63, 64, 65, 66, 67, 68, 69, 70, 71, 72, 73, 74, 75, 76, 77, 78, 79, 80, 81, 82, 83, 84, 85] (by decide +kernel) (by decide +kernel)
set_option maxRecDepth 20000 in
theorem gX7_contactors_X7_sum : GoodIn wsX7_contactors (wsV RX7 164 RX7 yX7_sum wsX7_sum) := goodIn_app (goodIn_of _ (by decide +kernel)) ggX7_contactors_X7_sum
set_option maxRecDepth 20000 in
theorem ggX7_contactors_X7_latch : GoodIn wsX7_contactors wsX7_latch := goodIn_r _ [52, 53, 13, 54, 55, 56, 57, 58, 59, 60, 61, 62, 63, 64, 65, 66, 67, 68, 69, 70, 71, 72, 73, 74, 75, 76, 77, 78, 79, 80, 81, 82, 83, 84, 85] (by decide +kernel) (by decide +kernel)
set_option maxRecDepth 20000 in
theorem gX7_contactors_X7_latch : GoodIn wsX7_contactors (wsV RX7 230 RX7 yX7_latch wsX7_latch) := goodIn_app (goodIn_of _ (by decide +kernel)) ggX7_contactors_X7_latch
theorem dX7_contactors_0 : decode cX7_contactors 0 = .ok (.aload_n 0, 1) := by decide +kernel
theorem dX7_contactors_1 : decode cX7_contactors 1 = .ok (.dup, 1) := by decide +kernel
theorem dX7_contactors_2 : decode cX7_contactors 2 = .ok (.getfield 237, 3) := by decide +kernel
theorem dX7_contactors_5 : decode cX7_contactors 5 = .ok (.iconst 1, 1) := by decide +kernel
theorem dX7_contactors_6 : decode cX7_contactors 6 = .ok (.iadd, 1) := by decide +kernel
theorem dX7_contactors_7 : decode cX7_contactors 7 = .ok (.putfield 237, 3) := by decide +kernel
theorem dX7_contactors_10 : decode cX7_contactors 10 = .ok (.aload_n 0, 1) := by decide +kernel
theorem dX7_contactors_11 : decode cX7_contactors 11 = .ok (.getfield 109, 3) := by decide +kernel
theorem dX7_contactors_14 : decode cX7_contactors 14 = .ok (.ifCond .eq 14, 3) := by decide +kernel
theorem dX7_contactors_17 : decode cX7_contactors 17 = .ok (.aload_n 0, 1) := by decide +kernel
theorem dX7_contactors_18 : decode cX7_contactors 18 = .ok (.invokevirtual 240, 3) := by decide +kernel
theorem dX7_contactors_21 : decode cX7_contactors 21 = .ok (.ifCond .ne 7, 3) := by decide +kernel
theorem dX7_contactors_24 : decode cX7_contactors 24 = .ok (.iconst 1, 1) := by decide +kernel
theorem dX7_contactors_25 : decode cX7_contactors 25 = .ok (.goto 4, 3) := by decide +kernel
theorem dX7_contactors_28 : decode cX7_contactors 28 = .ok (.iconst 0, 1) := by decide +kernel
theorem dX7_contactors_29 : decode cX7_contactors 29 = .ok (.istore_n 1, 1) := by decide +kernel
theorem dX7_contactors_30 : decode cX7_contactors 30 = .ok (.aload_n 0, 1) := by decide +kernel
theorem dX7_contactors_31 : decode cX7_contactors 31 = .ok (.getfield 234, 3) := by decide +kernel
theorem dX7_contactors_34 : decode cX7_contactors 34 = .ok (.ifCond .le 23, 3) := by decide +kernel
theorem dX7_contactors_37 : decode cX7_contactors 37 = .ok (.aload_n 0, 1) := by decide +kernel
theorem dX7_contactors_38 : decode cX7_contactors 38 = .ok (.getfield 234, 3) := by decide +kernel
theorem dX7_contactors_41 : decode cX7_contactors 41 = .ok (.iconst 4, 1) := by decide +kernel
theorem dX7_contactors_42 : decode cX7_contactors 42 = .ok (.if_icmp .ge 15, 3) := by decide +kernel
theorem dX7_contactors_45 : decode cX7_contactors 45 = .ok (.iload_n 1, 1) := by decide +kernel
theorem dX7_contactors_46 : decode cX7_contactors 46 = .ok (.ifCond .ne 11, 3) := by decide +kernel
theorem dX7_contactors_49 : decode cX7_contactors 49 = .ok (.aload_n 0, 1) := by decide +kernel
theorem dX7_contactors_50 : decode cX7_contactors 50 = .ok (.iconst 4, 1) := by decide +kernel
theorem dX7_contactors_51 : decode cX7_contactors 51 = .ok (.invokevirtual 243, 3) := by decide +kernel
theorem dX7_contactors_54 : decode cX7_contactors 54 = .ok (.goto 167, 3) := by decide +kernel
theorem dX7_contactors_57 : decode cX7_contactors 57 = .ok (.aload_n 0, 1) := by decide +kernel
theorem dX7_contactors_58 : decode cX7_contactors 58 = .ok (.getfield 234, 3) := by decide +kernel
theorem dX7_contactors_61 : decode cX7_contactors 61 = .ok (.ifCond .ne 15, 3) := by decide +kernel
theorem dX7_contactors_64 : decode cX7_contactors 64 = .ok (.iload_n 1, 1) := by decide +kernel
theorem dX7_contactors_65 : decode cX7_contactors 65 = .ok (.ifCond .eq 11, 3) := by decide +kernel
theorem dX7_contactors_68 : decode cX7_contactors 68 = .ok (.aload_n 0, 1) := by decide +kernel
theorem dX7_contactors_69 : decode cX7_contactors 69 = .ok (.iconst 1, 1) := by decide +kernel
theorem dX7_contactors_70 : decode cX7_contactors 70 = .ok (.invokevirtual 243, 3) := by decide +kernel
theorem dX7_contactors_73 : decode cX7_contactors 73 = .ok (.goto 148, 3) := by decide +kernel
theorem dX7_contactors_76 : decode cX7_contactors 76 = .ok (.aload_n 0, 1) := by decide +kernel
theorem dX7_contactors_77 : decode cX7_contactors 77 = .ok (.getfield 234, 3) := by decide +kernel
theorem dX7_contactors_80 : decode cX7_contactors 80 = .ok (.iconst 1, 1) := by decide +kernel
theorem dX7_contactors_81 : decode cX7_contactors 81 = .ok (.if_icmp .ne 19, 3) := by decide +kernel
theorem dX7_contactors_84 : decode cX7_contactors 84 = .ok (.aload_n 0, 1) := by decide +kernel
theorem dX7_contactors_85 : decode cX7_contactors 85 = .ok (.getfield 237, 3) := by decide +kernel
theorem dX7_contactors_88 : decode cX7_contactors 88 = .ok (.iconst 2, 1) := by decide +kernel
theorem dX7_contactors_89 : decode cX7_contactors 89 = .ok (.if_icmp .lt 11, 3) := by decide +kernel
theorem dX7_contactors_92 : decode cX7_contactors 92 = .ok (.aload_n 0, 1) := by decide +kernel
theorem dX7_contactors_93 : decode cX7_contactors 93 = .ok (.iconst 2, 1) := by decide +kernel
theorem dX7_contactors_94 : decode cX7_contactors 94 = .ok (.invokevirtual 243, 3) := by decide +kernel
theorem dX7_contactors_97 : decode cX7_contactors 97 = .ok (.goto 124, 3) := by decide +kernel
theorem dX7_contactors_100 : decode cX7_contactors 100 = .ok (.aload_n 0, 1) := by decide +kernel
theorem dX7_contactors_101 : decode cX7_contactors 101 = .ok (.getfield 234, 3) := by decide +kernel
theorem dX7_contactors_104 : decode cX7_contactors 104 = .ok (.iconst 2, 1) := by decide +kernel
theorem dX7_contactors_105 : decode cX7_contactors 105 = .ok (.if_icmp .ne 40, 3) := by decide +kernel
theorem dX7_contactors_108 : decode cX7_contactors 108 = .ok (.aload_n 0, 1) := by decide +kernel
theorem dX7_contactors_109 : decode cX7_contactors 109 = .ok (.invokevirtual 158, 3) := by decide +kernel
theorem dX7_contactors_112 : decode cX7_contactors 112 = .ok (.ifCond .eq 33, 3) := by decide +kernel
theorem dX7_contactors_115 : decode cX7_contactors 115 = .ok (.ldc2_w 246, 3) := by decide +kernel
theorem dX7_contactors_118 : decode cX7_contactors 118 = .ok (.aload_n 0, 1) := by decide +kernel
theorem dX7_contactors_119 : decode cX7_contactors 119 = .ok (.getfield 106, 3) := by decide +kernel
theorem dX7_contactors_122 : decode cX7_contactors 122 = .ok (.i2l, 1) := by decide +kernel
theorem dX7_contactors_123 : decode cX7_contactors 123 = .ok (.lmul, 1) := by decide +kernel
theorem dX7_contactors_124 : decode cX7_contactors 124 = .ok (.ldc2_w 248, 3) := by decide +kernel
theorem dX7_contactors_127 : decode cX7_contactors 127 = .ok (.aload_n 0, 1) := by decide +kernel
theorem dX7_contactors_128 : decode cX7_contactors 128 = .ok (.invokevirtual 164, 3) := by decide +kernel
theorem dX7_contactors_131 : decode cX7_contactors 131 = .ok (.i2l, 1) := by decide +kernel
theorem dX7_contactors_132 : decode cX7_contactors 132 = .ok (.lmul, 1) := by decide +kernel
theorem dX7_contactors_133 : decode cX7_contactors 133 = .ok (.lcmp, 1) := by decide +kernel
theorem dX7_contactors_134 : decode cX7_contactors 134 = .ok (.ifCond .lt 11, 3) := by decide +kernel
theorem dX7_contactors_137 : decode cX7_contactors 137 = .ok (.aload_n 0, 1) := by decide +kernel
theorem dX7_contactors_138 : decode cX7_contactors 138 = .ok (.iconst 3, 1) := by decide +kernel
theorem dX7_contactors_139 : decode cX7_contactors 139 = .ok (.invokevirtual 243, 3) := by decide +kernel
theorem dX7_contactors_142 : decode cX7_contactors 142 = .ok (.goto 79, 3) := by decide +kernel
theorem dX7_contactors_145 : decode cX7_contactors 145 = .ok (.aload_n 0, 1) := by decide +kernel
theorem dX7_contactors_146 : decode cX7_contactors 146 = .ok (.getfield 234, 3) := by decide +kernel
theorem dX7_contactors_149 : decode cX7_contactors 149 = .ok (.iconst 2, 1) := by decide +kernel
theorem dX7_contactors_150 : decode cX7_contactors 150 = .ok (.if_icmp .ne 26, 3) := by decide +kernel
theorem dX7_contactors_153 : decode cX7_contactors 153 = .ok (.aload_n 0, 1) := by decide +kernel
theorem dX7_contactors_154 : decode cX7_contactors 154 = .ok (.getfield 237, 3) := by decide +kernel
theorem dX7_contactors_157 : decode cX7_contactors 157 = .ok (.bipush 30, 2) := by decide +kernel
theorem dX7_contactors_159 : decode cX7_contactors 159 = .ok (.if_icmp .lt 17, 3) := by decide +kernel
theorem dX7_contactors_162 : decode cX7_contactors 162 = .ok (.aload_n 0, 1) := by decide +kernel
theorem dX7_contactors_163 : decode cX7_contactors 163 = .ok (.bipush 7, 2) := by decide +kernel
theorem dX7_contactors_165 : decode cX7_contactors 165 = .ok (.invokevirtual 230, 3) := by decide +kernel
theorem dX7_contactors_168 : decode cX7_contactors 168 = .ok (.aload_n 0, 1) := by decide +kernel
theorem dX7_contactors_169 : decode cX7_contactors 169 = .ok (.iconst 4, 1) := by decide +kernel
theorem dX7_contactors_170 : decode cX7_contactors 170 = .ok (.invokevirtual 243, 3) := by decide +kernel
theorem dX7_contactors_173 : decode cX7_contactors 173 = .ok (.goto 48, 3) := by decide +kernel
theorem dX7_contactors_176 : decode cX7_contactors 176 = .ok (.aload_n 0, 1) := by decide +kernel
theorem dX7_contactors_177 : decode cX7_contactors 177 = .ok (.getfield 234, 3) := by decide +kernel
theorem dX7_contactors_180 : decode cX7_contactors 180 = .ok (.iconst 4, 1) := by decide +kernel
theorem dX7_contactors_181 : decode cX7_contactors 181 = .ok (.if_icmp .ne 40, 3) := by decide +kernel
theorem dX7_contactors_184 : decode cX7_contactors 184 = .ok (.aload_n 0, 1) := by decide +kernel
theorem dX7_contactors_185 : decode cX7_contactors 185 = .ok (.getfield 237, 3) := by decide +kernel
theorem dX7_contactors_188 : decode cX7_contactors 188 = .ok (.iconst 3, 1) := by decide +kernel
theorem dX7_contactors_189 : decode cX7_contactors 189 = .ok (.if_icmp .lt 32, 3) := by decide +kernel
theorem dX7_contactors_192 : decode cX7_contactors 192 = .ok (.aload_n 0, 1) := by decide +kernel
theorem dX7_contactors_193 : decode cX7_contactors 193 = .ok (.iconst 0, 1) := by decide +kernel
theorem dX7_contactors_194 : decode cX7_contactors 194 = .ok (.invokevirtual 243, 3) := by decide +kernel
theorem dX7_contactors_197 : decode cX7_contactors 197 = .ok (.ldc2_w 188, 3) := by decide +kernel
theorem dX7_contactors_200 : decode cX7_contactors 200 = .ok (.aload_n 0, 1) := by decide +kernel
theorem dX7_contactors_201 : decode cX7_contactors 201 = .ok (.getfield 106, 3) := by decide +kernel
theorem dX7_contactors_204 : decode cX7_contactors 204 = .ok (.i2l, 1) := by decide +kernel
theorem dX7_contactors_205 : decode cX7_contactors 205 = .ok (.lmul, 1) := by decide +kernel
theorem dX7_contactors_206 : decode cX7_contactors 206 = .ok (.aload_n 0, 1) := by decide +kernel
theorem dX7_contactors_207 : decode cX7_contactors 207 = .ok (.invokevirtual 164, 3) := by decide +kernel
theorem dX7_contactors_210 : decode cX7_contactors 210 = .ok (.i2l, 1) := by decide +kernel
theorem dX7_contactors_211 : decode cX7_contactors 211 = .ok (.lcmp, 1) := by decide +kernel
theorem dX7_contactors_212 : decode cX7_contactors 212 = .ok (.ifCond .le 9, 3) := by decide +kernel
theorem dX7_contactors_215 : decode cX7_contactors 215 = .ok (.aload_n 0, 1) := by decide +kernel
theorem dX7_contactors_216 : decode cX7_contactors 216 = .ok (.bipush 8, 2) := by decide +kernel
theorem dX7_contactors_218 : decode cX7_contactors 218 = .ok (.invokevirtual 230, 3) := by decide +kernel
theorem dX7_contactors_221 : decode cX7_contactors 221 = .ok (.return_, 1) := by decide +kernel
set_option maxRecDepth 20000 in
theorem ggX7_bleed_X7_isSerious : GoodIn wsX7_bleed wsX7_isSerious := goodIn_r _ [12, 13, 39, 40, 41, 42, 43, 44, 45, 46, 47, 48, 49, 50, 51, 52, 53, 54, 55, 56, 57, 58, 59, 60, 61, 62, 63, 64, 65, 66, 67, 68, 69, 70] (by decide +kernel) (by decide +kernel)
set_option maxRecDepth 20000 in
theorem gX7_bleed_X7_isSerious : GoodIn wsX7_bleed (wsV RX7 240 RX7 yX7_isSerious wsX7_isSerious) := goodIn_app (goodIn_of _ (by decide +kernel)) ggX7_bleed_X7_isSerious
set_option maxRecDepth 20000 in
theorem ggX7_bleed_X7_sizeOf : GoodIn wsX7_bleed wsX7_sizeOf := goodIn_r _ [16] (by decide +kernel) (by decide +kernel)
set_option maxRecDepth 20000 in
theorem gX7_bleed_X7_sizeOf : GoodIn wsX7_bleed (va_wsS RX7 147 yX7_sizeOf wsX7_sizeOf) := goodIn_app (goodIn_of _ (by decide +kernel)) ggX7_bleed_X7_sizeOf
set_option maxRecDepth 20000 in
theorem ggX7_bleed_X7_isValid : GoodIn wsX7_bleed wsX7_isValid := goodIn_r _ [20, 21, 22, 23, 24, 11, 25, 26, 27, 28, 29, 30, 31, 32, 33, 34, 35, 36, 37, 38, 39, 40, 41, 42, 43, 44, 45, 46, 47, 48, 49, 50, 51, 52, 53, 54, 55, 56, 57, 58, 59, 60, 61, 62, 63, 64, 65, 66, 67, 68, 69, 70] (by decide +kernel) (by decide +kernel)
set_option maxRecDepth 20000 in
theorem gX7_bleed_X7_isValid : GoodIn wsX7_bleed (wsV RX7 130 RX7 yX7_isValid wsX7_isValid) := goodIn_app (goodIn_of _ (by decide +kernel)) ggX7_bleed_X7_isValid
set_option maxRecDepth 20000 in
theorem ggX7_bleed_X7_numberOf : GoodIn wsX7_bleed wsX7_numberOf := goodIn_r _ [31, 26, 32, 39, 40, 41, 42, 43, 44, 45, 46, 47, 48, 49, 50, 51, 52, 53, 54, 55, 56, 57, 58, 59, 60, 61, 62, 63, 64, 65, 66, 67, 68, 69, 70] (by decide +kernel) (by decide +kernel)
set_option maxRecDepth 20000 in
theorem gX7_bleed_X7_numberOf : GoodIn wsX7_bleed (wsV RX7 117 RX7 yX7_numberOf wsX7_numberOf) := goodIn_app (goodIn_of _ (by decide +kernel)) ggX7_bleed_X7_numberOf
theorem dX7_bleed_0 : decode cX7_bleed 0 = .ok (.aload_n 0, 1) := by decide +kernel
theorem dX7_bleed_1 : decode cX7_bleed 1 = .ok (.getfield 234, 3) := by decide +kernel
theorem dX7_bleed_4 : decode cX7_bleed 4 = .ok (.ifCond .eq 11, 3) := by decide +kernel
theorem dX7_bleed_7 : decode cX7_bleed 7 = .ok (.aload_n 0, 1) := by decide +kernel
theorem dX7_bleed_8 : decode cX7_bleed 8 = .ok (.getfield 234, 3) := by decide +kernel
theorem dX7_bleed_11 : decode cX7_bleed 11 = .ok (.iconst 3, 1) := by decide +kernel
theorem dX7_bleed_12 : decode cX7_bleed 12 = .ok (.if_icmp .ne 28, 3) := by decide +kernel
theorem dX7_bleed_15 : decode cX7_bleed 15 = .ok (.aload_n 0, 1) := by decide +kernel
theorem dX7_bleed_16 : decode cX7_bleed 16 = .ok (.invokevirtual 240, 3) := by decide +kernel
theorem dX7_bleed_19 : decode cX7_bleed 19 = .ok (.ifCond .ne 21, 3) := by decide +kernel
theorem dX7_bleed_22 : decode cX7_bleed 22 = .ok (.aload_n 0, 1) := by decide +kernel
theorem dX7_bleed_23 : decode cX7_bleed 23 = .ok (.getfield 92, 3) := by decide +kernel
theorem dX7_bleed_26 : decode cX7_bleed 26 = .ok (.invokestatic 147, 3) := by decide +kernel
theorem dX7_bleed_29 : decode cX7_bleed 29 = .ok (.ldc2_w 250, 3) := by decide +kernel
theorem dX7_bleed_32 : decode cX7_bleed 32 = .ok (.lcmp, 1) := by decide +kernel
theorem dX7_bleed_33 : decode cX7_bleed 33 = .ok (.ifCond .ge 7, 3) := by decide +kernel
theorem dX7_bleed_36 : decode cX7_bleed 36 = .ok (.iconst 1, 1) := by decide +kernel
theorem dX7_bleed_37 : decode cX7_bleed 37 = .ok (.goto 4, 3) := by decide +kernel
theorem dX7_bleed_40 : decode cX7_bleed 40 = .ok (.iconst 0, 1) := by decide +kernel
theorem dX7_bleed_41 : decode cX7_bleed 41 = .ok (.istore_n 1, 1) := by decide +kernel
theorem dX7_bleed_42 : decode cX7_bleed 42 = .ok (.ldc 252, 2) := by decide +kernel
theorem dX7_bleed_44 : decode cX7_bleed 44 = .ok (.istore_n 2, 1) := by decide +kernel
theorem dX7_bleed_45 : decode cX7_bleed 45 = .ok (.iconst 0, 1) := by decide +kernel
theorem dX7_bleed_46 : decode cX7_bleed 46 = .ok (.istore_n 3, 1) := by decide +kernel
theorem dX7_bleed_47 : decode cX7_bleed 47 = .ok (.iload_n 3, 1) := by decide +kernel
theorem dX7_bleed_48 : decode cX7_bleed 48 = .ok (.bipush 6, 2) := by decide +kernel
theorem dX7_bleed_50 : decode cX7_bleed 50 = .ok (.aload_n 0, 1) := by decide +kernel
theorem dX7_bleed_51 : decode cX7_bleed 51 = .ok (.getfield 49, 3) := by decide +kernel
theorem dX7_bleed_54 : decode cX7_bleed 54 = .ok (.imul, 1) := by decide +kernel
theorem dX7_bleed_55 : decode cX7_bleed 55 = .ok (.if_icmp .ge 55, 3) := by decide +kernel
theorem dX7_bleed_58 : decode cX7_bleed 58 = .ok (.aload_n 0, 1) := by decide +kernel
theorem dX7_bleed_59 : decode cX7_bleed 59 = .ok (.iload_n 3, 1) := by decide +kernel
theorem dX7_bleed_60 : decode cX7_bleed 60 = .ok (.bipush 6, 2) := by decide +kernel
theorem dX7_bleed_62 : decode cX7_bleed 62 = .ok (.idiv, 1) := by decide +kernel
theorem dX7_bleed_63 : decode cX7_bleed 63 = .ok (.iload_n 3, 1) := by decide +kernel
theorem dX7_bleed_64 : decode cX7_bleed 64 = .ok (.bipush 6, 2) := by decide +kernel
theorem dX7_bleed_66 : decode cX7_bleed 66 = .ok (.irem, 1) := by decide +kernel
theorem dX7_bleed_67 : decode cX7_bleed 67 = .ok (.invokevirtual 130, 3) := by decide +kernel
theorem dX7_bleed_70 : decode cX7_bleed 70 = .ok (.ifCond .eq 34, 3) := by decide +kernel
theorem dX7_bleed_73 : decode cX7_bleed 73 = .ok (.aload_n 0, 1) := by decide +kernel
theorem dX7_bleed_74 : decode cX7_bleed 74 = .ok (.iload_n 3, 1) := by decide +kernel
theorem dX7_bleed_75 : decode cX7_bleed 75 = .ok (.bipush 6, 2) := by decide +kernel
theorem dX7_bleed_77 : decode cX7_bleed 77 = .ok (.idiv, 1) := by decide +kernel
theorem dX7_bleed_78 : decode cX7_bleed 78 = .ok (.iload_n 3, 1) := by decide +kernel
theorem dX7_bleed_79 : decode cX7_bleed 79 = .ok (.bipush 6, 2) := by decide +kernel
theorem dX7_bleed_81 : decode cX7_bleed 81 = .ok (.irem, 1) := by decide +kernel
theorem dX7_bleed_82 : decode cX7_bleed 82 = .ok (.iconst 0, 1) := by decide +kernel
theorem dX7_bleed_83 : decode cX7_bleed 83 = .ok (.invokevirtual 117, 3) := by decide +kernel
theorem dX7_bleed_86 : decode cX7_bleed 86 = .ok (.iload_n 2, 1) := by decide +kernel
theorem dX7_bleed_87 : decode cX7_bleed 87 = .ok (.if_icmp .ge 17, 3) := by decide +kernel
theorem dX7_bleed_90 : decode cX7_bleed 90 = .ok (.aload_n 0, 1) := by decide +kernel
theorem dX7_bleed_91 : decode cX7_bleed 91 = .ok (.iload_n 3, 1) := by decide +kernel
theorem dX7_bleed_92 : decode cX7_bleed 92 = .ok (.bipush 6, 2) := by decide +kernel
theorem dX7_bleed_94 : decode cX7_bleed 94 = .ok (.idiv, 1) := by decide +kernel
theorem dX7_bleed_95 : decode cX7_bleed 95 = .ok (.iload_n 3, 1) := by decide +kernel
theorem dX7_bleed_96 : decode cX7_bleed 96 = .ok (.bipush 6, 2) := by decide +kernel
theorem dX7_bleed_98 : decode cX7_bleed 98 = .ok (.irem, 1) := by decide +kernel
theorem dX7_bleed_99 : decode cX7_bleed 99 = .ok (.iconst 0, 1) := by decide +kernel
theorem dX7_bleed_100 : decode cX7_bleed 100 = .ok (.invokevirtual 117, 3) := by decide +kernel
theorem dX7_bleed_103 : decode cX7_bleed 103 = .ok (.istore_n 2, 1) := by decide +kernel
theorem dX7_bleed_104 : decode cX7_bleed 104 = .ok (.iinc 3 1, 3) := by decide +kernel
theorem dX7_bleed_107 : decode cX7_bleed 107 = .ok (.goto (-60), 3) := by decide +kernel
theorem dX7_bleed_110 : decode cX7_bleed 110 = .ok (.iconst 0, 1) := by decide +kernel
theorem dX7_bleed_111 : decode cX7_bleed 111 = .ok (.istore_n 3, 1) := by decide +kernel
theorem dX7_bleed_112 : decode cX7_bleed 112 = .ok (.iload_n 3, 1) := by decide +kernel
theorem dX7_bleed_113 : decode cX7_bleed 113 = .ok (.aload_n 0, 1) := by decide +kernel
theorem dX7_bleed_114 : decode cX7_bleed 114 = .ok (.getfield 49, 3) := by decide +kernel
theorem dX7_bleed_117 : decode cX7_bleed 117 = .ok (.if_icmp .ge 116, 3) := by decide +kernel
theorem dX7_bleed_120 : decode cX7_bleed 120 = .ok (.aload_n 0, 1) := by decide +kernel
theorem dX7_bleed_121 : decode cX7_bleed 121 = .ok (.getfield 38, 3) := by decide +kernel
theorem dX7_bleed_124 : decode cX7_bleed 124 = .ok (.iload_n 3, 1) := by decide +kernel
theorem dX7_bleed_125 : decode cX7_bleed 125 = .ok (.iconst 0, 1) := by decide +kernel
theorem dX7_bleed_126 : decode cX7_bleed 126 = .ok (.iastore, 1) := by decide +kernel
theorem dX7_bleed_127 : decode cX7_bleed 127 = .ok (.iconst 0, 1) := by decide +kernel
theorem dX7_bleed_128 : decode cX7_bleed 128 = .ok (.istore 4, 2) := by decide +kernel
theorem dX7_bleed_130 : decode cX7_bleed 130 = .ok (.iload 4, 2) := by decide +kernel
theorem dX7_bleed_132 : decode cX7_bleed 132 = .ok (.bipush 6, 2) := by decide +kernel
theorem dX7_bleed_134 : decode cX7_bleed 134 = .ok (.if_icmp .ge 93, 3) := by decide +kernel
theorem dX7_bleed_137 : decode cX7_bleed 137 = .ok (.iload_n 1, 1) := by decide +kernel
theorem dX7_bleed_138 : decode cX7_bleed 138 = .ok (.ifCond .eq 89, 3) := by decide +kernel
theorem dX7_bleed_141 : decode cX7_bleed 141 = .ok (.iload 4, 2) := by decide +kernel
theorem dX7_bleed_143 : decode cX7_bleed 143 = .ok (.aload_n 0, 1) := by decide +kernel
theorem dX7_bleed_144 : decode cX7_bleed 144 = .ok (.getfield 253, 3) := by decide +kernel
theorem dX7_bleed_147 : decode cX7_bleed 147 = .ok (.iadd, 1) := by decide +kernel
theorem dX7_bleed_148 : decode cX7_bleed 148 = .ok (.iconst 2, 1) := by decide +kernel
theorem dX7_bleed_149 : decode cX7_bleed 149 = .ok (.irem, 1) := by decide +kernel
theorem dX7_bleed_150 : decode cX7_bleed 150 = .ok (.ifCond .ne 7, 3) := by decide +kernel
theorem dX7_bleed_153 : decode cX7_bleed 153 = .ok (.iconst 1, 1) := by decide +kernel
theorem dX7_bleed_154 : decode cX7_bleed 154 = .ok (.goto 4, 3) := by decide +kernel
theorem dX7_bleed_157 : decode cX7_bleed 157 = .ok (.iconst 0, 1) := by decide +kernel
theorem dX7_bleed_158 : decode cX7_bleed 158 = .ok (.istore 5, 2) := by decide +kernel
theorem dX7_bleed_160 : decode cX7_bleed 160 = .ok (.iload 5, 2) := by decide +kernel
theorem dX7_bleed_162 : decode cX7_bleed 162 = .ok (.ifCond .eq 59, 3) := by decide +kernel
theorem dX7_bleed_165 : decode cX7_bleed 165 = .ok (.aload_n 0, 1) := by decide +kernel
theorem dX7_bleed_166 : decode cX7_bleed 166 = .ok (.iload_n 3, 1) := by decide +kernel
theorem dX7_bleed_167 : decode cX7_bleed 167 = .ok (.iload 4, 2) := by decide +kernel
theorem dX7_bleed_169 : decode cX7_bleed 169 = .ok (.invokevirtual 130, 3) := by decide +kernel
theorem dX7_bleed_172 : decode cX7_bleed 172 = .ok (.ifCond .eq 49, 3) := by decide +kernel
theorem dX7_bleed_175 : decode cX7_bleed 175 = .ok (.aload_n 0, 1) := by decide +kernel
theorem dX7_bleed_176 : decode cX7_bleed 176 = .ok (.iload_n 3, 1) := by decide +kernel
theorem dX7_bleed_177 : decode cX7_bleed 177 = .ok (.iload 4, 2) := by decide +kernel
theorem dX7_bleed_179 : decode cX7_bleed 179 = .ok (.iconst 0, 1) := by decide +kernel
theorem dX7_bleed_180 : decode cX7_bleed 180 = .ok (.invokevirtual 117, 3) := by decide +kernel
theorem dX7_bleed_183 : decode cX7_bleed 183 = .ok (.sipush 3300, 3) := by decide +kernel
theorem dX7_bleed_186 : decode cX7_bleed 186 = .ok (.if_icmp .le 35, 3) := by decide +kernel
theorem dX7_bleed_189 : decode cX7_bleed 189 = .ok (.aload_n 0, 1) := by decide +kernel
theorem dX7_bleed_190 : decode cX7_bleed 190 = .ok (.iload_n 3, 1) := by decide +kernel
theorem dX7_bleed_191 : decode cX7_bleed 191 = .ok (.iload 4, 2) := by decide +kernel
theorem dX7_bleed_193 : decode cX7_bleed 193 = .ok (.iconst 0, 1) := by decide +kernel
theorem dX7_bleed_194 : decode cX7_bleed 194 = .ok (.invokevirtual 117, 3) := by decide +kernel
theorem dX7_bleed_197 : decode cX7_bleed 197 = .ok (.iload_n 2, 1) := by decide +kernel
theorem dX7_bleed_198 : decode cX7_bleed 198 = .ok (.bipush 8, 2) := by decide +kernel
theorem dX7_bleed_200 : decode cX7_bleed 200 = .ok (.iadd, 1) := by decide +kernel
theorem dX7_bleed_201 : decode cX7_bleed 201 = .ok (.if_icmp .le 20, 3) := by decide +kernel
theorem dX7_bleed_204 : decode cX7_bleed 204 = .ok (.aload_n 0, 1) := by decide +kernel
theorem dX7_bleed_205 : decode cX7_bleed 205 = .ok (.getfield 38, 3) := by decide +kernel
theorem dX7_bleed_208 : decode cX7_bleed 208 = .ok (.iload_n 3, 1) := by decide +kernel
theorem dX7_bleed_209 : decode cX7_bleed 209 = .ok (.aload_n 0, 1) := by decide +kernel
theorem dX7_bleed_210 : decode cX7_bleed 210 = .ok (.getfield 38, 3) := by decide +kernel
theorem dX7_bleed_213 : decode cX7_bleed 213 = .ok (.iload_n 3, 1) := by decide +kernel
theorem dX7_bleed_214 : decode cX7_bleed 214 = .ok (.iaload, 1) := by decide +kernel
theorem dX7_bleed_215 : decode cX7_bleed 215 = .ok (.iconst 1, 1) := by decide +kernel
theorem dX7_bleed_216 : decode cX7_bleed 216 = .ok (.iload 4, 2) := by decide +kernel
theorem dX7_bleed_218 : decode cX7_bleed 218 = .ok (.ishl, 1) := by decide +kernel
theorem dX7_bleed_219 : decode cX7_bleed 219 = .ok (.ior, 1) := by decide +kernel
theorem dX7_bleed_220 : decode cX7_bleed 220 = .ok (.iastore, 1) := by decide +kernel
theorem dX7_bleed_221 : decode cX7_bleed 221 = .ok (.iinc 4 1, 3) := by decide +kernel
theorem dX7_bleed_224 : decode cX7_bleed 224 = .ok (.goto (-94), 3) := by decide +kernel
theorem dX7_bleed_227 : decode cX7_bleed 227 = .ok (.iinc 3 1, 3) := by decide +kernel
theorem dX7_bleed_230 : decode cX7_bleed 230 = .ok (.goto (-118), 3) := by decide +kernel
theorem dX7_bleed_233 : decode cX7_bleed 233 = .ok (.return_, 1) := by decide +kernel
theorem dX7_putBlock_0 : decode cX7_putBlock 0 = .ok (.iconst 0, 1) := by decide +kernel
theorem dX7_putBlock_1 : decode cX7_putBlock 1 = .ok (.istore 5, 2) := by decide +kernel
theorem dX7_putBlock_3 : decode cX7_putBlock 3 = .ok (.iload 5, 2) := by decide +kernel
theorem dX7_putBlock_5 : decode cX7_putBlock 5 = .ok (.iload_n 2, 1) := by decide +kernel
theorem dX7_putBlock_6 : decode cX7_putBlock 6 = .ok (.if_icmp .ge 30, 3) := by decide +kernel
theorem dX7_putBlock_9 : decode cX7_putBlock 9 = .ok (.aload_n 0, 1) := by decide +kernel
theorem dX7_putBlock_10 : decode cX7_putBlock 10 = .ok (.getfield 13, 3) := by decide +kernel
theorem dX7_putBlock_13 : decode cX7_putBlock 13 = .ok (.iload_n 1, 1) := by decide +kernel
theorem dX7_putBlock_14 : decode cX7_putBlock 14 = .ok (.iload 5, 2) := by decide +kernel
theorem dX7_putBlock_16 : decode cX7_putBlock 16 = .ok (.iadd, 1) := by decide +kernel
theorem dX7_putBlock_17 : decode cX7_putBlock 17 = .ok (.lload_n 3, 1) := by decide +kernel
theorem dX7_putBlock_18 : decode cX7_putBlock 18 = .ok (.bipush 8, 2) := by decide +kernel
theorem dX7_putBlock_20 : decode cX7_putBlock 20 = .ok (.iload 5, 2) := by decide +kernel
theorem dX7_putBlock_22 : decode cX7_putBlock 22 = .ok (.imul, 1) := by decide +kernel
theorem dX7_putBlock_23 : decode cX7_putBlock 23 = .ok (.lshr, 1) := by decide +kernel
theorem dX7_putBlock_24 : decode cX7_putBlock 24 = .ok (.l2i, 1) := by decide +kernel
theorem dX7_putBlock_25 : decode cX7_putBlock 25 = .ok (.sipush 255, 3) := by decide +kernel
theorem dX7_putBlock_28 : decode cX7_putBlock 28 = .ok (.iand, 1) := by decide +kernel
theorem dX7_putBlock_29 : decode cX7_putBlock 29 = .ok (.iastore, 1) := by decide +kernel
theorem dX7_putBlock_30 : decode cX7_putBlock 30 = .ok (.iinc 5 1, 3) := by decide +kernel
theorem dX7_putBlock_33 : decode cX7_putBlock 33 = .ok (.goto (-30), 3) := by decide +kernel
theorem dX7_putBlock_36 : decode cX7_putBlock 36 = .ok (.return_, 1) := by decide +kernel
set_option maxRecDepth 20000 in
theorem ggX7_write_X7_putBlock : GoodIn wsX7_write wsX7_putBlock := goodIn_r _ [15, 6, 19, 20, 21, 22, 23, 24, 25, 26, 27, 28, 29, 30, 31, 32, 33, 34, 35, 36, 37, 38, 39, 40, 41, 42, 43, 44, 45, 46, 47, 48, 49, 50] (by decide +kernel) (by decide +kernel)
set_option maxRecDepth 20000 in
theorem gX7_write_X7_putBlock : GoodIn wsX7_write (wsV RX7 259 RX7 yX7_putBlock wsX7_putBlock) := goodIn_app (goodIn_of _ (by decide +kernel)) ggX7_write_X7_putBlock
set_option maxRecDepth 20000 in
theorem ggX7_write_X7_checked : GoodIn wsX7_write wsX7_checked := goodIn_r _ [18] (by decide +kernel) (by decide +kernel)
set_option maxRecDepth 20000 in
theorem gX7_write_X7_checked : GoodIn wsX7_write (va_wsS RX7 77 yX7_checked wsX7_checked) := goodIn_app (goodIn_of _ (by decide +kernel)) ggX7_write_X7_checked
theorem dX7_write_0 : decode cX7_write 0 = .ok (.aload_n 0, 1) := by decide +kernel
theorem dX7_write_1 : decode cX7_write 1 = .ok (.iconst 0, 1) := by decide +kernel
theorem dX7_write_2 : decode cX7_write 2 = .ok (.iconst 4, 1) := by decide +kernel
theorem dX7_write_3 : decode cX7_write 3 = .ok (.aload_n 0, 1) := by decide +kernel
theorem dX7_write_4 : decode cX7_write 4 = .ok (.getfield 256, 3) := by decide +kernel
theorem dX7_write_7 : decode cX7_write 7 = .ok (.i2l, 1) := by decide +kernel
theorem dX7_write_8 : decode cX7_write 8 = .ok (.invokevirtual 259, 3) := by decide +kernel
theorem dX7_write_11 : decode cX7_write 11 = .ok (.aload_n 0, 1) := by decide +kernel
theorem dX7_write_12 : decode cX7_write 12 = .ok (.iconst 4, 1) := by decide +kernel
theorem dX7_write_13 : decode cX7_write 13 = .ok (.iconst 4, 1) := by decide +kernel
theorem dX7_write_14 : decode cX7_write 14 = .ok (.aload_n 0, 1) := by decide +kernel
theorem dX7_write_15 : decode cX7_write 15 = .ok (.getfield 253, 3) := by decide +kernel
theorem dX7_write_18 : decode cX7_write 18 = .ok (.i2l, 1) := by decide +kernel
theorem dX7_write_19 : decode cX7_write 19 = .ok (.invokevirtual 259, 3) := by decide +kernel
theorem dX7_write_22 : decode cX7_write 22 = .ok (.aload_n 0, 1) := by decide +kernel
theorem dX7_write_23 : decode cX7_write 23 = .ok (.bipush 8, 2) := by decide +kernel
theorem dX7_write_25 : decode cX7_write 25 = .ok (.bipush 8, 2) := by decide +kernel
theorem dX7_write_27 : decode cX7_write 27 = .ok (.aload_n 0, 1) := by decide +kernel
theorem dX7_write_28 : decode cX7_write 28 = .ok (.getfield 112, 3) := by decide +kernel
theorem dX7_write_31 : decode cX7_write 31 = .ok (.invokevirtual 259, 3) := by decide +kernel
theorem dX7_write_34 : decode cX7_write 34 = .ok (.aload_n 0, 1) := by decide +kernel
theorem dX7_write_35 : decode cX7_write 35 = .ok (.bipush 16, 2) := by decide +kernel
theorem dX7_write_37 : decode cX7_write 37 = .ok (.iconst 2, 1) := by decide +kernel
theorem dX7_write_38 : decode cX7_write 38 = .ok (.aload_n 0, 1) := by decide +kernel
theorem dX7_write_39 : decode cX7_write 39 = .ok (.getfield 224, 3) := by decide +kernel
theorem dX7_write_42 : decode cX7_write 42 = .ok (.i2l, 1) := by decide +kernel
theorem dX7_write_43 : decode cX7_write 43 = .ok (.invokevirtual 259, 3) := by decide +kernel
theorem dX7_write_46 : decode cX7_write 46 = .ok (.aload_n 0, 1) := by decide +kernel
theorem dX7_write_47 : decode cX7_write 47 = .ok (.bipush 18, 2) := by decide +kernel
theorem dX7_write_49 : decode cX7_write 49 = .ok (.iconst 2, 1) := by decide +kernel
theorem dX7_write_50 : decode cX7_write 50 = .ok (.aload_n 0, 1) := by decide +kernel
theorem dX7_write_51 : decode cX7_write 51 = .ok (.getfield 234, 3) := by decide +kernel
theorem dX7_write_54 : decode cX7_write 54 = .ok (.i2l, 1) := by decide +kernel
theorem dX7_write_55 : decode cX7_write 55 = .ok (.invokevirtual 259, 3) := by decide +kernel
theorem dX7_write_58 : decode cX7_write 58 = .ok (.aload_n 0, 1) := by decide +kernel
theorem dX7_write_59 : decode cX7_write 59 = .ok (.bipush 20, 2) := by decide +kernel
theorem dX7_write_61 : decode cX7_write 61 = .ok (.bipush 10, 2) := by decide +kernel
theorem dX7_write_63 : decode cX7_write 63 = .ok (.lconst 0, 1) := by decide +kernel
theorem dX7_write_64 : decode cX7_write 64 = .ok (.invokevirtual 259, 3) := by decide +kernel
theorem dX7_write_67 : decode cX7_write 67 = .ok (.iconst 0, 1) := by decide +kernel
theorem dX7_write_68 : decode cX7_write 68 = .ok (.istore_n 1, 1) := by decide +kernel
theorem dX7_write_69 : decode cX7_write 69 = .ok (.iconst 0, 1) := by decide +kernel
theorem dX7_write_70 : decode cX7_write 70 = .ok (.istore_n 2, 1) := by decide +kernel
theorem dX7_write_71 : decode cX7_write 71 = .ok (.iload_n 2, 1) := by decide +kernel
theorem dX7_write_72 : decode cX7_write 72 = .ok (.bipush 30, 2) := by decide +kernel
theorem dX7_write_74 : decode cX7_write 74 = .ok (.if_icmp .ge 20, 3) := by decide +kernel
theorem dX7_write_77 : decode cX7_write 77 = .ok (.iload_n 1, 1) := by decide +kernel
theorem dX7_write_78 : decode cX7_write 78 = .ok (.aload_n 0, 1) := by decide +kernel
theorem dX7_write_79 : decode cX7_write 79 = .ok (.getfield 13, 3) := by decide +kernel
theorem dX7_write_82 : decode cX7_write 82 = .ok (.iload_n 2, 1) := by decide +kernel
theorem dX7_write_83 : decode cX7_write 83 = .ok (.iaload, 1) := by decide +kernel
theorem dX7_write_84 : decode cX7_write 84 = .ok (.invokestatic 77, 3) := by decide +kernel
theorem dX7_write_87 : decode cX7_write 87 = .ok (.istore_n 1, 1) := by decide +kernel
theorem dX7_write_88 : decode cX7_write 88 = .ok (.iinc 2 1, 3) := by decide +kernel
theorem dX7_write_91 : decode cX7_write 91 = .ok (.goto (-20), 3) := by decide +kernel
theorem dX7_write_94 : decode cX7_write 94 = .ok (.aload_n 0, 1) := by decide +kernel
theorem dX7_write_95 : decode cX7_write 95 = .ok (.bipush 30, 2) := by decide +kernel
theorem dX7_write_97 : decode cX7_write 97 = .ok (.iconst 2, 1) := by decide +kernel
theorem dX7_write_98 : decode cX7_write 98 = .ok (.iload_n 1, 1) := by decide +kernel
theorem dX7_write_99 : decode cX7_write 99 = .ok (.i2l, 1) := by decide +kernel
theorem dX7_write_100 : decode cX7_write 100 = .ok (.invokevirtual 259, 3) := by decide +kernel
theorem dX7_write_103 : decode cX7_write 103 = .ok (.bipush 32, 2) := by decide +kernel
theorem dX7_write_105 : decode cX7_write 105 = .ok (.aload_n 0, 1) := by decide +kernel
theorem dX7_write_106 : decode cX7_write 106 = .ok (.getfield 256, 3) := by decide +kernel
theorem dX7_write_109 : decode cX7_write 109 = .ok (.iconst 1, 1) := by decide +kernel
theorem dX7_write_110 : decode cX7_write 110 = .ok (.isub, 1) := by decide +kernel
theorem dX7_write_111 : decode cX7_write 111 = .ok (.aload_n 0, 1) := by decide +kernel
theorem dX7_write_112 : decode cX7_write 112 = .ok (.getfield 52, 3) := by decide +kernel
theorem dX7_write_115 : decode cX7_write 115 = .ok (.irem, 1) := by decide +kernel
theorem dX7_write_116 : decode cX7_write 116 = .ok (.imul, 1) := by decide +kernel
theorem dX7_write_117 : decode cX7_write 117 = .ok (.istore_n 2, 1) := by decide +kernel
theorem dX7_write_118 : decode cX7_write 118 = .ok (.iconst 0, 1) := by decide +kernel
theorem dX7_write_119 : decode cX7_write 119 = .ok (.istore_n 3, 1) := by decide +kernel
theorem dX7_write_120 : decode cX7_write 120 = .ok (.iload_n 3, 1) := by decide +kernel
theorem dX7_write_121 : decode cX7_write 121 = .ok (.aload_n 0, 1) := by decide +kernel
theorem dX7_write_122 : decode cX7_write 122 = .ok (.getfield 41, 3) := by decide +kernel
theorem dX7_write_125 : decode cX7_write 125 = .ok (.if_icmp .ge 23, 3) := by decide +kernel
theorem dX7_write_128 : decode cX7_write 128 = .ok (.aload_n 0, 1) := by decide +kernel
theorem dX7_write_129 : decode cX7_write 129 = .ok (.getfield 7, 3) := by decide +kernel
theorem dX7_write_132 : decode cX7_write 132 = .ok (.iload_n 2, 1) := by decide +kernel
theorem dX7_write_133 : decode cX7_write 133 = .ok (.iload_n 3, 1) := by decide +kernel
theorem dX7_write_134 : decode cX7_write 134 = .ok (.iadd, 1) := by decide +kernel
theorem dX7_write_135 : decode cX7_write 135 = .ok (.aload_n 0, 1) := by decide +kernel
theorem dX7_write_136 : decode cX7_write 136 = .ok (.getfield 13, 3) := by decide +kernel
theorem dX7_write_139 : decode cX7_write 139 = .ok (.iload_n 3, 1) := by decide +kernel
theorem dX7_write_140 : decode cX7_write 140 = .ok (.iaload, 1) := by decide +kernel
theorem dX7_write_141 : decode cX7_write 141 = .ok (.iastore, 1) := by decide +kernel
theorem dX7_write_142 : decode cX7_write 142 = .ok (.iinc 3 1, 3) := by decide +kernel
theorem dX7_write_145 : decode cX7_write 145 = .ok (.goto (-25), 3) := by decide +kernel
theorem dX7_write_148 : decode cX7_write 148 = .ok (.aload_n 0, 1) := by decide +kernel
theorem dX7_write_149 : decode cX7_write 149 = .ok (.dup, 1) := by decide +kernel
theorem dX7_write_150 : decode cX7_write 150 = .ok (.getfield 256, 3) := by decide +kernel
theorem dX7_write_153 : decode cX7_write 153 = .ok (.iconst 1, 1) := by decide +kernel
theorem dX7_write_154 : decode cX7_write 154 = .ok (.iadd, 1) := by decide +kernel
theorem dX7_write_155 : decode cX7_write 155 = .ok (.putfield 256, 3) := by decide +kernel
theorem dX7_write_158 : decode cX7_write 158 = .ok (.aload_n 0, 1) := by decide +kernel
theorem dX7_write_159 : decode cX7_write 159 = .ok (.aload_n 0, 1) := by decide +kernel
theorem dX7_write_160 : decode cX7_write 160 = .ok (.getfield 41, 3) := by decide +kernel
theorem dX7_write_163 : decode cX7_write 163 = .ok (.bipush 32, 2) := by decide +kernel
theorem dX7_write_165 : decode cX7_write 165 = .ok (.if_icmp .ge 7, 3) := by decide +kernel
theorem dX7_write_168 : decode cX7_write 168 = .ok (.iconst 1, 1) := by decide +kernel
theorem dX7_write_169 : decode cX7_write 169 = .ok (.goto 4, 3) := by decide +kernel
theorem dX7_write_172 : decode cX7_write 172 = .ok (.iconst 0, 1) := by decide +kernel
theorem dX7_write_173 : decode cX7_write 173 = .ok (.putfield 85, 3) := by decide +kernel
theorem dX7_write_176 : decode cX7_write 176 = .ok (.return_, 1) := by decide +kernel
set_option maxRecDepth 20000 in
theorem ggX7_tick_X7_countCharge : GoodIn wsX7_tick wsX7_countCharge := goodIn_r _ [13, 14, 15, 16, 17, 18, 19, 20, 21, 22, 23, 4, 24, 25, 12, 26, 27, 28, 29, 30, 31, 32, 33, 34, 35, 36, 37, 38, 39, 40, 5, 41, 42, 43, 44, 45, 46, 47, 48, 49, 50, 51, 52, 53, 54, 55, 56, 57, 58, 59, 60, 61, 62, 63, 64, 158, 159, 160, 161, 162, 163, 164, 165, 166, 167, 168, 169, 170, 171, 172, 173, 174, 175, 176, 177, 178, 179, 180, 181, 182, 183, 184, 185, 186, 187, 188, 189] (by decide +kernel) (by decide +kernel)
set_option maxRecDepth 20000 in
theorem gX7_tick_X7_countCharge : GoodIn wsX7_tick (wsV RX7 263 RX7 yX7_countCharge wsX7_countCharge) := goodIn_app (goodIn_of _ (by decide +kernel)) ggX7_tick_X7_countCharge
set_option maxRecDepth 20000 in
theorem ggX7_tick_X7_allow : GoodIn wsX7_tick wsX7_allow := goodIn_r _ [68, 69, 51, 70, 71, 72, 73, 74, 21, 75, 16, 76, 77, 14, 15, 78, 79, 80, 81, 12, 82, 83, 4, 84, 85, 86, 87, 88, 89, 90, 91, 92, 93, 94, 23, 95, 96, 97, 98, 158, 159, 160, 161, 162, 163, 164, 165, 166, 167, 168, 169, 170, 171, 172, 173, 174, 175, 176, 177, 178, 179, 180, 181, 182, 183, 184, 185, 186, 187, 188, 189] (by decide +kernel) (by decide +kernel)
set_option maxRecDepth 20000 in
theorem gX7_tick_X7_allow : GoodIn wsX7_tick (wsV RX7 266 RX7 yX7_allow wsX7_allow) := goodIn_app (goodIn_of _ (by decide +kernel)) ggX7_tick_X7_allow
set_option maxRecDepth 20000 in
theorem ggX7_tick_X7_causes : GoodIn wsX7_tick wsX7_causes := goodIn_r _ [102, 103, 104, 105, 106, 107, 12, 108, 109, 110, 23, 18, 76, 111, 112, 78, 4, 79, 80, 81, 82, 83, 84, 85, 86, 87, 36, 37, 38, 39, 40, 5, 31, 32, 33, 34, 35, 41, 42, 43, 44, 45, 46, 47, 48, 49, 50, 51, 113, 114, 115, 116, 6, 117, 158, 159, 160, 161, 162, 163, 164, 165, 166, 167, 168, 169, 170, 171, 172, 173, 174, 175, 176, 177, 178, 179, 180, 181, 182, 183, 184, 185, 186, 187, 188, 189] (by decide +kernel) (by decide +kernel)
set_option maxRecDepth 20000 in
theorem gX7_tick_X7_causes : GoodIn wsX7_tick (wsV RX7 269 RX7 yX7_causes wsX7_causes) := goodIn_app (goodIn_of _ (by decide +kernel)) ggX7_tick_X7_causes
set_option maxRecDepth 20000 in
theorem ggX7_tick_X7_contactors : GoodIn wsX7_tick wsX7_contactors := goodIn_r _ [121, 122, 123, 8, 124, 125, 126, 71, 127, 128, 129, 12, 130, 117, 131, 132, 133, 134, 27, 28, 29, 30, 4, 31, 32, 33, 34, 35, 36, 37, 38, 39, 40, 5, 41, 42, 43, 44, 45, 46, 47, 48, 49, 50, 51, 52, 53, 54, 55, 113, 114, 115, 116, 6, 158, 159, 160, 161, 162, 163, 164, 165, 166, 167, 168, 169, 170, 171, 172, 173, 174, 175, 176, 177, 178, 179, 180, 181, 182, 183, 184, 185, 186, 187, 188, 189] (by decide +kernel) (by decide +kernel)
set_option maxRecDepth 20000 in
theorem gX7_tick_X7_contactors : GoodIn wsX7_tick (wsV RX7 272 RX7 yX7_contactors wsX7_contactors) := goodIn_app (goodIn_of _ (by decide +kernel)) ggX7_tick_X7_contactors
set_option maxRecDepth 20000 in
theorem ggX7_tick_X7_bleed : GoodIn wsX7_tick wsX7_bleed := goodIn_r _ [138, 8, 18, 139, 140, 4, 141, 3, 127, 128, 129, 12, 130, 117, 24, 25, 26, 31, 32, 33, 34, 35, 36, 37, 38, 39, 40, 5, 41, 42, 43, 44, 45, 46, 47, 48, 49, 50, 51, 158, 159, 160, 161, 162, 163, 164, 165, 166, 167, 168, 169, 170, 171, 172, 173, 174, 175, 176, 177, 178, 179, 180, 181, 182, 183, 184, 185, 186, 187, 188, 189] (by decide +kernel) (by decide +kernel)
set_option maxRecDepth 20000 in
theorem gX7_tick_X7_bleed : GoodIn wsX7_tick (wsV RX7 275 RX7 yX7_bleed wsX7_bleed) := goodIn_app (goodIn_of _ (by decide +kernel)) ggX7_tick_X7_bleed
set_option maxRecDepth 20000 in
theorem ggX7_tick_X7_write : GoodIn wsX7_tick wsX7_write := goodIn_r _ [145, 146, 3, 16, 117, 8, 147, 148, 149, 150, 1, 151, 152, 153, 12, 154, 155, 156, 157, 158, 159, 160, 161, 162, 163, 164, 165, 166, 167, 168, 169, 170, 171, 172, 173, 174, 175, 176, 177, 178, 179, 180, 181, 182, 183, 184, 185, 186, 187, 188, 189] (by decide +kernel) (by decide +kernel)
set_option maxRecDepth 20000 in
theorem gX7_tick_X7_write : GoodIn wsX7_tick (wsV RX7 278 RX7 yX7_write wsX7_write) := goodIn_app (goodIn_of _ (by decide +kernel)) ggX7_tick_X7_write
theorem dX7_tick_0 : decode cX7_tick 0 = .ok (.aload_n 0, 1) := by decide +kernel
theorem dX7_tick_1 : decode cX7_tick 1 = .ok (.iload_n 1, 1) := by decide +kernel
theorem dX7_tick_2 : decode cX7_tick 2 = .ok (.iconst 1, 1) := by decide +kernel
theorem dX7_tick_3 : decode cX7_tick 3 = .ok (.if_icmp .lt 9, 3) := by decide +kernel
theorem dX7_tick_6 : decode cX7_tick 6 = .ok (.iload_n 1, 1) := by decide +kernel
theorem dX7_tick_7 : decode cX7_tick 7 = .ok (.bipush 100, 2) := by decide +kernel
theorem dX7_tick_9 : decode cX7_tick 9 = .ok (.if_icmp .le 7, 3) := by decide +kernel
theorem dX7_tick_12 : decode cX7_tick 12 = .ok (.iconst 1, 1) := by decide +kernel
theorem dX7_tick_13 : decode cX7_tick 13 = .ok (.goto 15, 3) := by decide +kernel
theorem dX7_tick_16 : decode cX7_tick 16 = .ok (.aload_n 0, 1) := by decide +kernel
theorem dX7_tick_17 : decode cX7_tick 17 = .ok (.getfield 85, 3) := by decide +kernel
theorem dX7_tick_20 : decode cX7_tick 20 = .ok (.ifCond .eq 7, 3) := by decide +kernel
theorem dX7_tick_23 : decode cX7_tick 23 = .ok (.iconst 2, 1) := by decide +kernel
theorem dX7_tick_24 : decode cX7_tick 24 = .ok (.goto 4, 3) := by decide +kernel
theorem dX7_tick_27 : decode cX7_tick 27 = .ok (.iconst 0, 1) := by decide +kernel
theorem dX7_tick_28 : decode cX7_tick 28 = .ok (.putfield 70, 3) := by decide +kernel
theorem dX7_tick_31 : decode cX7_tick 31 = .ok (.iconst 0, 1) := by decide +kernel
theorem dX7_tick_32 : decode cX7_tick 32 = .ok (.istore_n 2, 1) := by decide +kernel
theorem dX7_tick_33 : decode cX7_tick 33 = .ok (.iload_n 2, 1) := by decide +kernel
theorem dX7_tick_34 : decode cX7_tick 34 = .ok (.iload_n 1, 1) := by decide +kernel
theorem dX7_tick_35 : decode cX7_tick 35 = .ok (.if_icmp .ge 129, 3) := by decide +kernel
theorem dX7_tick_38 : decode cX7_tick 38 = .ok (.aload_n 0, 1) := by decide +kernel
theorem dX7_tick_39 : decode cX7_tick 39 = .ok (.getfield 70, 3) := by decide +kernel
theorem dX7_tick_42 : decode cX7_tick 42 = .ok (.ifCond .ne 122, 3) := by decide +kernel
theorem dX7_tick_45 : decode cX7_tick 45 = .ok (.aload_n 0, 1) := by decide +kernel
theorem dX7_tick_46 : decode cX7_tick 46 = .ok (.getfield 85, 3) := by decide +kernel
theorem dX7_tick_49 : decode cX7_tick 49 = .ok (.ifCond .ne 115, 3) := by decide +kernel
theorem dX7_tick_52 : decode cX7_tick 52 = .ok (.aload_n 0, 1) := by decide +kernel
theorem dX7_tick_53 : decode cX7_tick 53 = .ok (.dup, 1) := by decide +kernel
theorem dX7_tick_54 : decode cX7_tick 54 = .ok (.getfield 253, 3) := by decide +kernel
theorem dX7_tick_57 : decode cX7_tick 57 = .ok (.iconst 1, 1) := by decide +kernel
theorem dX7_tick_58 : decode cX7_tick 58 = .ok (.iadd, 1) := by decide +kernel
theorem dX7_tick_59 : decode cX7_tick 59 = .ok (.putfield 253, 3) := by decide +kernel
theorem dX7_tick_62 : decode cX7_tick 62 = .ok (.iconst 0, 1) := by decide +kernel
theorem dX7_tick_63 : decode cX7_tick 63 = .ok (.istore_n 3, 1) := by decide +kernel
theorem dX7_tick_64 : decode cX7_tick 64 = .ok (.iload_n 3, 1) := by decide +kernel
theorem dX7_tick_65 : decode cX7_tick 65 = .ok (.aload_n 0, 1) := by decide +kernel
theorem dX7_tick_66 : decode cX7_tick 66 = .ok (.getfield 49, 3) := by decide +kernel
theorem dX7_tick_69 : decode cX7_tick 69 = .ok (.if_icmp .ge 41, 3) := by decide +kernel
theorem dX7_tick_72 : decode cX7_tick 72 = .ok (.aload_n 0, 1) := by decide +kernel
theorem dX7_tick_73 : decode cX7_tick 73 = .ok (.getfield 32, 3) := by decide +kernel
theorem dX7_tick_76 : decode cX7_tick 76 = .ok (.iload_n 3, 1) := by decide +kernel
theorem dX7_tick_77 : decode cX7_tick 77 = .ok (.aload_n 0, 1) := by decide +kernel
theorem dX7_tick_78 : decode cX7_tick 78 = .ok (.getfield 32, 3) := by decide +kernel
theorem dX7_tick_81 : decode cX7_tick 81 = .ok (.iload_n 3, 1) := by decide +kernel
theorem dX7_tick_82 : decode cX7_tick 82 = .ok (.iaload, 1) := by decide +kernel
theorem dX7_tick_83 : decode cX7_tick 83 = .ok (.sipush 1000, 3) := by decide +kernel
theorem dX7_tick_86 : decode cX7_tick 86 = .ok (.if_icmp .ge 14, 3) := by decide +kernel
theorem dX7_tick_89 : decode cX7_tick 89 = .ok (.aload_n 0, 1) := by decide +kernel
theorem dX7_tick_90 : decode cX7_tick 90 = .ok (.getfield 32, 3) := by decide +kernel
theorem dX7_tick_93 : decode cX7_tick 93 = .ok (.iload_n 3, 1) := by decide +kernel
theorem dX7_tick_94 : decode cX7_tick 94 = .ok (.iaload, 1) := by decide +kernel
theorem dX7_tick_95 : decode cX7_tick 95 = .ok (.iconst 1, 1) := by decide +kernel
theorem dX7_tick_96 : decode cX7_tick 96 = .ok (.iadd, 1) := by decide +kernel
theorem dX7_tick_97 : decode cX7_tick 97 = .ok (.goto 6, 3) := by decide +kernel
theorem dX7_tick_100 : decode cX7_tick 100 = .ok (.sipush 1000, 3) := by decide +kernel
theorem dX7_tick_103 : decode cX7_tick 103 = .ok (.iastore, 1) := by decide +kernel
theorem dX7_tick_104 : decode cX7_tick 104 = .ok (.iinc 3 1, 3) := by decide +kernel
theorem dX7_tick_107 : decode cX7_tick 107 = .ok (.goto (-43), 3) := by decide +kernel
theorem dX7_tick_110 : decode cX7_tick 110 = .ok (.aload_n 0, 1) := by decide +kernel
theorem dX7_tick_111 : decode cX7_tick 111 = .ok (.iconst 0, 1) := by decide +kernel
theorem dX7_tick_112 : decode cX7_tick 112 = .ok (.putfield 221, 3) := by decide +kernel
theorem dX7_tick_115 : decode cX7_tick 115 = .ok (.aload_n 0, 1) := by decide +kernel
theorem dX7_tick_116 : decode cX7_tick 116 = .ok (.invokevirtual 263, 3) := by decide +kernel
theorem dX7_tick_119 : decode cX7_tick 119 = .ok (.aload_n 0, 1) := by decide +kernel
theorem dX7_tick_120 : decode cX7_tick 120 = .ok (.invokevirtual 266, 3) := by decide +kernel
theorem dX7_tick_123 : decode cX7_tick 123 = .ok (.aload_n 0, 1) := by decide +kernel
theorem dX7_tick_124 : decode cX7_tick 124 = .ok (.invokevirtual 269, 3) := by decide +kernel
theorem dX7_tick_127 : decode cX7_tick 127 = .ok (.aload_n 0, 1) := by decide +kernel
theorem dX7_tick_128 : decode cX7_tick 128 = .ok (.invokevirtual 272, 3) := by decide +kernel
theorem dX7_tick_131 : decode cX7_tick 131 = .ok (.aload_n 0, 1) := by decide +kernel
theorem dX7_tick_132 : decode cX7_tick 132 = .ok (.invokevirtual 275, 3) := by decide +kernel
theorem dX7_tick_135 : decode cX7_tick 135 = .ok (.aload_n 0, 1) := by decide +kernel
theorem dX7_tick_136 : decode cX7_tick 136 = .ok (.getfield 221, 3) := by decide +kernel
theorem dX7_tick_139 : decode cX7_tick 139 = .ok (.ifCond .ne 15, 3) := by decide +kernel
theorem dX7_tick_142 : decode cX7_tick 142 = .ok (.aload_n 0, 1) := by decide +kernel
theorem dX7_tick_143 : decode cX7_tick 143 = .ok (.getfield 253, 3) := by decide +kernel
theorem dX7_tick_146 : decode cX7_tick 146 = .ok (.aload_n 0, 1) := by decide +kernel
theorem dX7_tick_147 : decode cX7_tick 147 = .ok (.getfield 64, 3) := by decide +kernel
theorem dX7_tick_150 : decode cX7_tick 150 = .ok (.irem, 1) := by decide +kernel
theorem dX7_tick_151 : decode cX7_tick 151 = .ok (.ifCond .ne 7, 3) := by decide +kernel
theorem dX7_tick_154 : decode cX7_tick 154 = .ok (.aload_n 0, 1) := by decide +kernel
theorem dX7_tick_155 : decode cX7_tick 155 = .ok (.invokevirtual 278, 3) := by decide +kernel
theorem dX7_tick_158 : decode cX7_tick 158 = .ok (.iinc 2 1, 3) := by decide +kernel
theorem dX7_tick_161 : decode cX7_tick 161 = .ok (.goto (-128), 3) := by decide +kernel
theorem dX7_tick_164 : decode cX7_tick 164 = .ok (.aload_n 0, 1) := by decide +kernel
theorem dX7_tick_165 : decode cX7_tick 165 = .ok (.getfield 70, 3) := by decide +kernel
theorem dX7_tick_168 : decode cX7_tick 168 = .ok (.ifCond .le 7, 3) := by decide +kernel
theorem dX7_tick_171 : decode cX7_tick 171 = .ok (.iconst 0, 1) := by decide +kernel
theorem dX7_tick_172 : decode cX7_tick 172 = .ok (.goto 7, 3) := by decide +kernel
theorem dX7_tick_175 : decode cX7_tick 175 = .ok (.aload_n 0, 1) := by decide +kernel
theorem dX7_tick_176 : decode cX7_tick 176 = .ok (.getfield 234, 3) := by decide +kernel
theorem dX7_tick_179 : decode cX7_tick 179 = .ok (.ireturn, 1) := by decide +kernel
theorem dX7_reset_0 : decode cX7_reset 0 = .ok (.aload_n 0, 1) := by decide +kernel
theorem dX7_reset_1 : decode cX7_reset 1 = .ok (.iload_n 1, 1) := by decide +kernel
theorem dX7_reset_2 : decode cX7_reset 2 = .ok (.ifCond .lt 9, 3) := by decide +kernel
theorem dX7_reset_5 : decode cX7_reset 5 = .ok (.iload_n 1, 1) := by decide +kernel
theorem dX7_reset_6 : decode cX7_reset 6 = .ok (.bipush 8, 2) := by decide +kernel
theorem dX7_reset_8 : decode cX7_reset 8 = .ok (.if_icmp .le 7, 3) := by decide +kernel
theorem dX7_reset_11 : decode cX7_reset 11 = .ok (.iconst 1, 1) := by decide +kernel
theorem dX7_reset_12 : decode cX7_reset 12 = .ok (.goto 15, 3) := by decide +kernel
theorem dX7_reset_15 : decode cX7_reset 15 = .ok (.aload_n 0, 1) := by decide +kernel
theorem dX7_reset_16 : decode cX7_reset 16 = .ok (.getfield 85, 3) := by decide +kernel
theorem dX7_reset_19 : decode cX7_reset 19 = .ok (.ifCond .eq 7, 3) := by decide +kernel
theorem dX7_reset_22 : decode cX7_reset 22 = .ok (.iconst 2, 1) := by decide +kernel
theorem dX7_reset_23 : decode cX7_reset 23 = .ok (.goto 4, 3) := by decide +kernel
theorem dX7_reset_26 : decode cX7_reset 26 = .ok (.iconst 0, 1) := by decide +kernel
theorem dX7_reset_27 : decode cX7_reset 27 = .ok (.putfield 70, 3) := by decide +kernel
theorem dX7_reset_30 : decode cX7_reset 30 = .ok (.aload_n 0, 1) := by decide +kernel
theorem dX7_reset_31 : decode cX7_reset 31 = .ok (.getfield 70, 3) := by decide +kernel
theorem dX7_reset_34 : decode cX7_reset 34 = .ok (.ifCond .gt 14, 3) := by decide +kernel
theorem dX7_reset_37 : decode cX7_reset 37 = .ok (.aload_n 0, 1) := by decide +kernel
theorem dX7_reset_38 : decode cX7_reset 38 = .ok (.getfield 224, 3) := by decide +kernel
theorem dX7_reset_41 : decode cX7_reset 41 = .ok (.iload_n 1, 1) := by decide +kernel
theorem dX7_reset_42 : decode cX7_reset 42 = .ok (.ishr, 1) := by decide +kernel
theorem dX7_reset_43 : decode cX7_reset 43 = .ok (.iconst 1, 1) := by decide +kernel
theorem dX7_reset_44 : decode cX7_reset 44 = .ok (.iand, 1) := by decide +kernel
theorem dX7_reset_45 : decode cX7_reset 45 = .ok (.ifCond .ne 5, 3) := by decide +kernel
theorem dX7_reset_48 : decode cX7_reset 48 = .ok (.iconst 0, 1) := by decide +kernel
theorem dX7_reset_49 : decode cX7_reset 49 = .ok (.ireturn, 1) := by decide +kernel
theorem dX7_reset_50 : decode cX7_reset 50 = .ok (.iload_n 1, 1) := by decide +kernel
theorem dX7_reset_51 : decode cX7_reset 51 = .ok (.bipush 6, 2) := by decide +kernel
theorem dX7_reset_53 : decode cX7_reset 53 = .ok (.if_icmp .le 18, 3) := by decide +kernel
theorem dX7_reset_56 : decode cX7_reset 56 = .ok (.aload_n 0, 1) := by decide +kernel
theorem dX7_reset_57 : decode cX7_reset 57 = .ok (.getfield 234, 3) := by decide +kernel
theorem dX7_reset_60 : decode cX7_reset 60 = .ok (.ifCond .ne 7, 3) := by decide +kernel
theorem dX7_reset_63 : decode cX7_reset 63 = .ok (.iconst 1, 1) := by decide +kernel
theorem dX7_reset_64 : decode cX7_reset 64 = .ok (.goto 21, 3) := by decide +kernel
theorem dX7_reset_67 : decode cX7_reset 67 = .ok (.iconst 0, 1) := by decide +kernel
theorem dX7_reset_68 : decode cX7_reset 68 = .ok (.goto 17, 3) := by decide +kernel
theorem dX7_reset_71 : decode cX7_reset 71 = .ok (.aload_n 0, 1) := by decide +kernel
theorem dX7_reset_72 : decode cX7_reset 72 = .ok (.getfield 35, 3) := by decide +kernel
theorem dX7_reset_75 : decode cX7_reset 75 = .ok (.iload_n 1, 1) := by decide +kernel
theorem dX7_reset_76 : decode cX7_reset 76 = .ok (.iaload, 1) := by decide +kernel
theorem dX7_reset_77 : decode cX7_reset 77 = .ok (.ifCond .ne 7, 3) := by decide +kernel
theorem dX7_reset_80 : decode cX7_reset 80 = .ok (.iconst 1, 1) := by decide +kernel
theorem dX7_reset_81 : decode cX7_reset 81 = .ok (.goto 4, 3) := by decide +kernel
theorem dX7_reset_84 : decode cX7_reset 84 = .ok (.iconst 0, 1) := by decide +kernel
theorem dX7_reset_85 : decode cX7_reset 85 = .ok (.istore_n 2, 1) := by decide +kernel
theorem dX7_reset_86 : decode cX7_reset 86 = .ok (.aload_n 0, 1) := by decide +kernel
theorem dX7_reset_87 : decode cX7_reset 87 = .ok (.iload_n 2, 1) := by decide +kernel
theorem dX7_reset_88 : decode cX7_reset 88 = .ok (.ifCond .eq 16, 3) := by decide +kernel
theorem dX7_reset_91 : decode cX7_reset 91 = .ok (.aload_n 0, 1) := by decide +kernel
theorem dX7_reset_92 : decode cX7_reset 92 = .ok (.getfield 224, 3) := by decide +kernel
theorem dX7_reset_95 : decode cX7_reset 95 = .ok (.iconst 1, 1) := by decide +kernel
theorem dX7_reset_96 : decode cX7_reset 96 = .ok (.iload_n 1, 1) := by decide +kernel
theorem dX7_reset_97 : decode cX7_reset 97 = .ok (.ishl, 1) := by decide +kernel
theorem dX7_reset_98 : decode cX7_reset 98 = .ok (.iconst (-1), 1) := by decide +kernel
theorem dX7_reset_99 : decode cX7_reset 99 = .ok (.ixor, 1) := by decide +kernel
theorem dX7_reset_100 : decode cX7_reset 100 = .ok (.iand, 1) := by decide +kernel
theorem dX7_reset_101 : decode cX7_reset 101 = .ok (.goto 7, 3) := by decide +kernel
theorem dX7_reset_104 : decode cX7_reset 104 = .ok (.aload_n 0, 1) := by decide +kernel
theorem dX7_reset_105 : decode cX7_reset 105 = .ok (.getfield 224, 3) := by decide +kernel
theorem dX7_reset_108 : decode cX7_reset 108 = .ok (.putfield 224, 3) := by decide +kernel
theorem dX7_reset_111 : decode cX7_reset 111 = .ok (.iload_n 2, 1) := by decide +kernel
theorem dX7_reset_112 : decode cX7_reset 112 = .ok (.ireturn, 1) := by decide +kernel
theorem dX7_cut_0 : decode cX7_cut 0 = .ok (.aload_n 0, 1) := by decide +kernel
theorem dX7_cut_1 : decode cX7_cut 1 = .ok (.iload_n 1, 1) := by decide +kernel
theorem dX7_cut_2 : decode cX7_cut 2 = .ok (.ifCond .lt 9, 3) := by decide +kernel
theorem dX7_cut_5 : decode cX7_cut 5 = .ok (.iload_n 1, 1) := by decide +kernel
theorem dX7_cut_6 : decode cX7_cut 6 = .ok (.bipush 32, 2) := by decide +kernel
theorem dX7_cut_8 : decode cX7_cut 8 = .ok (.if_icmp .le 7, 3) := by decide +kernel
theorem dX7_cut_11 : decode cX7_cut 11 = .ok (.iconst 1, 1) := by decide +kernel
theorem dX7_cut_12 : decode cX7_cut 12 = .ok (.goto 15, 3) := by decide +kernel
theorem dX7_cut_15 : decode cX7_cut 15 = .ok (.aload_n 0, 1) := by decide +kernel
theorem dX7_cut_16 : decode cX7_cut 16 = .ok (.getfield 85, 3) := by decide +kernel
theorem dX7_cut_19 : decode cX7_cut 19 = .ok (.ifCond .eq 7, 3) := by decide +kernel
theorem dX7_cut_22 : decode cX7_cut 22 = .ok (.iconst 2, 1) := by decide +kernel
theorem dX7_cut_23 : decode cX7_cut 23 = .ok (.goto 4, 3) := by decide +kernel
theorem dX7_cut_26 : decode cX7_cut 26 = .ok (.iconst 0, 1) := by decide +kernel
theorem dX7_cut_27 : decode cX7_cut 27 = .ok (.putfield 70, 3) := by decide +kernel
theorem dX7_cut_30 : decode cX7_cut 30 = .ok (.aload_n 0, 1) := by decide +kernel
theorem dX7_cut_31 : decode cX7_cut 31 = .ok (.aload_n 0, 1) := by decide +kernel
theorem dX7_cut_32 : decode cX7_cut 32 = .ok (.getfield 70, 3) := by decide +kernel
theorem dX7_cut_35 : decode cX7_cut 35 = .ok (.ifCond .le 10, 3) := by decide +kernel
theorem dX7_cut_38 : decode cX7_cut 38 = .ok (.aload_n 0, 1) := by decide +kernel
theorem dX7_cut_39 : decode cX7_cut 39 = .ok (.getfield 41, 3) := by decide +kernel
theorem dX7_cut_42 : decode cX7_cut 42 = .ok (.goto 4, 3) := by decide +kernel
theorem dX7_cut_45 : decode cX7_cut 45 = .ok (.iload_n 1, 1) := by decide +kernel
theorem dX7_cut_46 : decode cX7_cut 46 = .ok (.putfield 41, 3) := by decide +kernel
theorem dX7_cut_49 : decode cX7_cut 49 = .ok (.return_, 1) := by decide +kernel
theorem dX7_number_0 : decode cX7_number 0 = .ok (.lconst 0, 1) := by decide +kernel
theorem dX7_number_1 : decode cX7_number 1 = .ok (.lstore_n 3, 1) := by decide +kernel
theorem dX7_number_2 : decode cX7_number 2 = .ok (.iload_n 2, 1) := by decide +kernel
theorem dX7_number_3 : decode cX7_number 3 = .ok (.iconst 1, 1) := by decide +kernel
theorem dX7_number_4 : decode cX7_number 4 = .ok (.isub, 1) := by decide +kernel
theorem dX7_number_5 : decode cX7_number 5 = .ok (.istore 5, 2) := by decide +kernel
theorem dX7_number_7 : decode cX7_number 7 = .ok (.iload 5, 2) := by decide +kernel
theorem dX7_number_9 : decode cX7_number 9 = .ok (.ifCond .lt 25, 3) := by decide +kernel
theorem dX7_number_12 : decode cX7_number 12 = .ok (.lload_n 3, 1) := by decide +kernel
theorem dX7_number_13 : decode cX7_number 13 = .ok (.bipush 8, 2) := by decide +kernel
theorem dX7_number_15 : decode cX7_number 15 = .ok (.lshl, 1) := by decide +kernel
theorem dX7_number_16 : decode cX7_number 16 = .ok (.aload_n 0, 1) := by decide +kernel
theorem dX7_number_17 : decode cX7_number 17 = .ok (.getfield 7, 3) := by decide +kernel
theorem dX7_number_20 : decode cX7_number 20 = .ok (.iload_n 1, 1) := by decide +kernel
theorem dX7_number_21 : decode cX7_number 21 = .ok (.iload 5, 2) := by decide +kernel
theorem dX7_number_23 : decode cX7_number 23 = .ok (.iadd, 1) := by decide +kernel
theorem dX7_number_24 : decode cX7_number 24 = .ok (.iaload, 1) := by decide +kernel
theorem dX7_number_25 : decode cX7_number 25 = .ok (.i2l, 1) := by decide +kernel
theorem dX7_number_26 : decode cX7_number 26 = .ok (.lor, 1) := by decide +kernel
theorem dX7_number_27 : decode cX7_number 27 = .ok (.lstore_n 3, 1) := by decide +kernel
theorem dX7_number_28 : decode cX7_number 28 = .ok (.iinc 5 (-1), 3) := by decide +kernel
theorem dX7_number_31 : decode cX7_number 31 = .ok (.goto (-24), 3) := by decide +kernel
theorem dX7_number_34 : decode cX7_number 34 = .ok (.lload_n 3, 1) := by decide +kernel
theorem dX7_number_35 : decode cX7_number 35 = .ok (.lreturn, 1) := by decide +kernel
set_option maxRecDepth 20000 in
theorem ggX7_isRight_X7_checked : GoodIn wsX7_isRight wsX7_checked := goodIn_r _ [7] (by decide +kernel) (by decide +kernel)
set_option maxRecDepth 20000 in
theorem gX7_isRight_X7_checked : GoodIn wsX7_isRight (va_wsS RX7 77 yX7_checked wsX7_checked) := goodIn_app (goodIn_of _ (by decide +kernel)) ggX7_isRight_X7_checked
set_option maxRecDepth 20000 in
theorem ggX7_isRight_X7_number : GoodIn wsX7_isRight wsX7_number := goodIn_r _ [11, 1, 12, 13, 14, 15, 16, 17, 18, 19, 20, 21, 22, 23, 24, 25, 26, 27, 28, 29, 30, 31, 32, 33, 34, 35, 36, 37, 38, 39, 40, 41, 42, 43] (by decide +kernel) (by decide +kernel)
set_option maxRecDepth 20000 in
theorem gX7_isRight_X7_number : GoodIn wsX7_isRight (wsV RX7 281 RX7 yX7_number wsX7_number) := goodIn_app (goodIn_of _ (by decide +kernel)) ggX7_isRight_X7_number
theorem dX7_isRight_0 : decode cX7_isRight 0 = .ok (.iconst 0, 1) := by decide +kernel
theorem dX7_isRight_1 : decode cX7_isRight 1 = .ok (.istore_n 2, 1) := by decide +kernel
theorem dX7_isRight_2 : decode cX7_isRight 2 = .ok (.iconst 0, 1) := by decide +kernel
theorem dX7_isRight_3 : decode cX7_isRight 3 = .ok (.istore_n 3, 1) := by decide +kernel
theorem dX7_isRight_4 : decode cX7_isRight 4 = .ok (.iload_n 3, 1) := by decide +kernel
theorem dX7_isRight_5 : decode cX7_isRight 5 = .ok (.bipush 30, 2) := by decide +kernel
theorem dX7_isRight_7 : decode cX7_isRight 7 = .ok (.if_icmp .ge 25, 3) := by decide +kernel
theorem dX7_isRight_10 : decode cX7_isRight 10 = .ok (.iload_n 2, 1) := by decide +kernel
theorem dX7_isRight_11 : decode cX7_isRight 11 = .ok (.aload_n 0, 1) := by decide +kernel
theorem dX7_isRight_12 : decode cX7_isRight 12 = .ok (.getfield 7, 3) := by decide +kernel
theorem dX7_isRight_15 : decode cX7_isRight 15 = .ok (.bipush 32, 2) := by decide +kernel
theorem dX7_isRight_17 : decode cX7_isRight 17 = .ok (.iload_n 1, 1) := by decide +kernel
theorem dX7_isRight_18 : decode cX7_isRight 18 = .ok (.imul, 1) := by decide +kernel
theorem dX7_isRight_19 : decode cX7_isRight 19 = .ok (.iload_n 3, 1) := by decide +kernel
theorem dX7_isRight_20 : decode cX7_isRight 20 = .ok (.iadd, 1) := by decide +kernel
theorem dX7_isRight_21 : decode cX7_isRight 21 = .ok (.iaload, 1) := by decide +kernel
theorem dX7_isRight_22 : decode cX7_isRight 22 = .ok (.invokestatic 77, 3) := by decide +kernel
theorem dX7_isRight_25 : decode cX7_isRight 25 = .ok (.istore_n 2, 1) := by decide +kernel
theorem dX7_isRight_26 : decode cX7_isRight 26 = .ok (.iinc 3 1, 3) := by decide +kernel
theorem dX7_isRight_29 : decode cX7_isRight 29 = .ok (.goto (-25), 3) := by decide +kernel
theorem dX7_isRight_32 : decode cX7_isRight 32 = .ok (.aload_n 0, 1) := by decide +kernel
theorem dX7_isRight_33 : decode cX7_isRight 33 = .ok (.bipush 32, 2) := by decide +kernel
theorem dX7_isRight_35 : decode cX7_isRight 35 = .ok (.iload_n 1, 1) := by decide +kernel
theorem dX7_isRight_36 : decode cX7_isRight 36 = .ok (.imul, 1) := by decide +kernel
theorem dX7_isRight_37 : decode cX7_isRight 37 = .ok (.iconst 4, 1) := by decide +kernel
theorem dX7_isRight_38 : decode cX7_isRight 38 = .ok (.invokevirtual 281, 3) := by decide +kernel
theorem dX7_isRight_41 : decode cX7_isRight 41 = .ok (.lstore_n 3, 1) := by decide +kernel
theorem dX7_isRight_42 : decode cX7_isRight 42 = .ok (.aload_n 0, 1) := by decide +kernel
theorem dX7_isRight_43 : decode cX7_isRight 43 = .ok (.bipush 32, 2) := by decide +kernel
theorem dX7_isRight_45 : decode cX7_isRight 45 = .ok (.iload_n 1, 1) := by decide +kernel
theorem dX7_isRight_46 : decode cX7_isRight 46 = .ok (.imul, 1) := by decide +kernel
theorem dX7_isRight_47 : decode cX7_isRight 47 = .ok (.bipush 30, 2) := by decide +kernel
theorem dX7_isRight_49 : decode cX7_isRight 49 = .ok (.iadd, 1) := by decide +kernel
theorem dX7_isRight_50 : decode cX7_isRight 50 = .ok (.iconst 2, 1) := by decide +kernel
theorem dX7_isRight_51 : decode cX7_isRight 51 = .ok (.invokevirtual 281, 3) := by decide +kernel
theorem dX7_isRight_54 : decode cX7_isRight 54 = .ok (.iload_n 2, 1) := by decide +kernel
theorem dX7_isRight_55 : decode cX7_isRight 55 = .ok (.i2l, 1) := by decide +kernel
theorem dX7_isRight_56 : decode cX7_isRight 56 = .ok (.lcmp, 1) := by decide +kernel
theorem dX7_isRight_57 : decode cX7_isRight 57 = .ok (.ifCond .ne 36, 3) := by decide +kernel
theorem dX7_isRight_60 : decode cX7_isRight 60 = .ok (.lload_n 3, 1) := by decide +kernel
theorem dX7_isRight_61 : decode cX7_isRight 61 = .ok (.lconst 1, 1) := by decide +kernel
theorem dX7_isRight_62 : decode cX7_isRight 62 = .ok (.lcmp, 1) := by decide +kernel
theorem dX7_isRight_63 : decode cX7_isRight 63 = .ok (.ifCond .lt 30, 3) := by decide +kernel
theorem dX7_isRight_66 : decode cX7_isRight 66 = .ok (.lload_n 3, 1) := by decide +kernel
theorem dX7_isRight_67 : decode cX7_isRight 67 = .ok (.ldc2_w 285, 3) := by decide +kernel
theorem dX7_isRight_70 : decode cX7_isRight 70 = .ok (.lcmp, 1) := by decide +kernel
theorem dX7_isRight_71 : decode cX7_isRight 71 = .ok (.ifCond .gt 22, 3) := by decide +kernel
theorem dX7_isRight_74 : decode cX7_isRight 74 = .ok (.lload_n 3, 1) := by decide +kernel
theorem dX7_isRight_75 : decode cX7_isRight 75 = .ok (.lconst 1, 1) := by decide +kernel
theorem dX7_isRight_76 : decode cX7_isRight 76 = .ok (.lsub, 1) := by decide +kernel
theorem dX7_isRight_77 : decode cX7_isRight 77 = .ok (.aload_n 0, 1) := by decide +kernel
theorem dX7_isRight_78 : decode cX7_isRight 78 = .ok (.getfield 52, 3) := by decide +kernel
theorem dX7_isRight_81 : decode cX7_isRight 81 = .ok (.i2l, 1) := by decide +kernel
theorem dX7_isRight_82 : decode cX7_isRight 82 = .ok (.lrem, 1) := by decide +kernel
theorem dX7_isRight_83 : decode cX7_isRight 83 = .ok (.iload_n 1, 1) := by decide +kernel
theorem dX7_isRight_84 : decode cX7_isRight 84 = .ok (.i2l, 1) := by decide +kernel
theorem dX7_isRight_85 : decode cX7_isRight 85 = .ok (.lcmp, 1) := by decide +kernel
theorem dX7_isRight_86 : decode cX7_isRight 86 = .ok (.ifCond .ne 7, 3) := by decide +kernel
theorem dX7_isRight_89 : decode cX7_isRight 89 = .ok (.iconst 1, 1) := by decide +kernel
theorem dX7_isRight_90 : decode cX7_isRight 90 = .ok (.goto 4, 3) := by decide +kernel
theorem dX7_isRight_93 : decode cX7_isRight 93 = .ok (.iconst 0, 1) := by decide +kernel
theorem dX7_isRight_94 : decode cX7_isRight 94 = .ok (.ireturn, 1) := by decide +kernel
set_option maxRecDepth 20000 in
theorem ggX7_begin_X7_isRight : GoodIn wsX7_begin wsX7_isRight := goodIn_r _ [29, 30, 31, 22, 32, 33, 28, 34, 35, 36, 37, 38, 39, 40, 41, 42, 43, 44, 45, 46, 47, 48, 49, 50, 51, 52, 53, 54, 55, 56, 57, 58, 59, 60, 61, 62, 63, 64, 65, 66, 67, 68, 69, 70] (by decide +kernel) (by decide +kernel)
set_option maxRecDepth 20000 in
theorem gX7_begin_X7_isRight : GoodIn wsX7_begin (wsV RX7 289 RX7 yX7_isRight wsX7_isRight) := goodIn_app (goodIn_of _ (by decide +kernel)) ggX7_begin_X7_isRight
set_option maxRecDepth 20000 in
theorem ggX7_begin_X7_number : GoodIn wsX7_begin wsX7_number := goodIn_r _ [38, 30, 39, 40, 41, 42, 43, 44, 45, 46, 47, 48, 49, 50, 51, 52, 53, 54, 55, 56, 57, 58, 59, 60, 61, 62, 63, 64, 65, 66, 67, 68, 69, 70] (by decide +kernel) (by decide +kernel)
set_option maxRecDepth 20000 in
theorem gX7_begin_X7_number : GoodIn wsX7_begin (wsV RX7 281 RX7 yX7_number wsX7_number) := goodIn_app (goodIn_of _ (by decide +kernel)) ggX7_begin_X7_number
theorem dX7_begin_0 : decode cX7_begin 0 = .ok (.aload_n 0, 1) := by decide +kernel
theorem dX7_begin_1 : decode cX7_begin 1 = .ok (.iconst 0, 1) := by decide +kernel
theorem dX7_begin_2 : decode cX7_begin 2 = .ok (.putfield 85, 3) := by decide +kernel
theorem dX7_begin_5 : decode cX7_begin 5 = .ok (.aload_n 0, 1) := by decide +kernel
theorem dX7_begin_6 : decode cX7_begin 6 = .ok (.iconst 0, 1) := by decide +kernel
theorem dX7_begin_7 : decode cX7_begin 7 = .ok (.putfield 253, 3) := by decide +kernel
theorem dX7_begin_10 : decode cX7_begin 10 = .ok (.aload_n 0, 1) := by decide +kernel
theorem dX7_begin_11 : decode cX7_begin 11 = .ok (.lconst 0, 1) := by decide +kernel
theorem dX7_begin_12 : decode cX7_begin 12 = .ok (.putfield 112, 3) := by decide +kernel
theorem dX7_begin_15 : decode cX7_begin 15 = .ok (.aload_n 0, 1) := by decide +kernel
theorem dX7_begin_16 : decode cX7_begin 16 = .ok (.lconst 0, 1) := by decide +kernel
theorem dX7_begin_17 : decode cX7_begin 17 = .ok (.putfield 144, 3) := by decide +kernel
theorem dX7_begin_20 : decode cX7_begin 20 = .ok (.aload_n 0, 1) := by decide +kernel
theorem dX7_begin_21 : decode cX7_begin 21 = .ok (.lconst 0, 1) := by decide +kernel
theorem dX7_begin_22 : decode cX7_begin 22 = .ok (.putfield 92, 3) := by decide +kernel
theorem dX7_begin_25 : decode cX7_begin 25 = .ok (.aload_n 0, 1) := by decide +kernel
theorem dX7_begin_26 : decode cX7_begin 26 = .ok (.iconst 0, 1) := by decide +kernel
theorem dX7_begin_27 : decode cX7_begin 27 = .ok (.putfield 106, 3) := by decide +kernel
theorem dX7_begin_30 : decode cX7_begin 30 = .ok (.aload_n 0, 1) := by decide +kernel
theorem dX7_begin_31 : decode cX7_begin 31 = .ok (.iconst 0, 1) := by decide +kernel
theorem dX7_begin_32 : decode cX7_begin 32 = .ok (.putfield 109, 3) := by decide +kernel
theorem dX7_begin_35 : decode cX7_begin 35 = .ok (.aload_n 0, 1) := by decide +kernel
theorem dX7_begin_36 : decode cX7_begin 36 = .ok (.iconst 0, 1) := by decide +kernel
theorem dX7_begin_37 : decode cX7_begin 37 = .ok (.putfield 155, 3) := by decide +kernel
theorem dX7_begin_40 : decode cX7_begin 40 = .ok (.aload_n 0, 1) := by decide +kernel
theorem dX7_begin_41 : decode cX7_begin 41 = .ok (.lconst 0, 1) := by decide +kernel
theorem dX7_begin_42 : decode cX7_begin 42 = .ok (.putfield 205, 3) := by decide +kernel
theorem dX7_begin_45 : decode cX7_begin 45 = .ok (.aload_n 0, 1) := by decide +kernel
theorem dX7_begin_46 : decode cX7_begin 46 = .ok (.lconst 0, 1) := by decide +kernel
theorem dX7_begin_47 : decode cX7_begin 47 = .ok (.putfield 210, 3) := by decide +kernel
theorem dX7_begin_50 : decode cX7_begin 50 = .ok (.aload_n 0, 1) := by decide +kernel
theorem dX7_begin_51 : decode cX7_begin 51 = .ok (.iconst 0, 1) := by decide +kernel
theorem dX7_begin_52 : decode cX7_begin 52 = .ok (.putfield 224, 3) := by decide +kernel
theorem dX7_begin_55 : decode cX7_begin 55 = .ok (.aload_n 0, 1) := by decide +kernel
theorem dX7_begin_56 : decode cX7_begin 56 = .ok (.iconst 0, 1) := by decide +kernel
theorem dX7_begin_57 : decode cX7_begin 57 = .ok (.putfield 234, 3) := by decide +kernel
theorem dX7_begin_60 : decode cX7_begin 60 = .ok (.aload_n 0, 1) := by decide +kernel
theorem dX7_begin_61 : decode cX7_begin 61 = .ok (.iconst 0, 1) := by decide +kernel
theorem dX7_begin_62 : decode cX7_begin 62 = .ok (.putfield 237, 3) := by decide +kernel
theorem dX7_begin_65 : decode cX7_begin 65 = .ok (.aload_n 0, 1) := by decide +kernel
theorem dX7_begin_66 : decode cX7_begin 66 = .ok (.bipush 32, 2) := by decide +kernel
theorem dX7_begin_68 : decode cX7_begin 68 = .ok (.putfield 41, 3) := by decide +kernel
theorem dX7_begin_71 : decode cX7_begin 71 = .ok (.aload_n 0, 1) := by decide +kernel
theorem dX7_begin_72 : decode cX7_begin 72 = .ok (.iconst 1, 1) := by decide +kernel
theorem dX7_begin_73 : decode cX7_begin 73 = .ok (.putfield 256, 3) := by decide +kernel
theorem dX7_begin_76 : decode cX7_begin 76 = .ok (.iconst 0, 1) := by decide +kernel
theorem dX7_begin_77 : decode cX7_begin 77 = .ok (.istore_n 1, 1) := by decide +kernel
theorem dX7_begin_78 : decode cX7_begin 78 = .ok (.iload_n 1, 1) := by decide +kernel
theorem dX7_begin_79 : decode cX7_begin 79 = .ok (.bipush 7, 2) := by decide +kernel
theorem dX7_begin_81 : decode cX7_begin 81 = .ok (.if_icmp .ge 16, 3) := by decide +kernel
theorem dX7_begin_84 : decode cX7_begin 84 = .ok (.aload_n 0, 1) := by decide +kernel
theorem dX7_begin_85 : decode cX7_begin 85 = .ok (.getfield 35, 3) := by decide +kernel
theorem dX7_begin_88 : decode cX7_begin 88 = .ok (.iload_n 1, 1) := by decide +kernel
theorem dX7_begin_89 : decode cX7_begin 89 = .ok (.iconst 0, 1) := by decide +kernel
theorem dX7_begin_90 : decode cX7_begin 90 = .ok (.iastore, 1) := by decide +kernel
theorem dX7_begin_91 : decode cX7_begin 91 = .ok (.iinc 1 1, 3) := by decide +kernel
theorem dX7_begin_94 : decode cX7_begin 94 = .ok (.goto (-16), 3) := by decide +kernel
theorem dX7_begin_97 : decode cX7_begin 97 = .ok (.iconst 0, 1) := by decide +kernel
theorem dX7_begin_98 : decode cX7_begin 98 = .ok (.istore_n 1, 1) := by decide +kernel
theorem dX7_begin_99 : decode cX7_begin 99 = .ok (.iload_n 1, 1) := by decide +kernel
theorem dX7_begin_100 : decode cX7_begin 100 = .ok (.iconst 4, 1) := by decide +kernel
theorem dX7_begin_101 : decode cX7_begin 101 = .ok (.if_icmp .ge 41, 3) := by decide +kernel
theorem dX7_begin_104 : decode cX7_begin 104 = .ok (.aload_n 0, 1) := by decide +kernel
theorem dX7_begin_105 : decode cX7_begin 105 = .ok (.getfield 16, 3) := by decide +kernel
theorem dX7_begin_108 : decode cX7_begin 108 = .ok (.iload_n 1, 1) := by decide +kernel
theorem dX7_begin_109 : decode cX7_begin 109 = .ok (.ldc2_w 287, 3) := by decide +kernel
theorem dX7_begin_112 : decode cX7_begin 112 = .ok (.lastore, 1) := by decide +kernel
theorem dX7_begin_113 : decode cX7_begin 113 = .ok (.aload_n 0, 1) := by decide +kernel
theorem dX7_begin_114 : decode cX7_begin 114 = .ok (.getfield 29, 3) := by decide +kernel
theorem dX7_begin_117 : decode cX7_begin 117 = .ok (.iload_n 1, 1) := by decide +kernel
theorem dX7_begin_118 : decode cX7_begin 118 = .ok (.iconst 0, 1) := by decide +kernel
theorem dX7_begin_119 : decode cX7_begin 119 = .ok (.iastore, 1) := by decide +kernel
theorem dX7_begin_120 : decode cX7_begin 120 = .ok (.aload_n 0, 1) := by decide +kernel
theorem dX7_begin_121 : decode cX7_begin 121 = .ok (.getfield 32, 3) := by decide +kernel
theorem dX7_begin_124 : decode cX7_begin 124 = .ok (.iload_n 1, 1) := by decide +kernel
theorem dX7_begin_125 : decode cX7_begin 125 = .ok (.sipush 1000, 3) := by decide +kernel
theorem dX7_begin_128 : decode cX7_begin 128 = .ok (.iastore, 1) := by decide +kernel
theorem dX7_begin_129 : decode cX7_begin 129 = .ok (.aload_n 0, 1) := by decide +kernel
theorem dX7_begin_130 : decode cX7_begin 130 = .ok (.getfield 38, 3) := by decide +kernel
theorem dX7_begin_133 : decode cX7_begin 133 = .ok (.iload_n 1, 1) := by decide +kernel
theorem dX7_begin_134 : decode cX7_begin 134 = .ok (.iconst 0, 1) := by decide +kernel
theorem dX7_begin_135 : decode cX7_begin 135 = .ok (.iastore, 1) := by decide +kernel
theorem dX7_begin_136 : decode cX7_begin 136 = .ok (.iinc 1 1, 3) := by decide +kernel
theorem dX7_begin_139 : decode cX7_begin 139 = .ok (.goto (-40), 3) := by decide +kernel
theorem dX7_begin_142 : decode cX7_begin 142 = .ok (.iconst (-1), 1) := by decide +kernel
theorem dX7_begin_143 : decode cX7_begin 143 = .ok (.istore_n 1, 1) := by decide +kernel
theorem dX7_begin_144 : decode cX7_begin 144 = .ok (.iconst 0, 1) := by decide +kernel
theorem dX7_begin_145 : decode cX7_begin 145 = .ok (.istore_n 2, 1) := by decide +kernel
theorem dX7_begin_146 : decode cX7_begin 146 = .ok (.iload_n 2, 1) := by decide +kernel
theorem dX7_begin_147 : decode cX7_begin 147 = .ok (.aload_n 0, 1) := by decide +kernel
theorem dX7_begin_148 : decode cX7_begin 148 = .ok (.getfield 52, 3) := by decide +kernel
theorem dX7_begin_151 : decode cX7_begin 151 = .ok (.if_icmp .ge 45, 3) := by decide +kernel
theorem dX7_begin_154 : decode cX7_begin 154 = .ok (.aload_n 0, 1) := by decide +kernel
theorem dX7_begin_155 : decode cX7_begin 155 = .ok (.iload_n 2, 1) := by decide +kernel
theorem dX7_begin_156 : decode cX7_begin 156 = .ok (.invokevirtual 289, 3) := by decide +kernel
theorem dX7_begin_159 : decode cX7_begin 159 = .ok (.ifCond .eq 31, 3) := by decide +kernel
theorem dX7_begin_162 : decode cX7_begin 162 = .ok (.iload_n 1, 1) := by decide +kernel
theorem dX7_begin_163 : decode cX7_begin 163 = .ok (.ifCond .lt 25, 3) := by decide +kernel
theorem dX7_begin_166 : decode cX7_begin 166 = .ok (.aload_n 0, 1) := by decide +kernel
theorem dX7_begin_167 : decode cX7_begin 167 = .ok (.bipush 32, 2) := by decide +kernel
theorem dX7_begin_169 : decode cX7_begin 169 = .ok (.iload_n 2, 1) := by decide +kernel
theorem dX7_begin_170 : decode cX7_begin 170 = .ok (.imul, 1) := by decide +kernel
theorem dX7_begin_171 : decode cX7_begin 171 = .ok (.iconst 4, 1) := by decide +kernel
theorem dX7_begin_172 : decode cX7_begin 172 = .ok (.invokevirtual 281, 3) := by decide +kernel
theorem dX7_begin_175 : decode cX7_begin 175 = .ok (.aload_n 0, 1) := by decide +kernel
theorem dX7_begin_176 : decode cX7_begin 176 = .ok (.bipush 32, 2) := by decide +kernel
theorem dX7_begin_178 : decode cX7_begin 178 = .ok (.iload_n 1, 1) := by decide +kernel
theorem dX7_begin_179 : decode cX7_begin 179 = .ok (.imul, 1) := by decide +kernel
theorem dX7_begin_180 : decode cX7_begin 180 = .ok (.iconst 4, 1) := by decide +kernel
theorem dX7_begin_181 : decode cX7_begin 181 = .ok (.invokevirtual 281, 3) := by decide +kernel
theorem dX7_begin_184 : decode cX7_begin 184 = .ok (.lcmp, 1) := by decide +kernel
theorem dX7_begin_185 : decode cX7_begin 185 = .ok (.ifCond .le 5, 3) := by decide +kernel
theorem dX7_begin_188 : decode cX7_begin 188 = .ok (.iload_n 2, 1) := by decide +kernel
theorem dX7_begin_189 : decode cX7_begin 189 = .ok (.istore_n 1, 1) := by decide +kernel
theorem dX7_begin_190 : decode cX7_begin 190 = .ok (.iinc 2 1, 3) := by decide +kernel
theorem dX7_begin_193 : decode cX7_begin 193 = .ok (.goto (-47), 3) := by decide +kernel
theorem dX7_begin_196 : decode cX7_begin 196 = .ok (.iload_n 1, 1) := by decide +kernel
theorem dX7_begin_197 : decode cX7_begin 197 = .ok (.ifCond .lt 121, 3) := by decide +kernel
theorem dX7_begin_200 : decode cX7_begin 200 = .ok (.aload_n 0, 1) := by decide +kernel
theorem dX7_begin_201 : decode cX7_begin 201 = .ok (.aload_n 0, 1) := by decide +kernel
theorem dX7_begin_202 : decode cX7_begin 202 = .ok (.bipush 32, 2) := by decide +kernel
theorem dX7_begin_204 : decode cX7_begin 204 = .ok (.iload_n 1, 1) := by decide +kernel
theorem dX7_begin_205 : decode cX7_begin 205 = .ok (.imul, 1) := by decide +kernel
theorem dX7_begin_206 : decode cX7_begin 206 = .ok (.iconst 4, 1) := by decide +kernel
theorem dX7_begin_207 : decode cX7_begin 207 = .ok (.invokevirtual 281, 3) := by decide +kernel
theorem dX7_begin_210 : decode cX7_begin 210 = .ok (.l2i, 1) := by decide +kernel
theorem dX7_begin_211 : decode cX7_begin 211 = .ok (.iconst 1, 1) := by decide +kernel
theorem dX7_begin_212 : decode cX7_begin 212 = .ok (.iadd, 1) := by decide +kernel
theorem dX7_begin_213 : decode cX7_begin 213 = .ok (.putfield 256, 3) := by decide +kernel
theorem dX7_begin_216 : decode cX7_begin 216 = .ok (.aload_n 0, 1) := by decide +kernel
theorem dX7_begin_217 : decode cX7_begin 217 = .ok (.aload_n 0, 1) := by decide +kernel
theorem dX7_begin_218 : decode cX7_begin 218 = .ok (.bipush 32, 2) := by decide +kernel
theorem dX7_begin_220 : decode cX7_begin 220 = .ok (.iload_n 1, 1) := by decide +kernel
theorem dX7_begin_221 : decode cX7_begin 221 = .ok (.imul, 1) := by decide +kernel
theorem dX7_begin_222 : decode cX7_begin 222 = .ok (.iconst 4, 1) := by decide +kernel
theorem dX7_begin_223 : decode cX7_begin 223 = .ok (.iadd, 1) := by decide +kernel
theorem dX7_begin_224 : decode cX7_begin 224 = .ok (.iconst 4, 1) := by decide +kernel
theorem dX7_begin_225 : decode cX7_begin 225 = .ok (.invokevirtual 281, 3) := by decide +kernel
theorem dX7_begin_228 : decode cX7_begin 228 = .ok (.l2i, 1) := by decide +kernel
theorem dX7_begin_229 : decode cX7_begin 229 = .ok (.putfield 253, 3) := by decide +kernel
theorem dX7_begin_232 : decode cX7_begin 232 = .ok (.aload_n 0, 1) := by decide +kernel
theorem dX7_begin_233 : decode cX7_begin 233 = .ok (.aload_n 0, 1) := by decide +kernel
theorem dX7_begin_234 : decode cX7_begin 234 = .ok (.bipush 32, 2) := by decide +kernel
theorem dX7_begin_236 : decode cX7_begin 236 = .ok (.iload_n 1, 1) := by decide +kernel
theorem dX7_begin_237 : decode cX7_begin 237 = .ok (.imul, 1) := by decide +kernel
theorem dX7_begin_238 : decode cX7_begin 238 = .ok (.bipush 8, 2) := by decide +kernel
theorem dX7_begin_240 : decode cX7_begin 240 = .ok (.iadd, 1) := by decide +kernel
theorem dX7_begin_241 : decode cX7_begin 241 = .ok (.bipush 8, 2) := by decide +kernel
theorem dX7_begin_243 : decode cX7_begin 243 = .ok (.invokevirtual 281, 3) := by decide +kernel
theorem dX7_begin_246 : decode cX7_begin 246 = .ok (.putfield 112, 3) := by decide +kernel
theorem dX7_begin_249 : decode cX7_begin 249 = .ok (.aload_n 0, 1) := by decide +kernel
theorem dX7_begin_250 : decode cX7_begin 250 = .ok (.aload_n 0, 1) := by decide +kernel
theorem dX7_begin_251 : decode cX7_begin 251 = .ok (.getfield 112, 3) := by decide +kernel
theorem dX7_begin_254 : decode cX7_begin 254 = .ok (.lconst 0, 1) := by decide +kernel
theorem dX7_begin_255 : decode cX7_begin 255 = .ok (.lcmp, 1) := by decide +kernel
theorem dX7_begin_256 : decode cX7_begin 256 = .ok (.ifCond .ge 7, 3) := by decide +kernel
theorem dX7_begin_259 : decode cX7_begin 259 = .ok (.lconst 0, 1) := by decide +kernel
theorem dX7_begin_260 : decode cX7_begin 260 = .ok (.goto 34, 3) := by decide +kernel
theorem dX7_begin_263 : decode cX7_begin 263 = .ok (.aload_n 0, 1) := by decide +kernel
theorem dX7_begin_264 : decode cX7_begin 264 = .ok (.getfield 112, 3) := by decide +kernel
theorem dX7_begin_267 : decode cX7_begin 267 = .ok (.ldc2_w 140, 3) := by decide +kernel
theorem dX7_begin_270 : decode cX7_begin 270 = .ok (.aload_n 0, 1) := by decide +kernel
theorem dX7_begin_271 : decode cX7_begin 271 = .ok (.getfield 57, 3) := by decide +kernel
theorem dX7_begin_274 : decode cX7_begin 274 = .ok (.lmul, 1) := by decide +kernel
theorem dX7_begin_275 : decode cX7_begin 275 = .ok (.lcmp, 1) := by decide +kernel
theorem dX7_begin_276 : decode cX7_begin 276 = .ok (.ifCond .le 14, 3) := by decide +kernel
theorem dX7_begin_279 : decode cX7_begin 279 = .ok (.ldc2_w 140, 3) := by decide +kernel
theorem dX7_begin_282 : decode cX7_begin 282 = .ok (.aload_n 0, 1) := by decide +kernel
theorem dX7_begin_283 : decode cX7_begin 283 = .ok (.getfield 57, 3) := by decide +kernel
theorem dX7_begin_286 : decode cX7_begin 286 = .ok (.lmul, 1) := by decide +kernel
theorem dX7_begin_287 : decode cX7_begin 287 = .ok (.goto 7, 3) := by decide +kernel
theorem dX7_begin_290 : decode cX7_begin 290 = .ok (.aload_n 0, 1) := by decide +kernel
theorem dX7_begin_291 : decode cX7_begin 291 = .ok (.getfield 112, 3) := by decide +kernel
theorem dX7_begin_294 : decode cX7_begin 294 = .ok (.putfield 112, 3) := by decide +kernel
theorem dX7_begin_297 : decode cX7_begin 297 = .ok (.aload_n 0, 1) := by decide +kernel
theorem dX7_begin_298 : decode cX7_begin 298 = .ok (.aload_n 0, 1) := by decide +kernel
theorem dX7_begin_299 : decode cX7_begin 299 = .ok (.bipush 32, 2) := by decide +kernel
theorem dX7_begin_301 : decode cX7_begin 301 = .ok (.iload_n 1, 1) := by decide +kernel
theorem dX7_begin_302 : decode cX7_begin 302 = .ok (.imul, 1) := by decide +kernel
theorem dX7_begin_303 : decode cX7_begin 303 = .ok (.bipush 16, 2) := by decide +kernel
theorem dX7_begin_305 : decode cX7_begin 305 = .ok (.iadd, 1) := by decide +kernel
theorem dX7_begin_306 : decode cX7_begin 306 = .ok (.iconst 2, 1) := by decide +kernel
theorem dX7_begin_307 : decode cX7_begin 307 = .ok (.invokevirtual 281, 3) := by decide +kernel
theorem dX7_begin_310 : decode cX7_begin 310 = .ok (.l2i, 1) := by decide +kernel
theorem dX7_begin_311 : decode cX7_begin 311 = .ok (.sipush 511, 3) := by decide +kernel
theorem dX7_begin_314 : decode cX7_begin 314 = .ok (.iand, 1) := by decide +kernel
theorem dX7_begin_315 : decode cX7_begin 315 = .ok (.putfield 224, 3) := by decide +kernel
theorem dX7_begin_318 : decode cX7_begin 318 = .ok (.return_, 1) := by decide +kernel
set_option maxRecDepth 20000 in
theorem ggX7_power_X7_begin : GoodIn wsX7_power wsX7_begin := goodIn_r _ [7, 8, 2, 9, 10, 11, 12, 13, 14, 15, 16, 17, 18, 19, 20, 21, 22, 23, 24, 25, 26, 27, 28, 29, 30, 31, 32, 33, 6, 34, 35, 36, 37, 38, 39, 40, 41, 42, 43, 44, 45, 46, 47, 48, 49, 50, 51, 52, 53, 54, 55, 56, 57, 58, 59, 60, 61, 62, 63, 64, 65, 66, 67, 68, 69, 70, 71, 72, 73, 74, 75] (by decide +kernel) (by decide +kernel)
set_option maxRecDepth 20000 in
theorem gX7_power_X7_begin : GoodIn wsX7_power (wsV RX7 67 RX7 yX7_begin wsX7_begin) := goodIn_app (goodIn_of _ (by decide +kernel)) ggX7_power_X7_begin
theorem dX7_power_0 : decode cX7_power 0 = .ok (.aload_n 0, 1) := by decide +kernel
theorem dX7_power_1 : decode cX7_power 1 = .ok (.iconst 0, 1) := by decide +kernel
theorem dX7_power_2 : decode cX7_power 2 = .ok (.putfield 70, 3) := by decide +kernel
theorem dX7_power_5 : decode cX7_power 5 = .ok (.aload_n 0, 1) := by decide +kernel
theorem dX7_power_6 : decode cX7_power 6 = .ok (.invokevirtual 67, 3) := by decide +kernel
theorem dX7_power_9 : decode cX7_power 9 = .ok (.aload_n 0, 1) := by decide +kernel
theorem dX7_power_10 : decode cX7_power 10 = .ok (.getfield 253, 3) := by decide +kernel
theorem dX7_power_13 : decode cX7_power 13 = .ok (.ireturn, 1) := by decide +kernel
theorem dX7_off_0 : decode cX7_off 0 = .ok (.aload_n 0, 1) := by decide +kernel
theorem dX7_off_1 : decode cX7_off 1 = .ok (.iconst 0, 1) := by decide +kernel
theorem dX7_off_2 : decode cX7_off 2 = .ok (.putfield 70, 3) := by decide +kernel
theorem dX7_off_5 : decode cX7_off 5 = .ok (.aload_n 0, 1) := by decide +kernel
theorem dX7_off_6 : decode cX7_off 6 = .ok (.getfield 85, 3) := by decide +kernel
theorem dX7_off_9 : decode cX7_off 9 = .ok (.ireturn, 1) := by decide +kernel
theorem dX7_noPower_0 : decode cX7_noPower 0 = .ok (.aload_n 0, 1) := by decide +kernel
theorem dX7_noPower_1 : decode cX7_noPower 1 = .ok (.aload_n 0, 1) := by decide +kernel
theorem dX7_noPower_2 : decode cX7_noPower 2 = .ok (.getfield 85, 3) := by decide +kernel
theorem dX7_noPower_5 : decode cX7_noPower 5 = .ok (.ifCond .eq 7, 3) := by decide +kernel
theorem dX7_noPower_8 : decode cX7_noPower 8 = .ok (.iconst 1, 1) := by decide +kernel
theorem dX7_noPower_9 : decode cX7_noPower 9 = .ok (.goto 4, 3) := by decide +kernel
theorem dX7_noPower_12 : decode cX7_noPower 12 = .ok (.iconst 0, 1) := by decide +kernel
theorem dX7_noPower_13 : decode cX7_noPower 13 = .ok (.putfield 70, 3) := by decide +kernel
theorem dX7_noPower_16 : decode cX7_noPower 16 = .ok (.aload_n 0, 1) := by decide +kernel
theorem dX7_noPower_17 : decode cX7_noPower 17 = .ok (.getfield 85, 3) := by decide +kernel
theorem dX7_noPower_20 : decode cX7_noPower 20 = .ok (.ireturn, 1) := by decide +kernel
set_option maxRecDepth 20000 in
theorem ggX7_time_X7_noPower : GoodIn wsX7_time wsX7_noPower := goodIn_r _ [6, 7, 8, 9, 10, 11, 12, 13, 14, 15, 16, 17, 18, 19, 20, 21, 22, 23, 24, 25, 26, 27, 28, 29, 30, 31, 32, 33, 34, 35, 36, 37, 38, 39, 40] (by decide +kernel) (by decide +kernel)
set_option maxRecDepth 20000 in
theorem gX7_time_X7_noPower : GoodIn wsX7_time (wsV RX7 292 RX7 yX7_noPower wsX7_noPower) := goodIn_app (goodIn_of _ (by decide +kernel)) ggX7_time_X7_noPower
theorem dX7_time_0 : decode cX7_time 0 = .ok (.aload_n 0, 1) := by decide +kernel
theorem dX7_time_1 : decode cX7_time 1 = .ok (.invokevirtual 292, 3) := by decide +kernel
theorem dX7_time_4 : decode cX7_time 4 = .ok (.ifCond .eq 7, 3) := by decide +kernel
theorem dX7_time_7 : decode cX7_time 7 = .ok (.iconst 0, 1) := by decide +kernel
theorem dX7_time_8 : decode cX7_time 8 = .ok (.goto 7, 3) := by decide +kernel
theorem dX7_time_11 : decode cX7_time 11 = .ok (.aload_n 0, 1) := by decide +kernel
theorem dX7_time_12 : decode cX7_time 12 = .ok (.getfield 253, 3) := by decide +kernel
theorem dX7_time_15 : decode cX7_time 15 = .ok (.ireturn, 1) := by decide +kernel
set_option maxRecDepth 20000 in
theorem ggX7_charge_X7_noPower : GoodIn wsX7_charge wsX7_noPower := goodIn_r _ [7, 8, 9, 10, 11, 12, 13, 14, 15, 16, 17, 18, 19, 20, 21, 22, 23, 24, 25, 26, 27, 28, 29, 30, 31, 32, 33, 34, 35, 36, 37, 38, 39, 40, 41] (by decide +kernel) (by decide +kernel)
set_option maxRecDepth 20000 in
theorem gX7_charge_X7_noPower : GoodIn wsX7_charge (wsV RX7 292 RX7 yX7_noPower wsX7_noPower) := goodIn_app (goodIn_of _ (by decide +kernel)) ggX7_charge_X7_noPower
theorem dX7_charge_0 : decode cX7_charge 0 = .ok (.aload_n 0, 1) := by decide +kernel
theorem dX7_charge_1 : decode cX7_charge 1 = .ok (.invokevirtual 292, 3) := by decide +kernel
theorem dX7_charge_4 : decode cX7_charge 4 = .ok (.ifCond .eq 7, 3) := by decide +kernel
theorem dX7_charge_7 : decode cX7_charge 7 = .ok (.dconst 0, 1) := by decide +kernel
theorem dX7_charge_8 : decode cX7_charge 8 = .ok (.goto 12, 3) := by decide +kernel
theorem dX7_charge_11 : decode cX7_charge 11 = .ok (.aload_n 0, 1) := by decide +kernel
theorem dX7_charge_12 : decode cX7_charge 12 = .ok (.getfield 112, 3) := by decide +kernel
theorem dX7_charge_15 : decode cX7_charge 15 = .ok (.l2d, 1) := by decide +kernel
theorem dX7_charge_16 : decode cX7_charge 16 = .ok (.ldc2_w 115, 3) := by decide +kernel
theorem dX7_charge_19 : decode cX7_charge 19 = .ok (.ddiv, 1) := by decide +kernel
theorem dX7_charge_20 : decode cX7_charge 20 = .ok (.dreturn, 1) := by decide +kernel
set_option maxRecDepth 20000 in
theorem ggX7_percent_X7_noPower : GoodIn wsX7_percent wsX7_noPower := goodIn_r _ [9, 10, 11, 15, 16, 17, 18, 19, 20, 21, 22, 23, 24, 25, 26, 27, 28, 29, 30, 31, 32, 33, 34, 35, 36, 37, 38, 39, 40, 41, 42, 43, 44, 45, 46] (by decide +kernel) (by decide +kernel)
set_option maxRecDepth 20000 in
theorem gX7_percent_X7_noPower : GoodIn wsX7_percent (wsV RX7 292 RX7 yX7_noPower wsX7_noPower) := goodIn_app (goodIn_of _ (by decide +kernel)) ggX7_percent_X7_noPower
set_option maxRecDepth 20000 in
theorem ggX7_percent_X7_floor : GoodIn wsX7_percent wsX7_floor := goodIn_r _ [14] (by decide +kernel) (by decide +kernel)
set_option maxRecDepth 20000 in
theorem gX7_percent_X7_floor : GoodIn wsX7_percent (va_wsS RX7 173 yX7_floor wsX7_floor) := goodIn_app (goodIn_of _ (by decide +kernel)) ggX7_percent_X7_floor
theorem dX7_percent_0 : decode cX7_percent 0 = .ok (.aload_n 0, 1) := by decide +kernel
theorem dX7_percent_1 : decode cX7_percent 1 = .ok (.invokevirtual 292, 3) := by decide +kernel
theorem dX7_percent_4 : decode cX7_percent 4 = .ok (.ifCond .eq 7, 3) := by decide +kernel
theorem dX7_percent_7 : decode cX7_percent 7 = .ok (.iconst 0, 1) := by decide +kernel
theorem dX7_percent_8 : decode cX7_percent 8 = .ok (.goto 23, 3) := by decide +kernel
theorem dX7_percent_11 : decode cX7_percent 11 = .ok (.ldc2_w 55, 3) := by decide +kernel
theorem dX7_percent_14 : decode cX7_percent 14 = .ok (.aload_n 0, 1) := by decide +kernel
theorem dX7_percent_15 : decode cX7_percent 15 = .ok (.getfield 112, 3) := by decide +kernel
theorem dX7_percent_18 : decode cX7_percent 18 = .ok (.lmul, 1) := by decide +kernel
theorem dX7_percent_19 : decode cX7_percent 19 = .ok (.ldc2_w 140, 3) := by decide +kernel
theorem dX7_percent_22 : decode cX7_percent 22 = .ok (.aload_n 0, 1) := by decide +kernel
theorem dX7_percent_23 : decode cX7_percent 23 = .ok (.getfield 57, 3) := by decide +kernel
theorem dX7_percent_26 : decode cX7_percent 26 = .ok (.lmul, 1) := by decide +kernel
theorem dX7_percent_27 : decode cX7_percent 27 = .ok (.invokestatic 173, 3) := by decide +kernel
theorem dX7_percent_30 : decode cX7_percent 30 = .ok (.l2i, 1) := by decide +kernel
theorem dX7_percent_31 : decode cX7_percent 31 = .ok (.ireturn, 1) := by decide +kernel
set_option maxRecDepth 20000 in
theorem ggX7_through_X7_noPower : GoodIn wsX7_through wsX7_noPower := goodIn_r _ [7, 8, 9, 10, 11, 12, 13, 14, 15, 16, 17, 18, 19, 20, 21, 22, 23, 24, 25, 26, 27, 28, 29, 30, 31, 32, 33, 34, 35, 36, 37, 38, 39, 40, 41] (by decide +kernel) (by decide +kernel)
set_option maxRecDepth 20000 in
theorem gX7_through_X7_noPower : GoodIn wsX7_through (wsV RX7 292 RX7 yX7_noPower wsX7_noPower) := goodIn_app (goodIn_of _ (by decide +kernel)) ggX7_through_X7_noPower
theorem dX7_through_0 : decode cX7_through 0 = .ok (.aload_n 0, 1) := by decide +kernel
theorem dX7_through_1 : decode cX7_through 1 = .ok (.invokevirtual 292, 3) := by decide +kernel
theorem dX7_through_4 : decode cX7_through 4 = .ok (.ifCond .eq 7, 3) := by decide +kernel
theorem dX7_through_7 : decode cX7_through 7 = .ok (.dconst 0, 1) := by decide +kernel
theorem dX7_through_8 : decode cX7_through 8 = .ok (.goto 12, 3) := by decide +kernel
theorem dX7_through_11 : decode cX7_through 11 = .ok (.aload_n 0, 1) := by decide +kernel
theorem dX7_through_12 : decode cX7_through 12 = .ok (.getfield 144, 3) := by decide +kernel
theorem dX7_through_15 : decode cX7_through 15 = .ok (.l2d, 1) := by decide +kernel
theorem dX7_through_16 : decode cX7_through 16 = .ok (.ldc2_w 99, 3) := by decide +kernel
theorem dX7_through_19 : decode cX7_through 19 = .ok (.ddiv, 1) := by decide +kernel
theorem dX7_through_20 : decode cX7_through 20 = .ok (.dreturn, 1) := by decide +kernel
set_option maxRecDepth 20000 in
theorem ggX7_allowed_X7_noPower : GoodIn wsX7_allowed wsX7_noPower := goodIn_r _ [8, 9, 10, 11, 12, 13, 14, 15, 16, 17, 18, 19, 20, 21, 22, 23, 24, 25, 26, 27, 28, 29, 30, 31, 32, 33, 34, 35, 36, 37, 38, 39, 40, 41, 42] (by decide +kernel) (by decide +kernel)
set_option maxRecDepth 20000 in
theorem gX7_allowed_X7_noPower : GoodIn wsX7_allowed (wsV RX7 292 RX7 yX7_noPower wsX7_noPower) := goodIn_app (goodIn_of _ (by decide +kernel)) ggX7_allowed_X7_noPower
theorem dX7_allowed_0 : decode cX7_allowed 0 = .ok (.aload_n 0, 1) := by decide +kernel
theorem dX7_allowed_1 : decode cX7_allowed 1 = .ok (.invokevirtual 292, 3) := by decide +kernel
theorem dX7_allowed_4 : decode cX7_allowed 4 = .ok (.ifCond .eq 7, 3) := by decide +kernel
theorem dX7_allowed_7 : decode cX7_allowed 7 = .ok (.dconst 0, 1) := by decide +kernel
theorem dX7_allowed_8 : decode cX7_allowed 8 = .ok (.goto 23, 3) := by decide +kernel
theorem dX7_allowed_11 : decode cX7_allowed 11 = .ok (.iload_n 1, 1) := by decide +kernel
theorem dX7_allowed_12 : decode cX7_allowed 12 = .ok (.ifCond .eq 10, 3) := by decide +kernel
theorem dX7_allowed_15 : decode cX7_allowed 15 = .ok (.aload_n 0, 1) := by decide +kernel
theorem dX7_allowed_16 : decode cX7_allowed 16 = .ok (.getfield 210, 3) := by decide +kernel
theorem dX7_allowed_19 : decode cX7_allowed 19 = .ok (.goto 7, 3) := by decide +kernel
theorem dX7_allowed_22 : decode cX7_allowed 22 = .ok (.aload_n 0, 1) := by decide +kernel
theorem dX7_allowed_23 : decode cX7_allowed 23 = .ok (.getfield 205, 3) := by decide +kernel
theorem dX7_allowed_26 : decode cX7_allowed 26 = .ok (.l2d, 1) := by decide +kernel
theorem dX7_allowed_27 : decode cX7_allowed 27 = .ok (.ldc2_w 295, 3) := by decide +kernel
theorem dX7_allowed_30 : decode cX7_allowed 30 = .ok (.ddiv, 1) := by decide +kernel
theorem dX7_allowed_31 : decode cX7_allowed 31 = .ok (.dreturn, 1) := by decide +kernel
theorem dX7_noChip_0 : decode cX7_noChip 0 = .ok (.aload_n 0, 1) := by decide +kernel
theorem dX7_noChip_1 : decode cX7_noChip 1 = .ok (.iload_n 1, 1) := by decide +kernel
theorem dX7_noChip_2 : decode cX7_noChip 2 = .ok (.ifCond .lt 11, 3) := by decide +kernel
theorem dX7_noChip_5 : decode cX7_noChip 5 = .ok (.iload_n 1, 1) := by decide +kernel
theorem dX7_noChip_6 : decode cX7_noChip 6 = .ok (.aload_n 0, 1) := by decide +kernel
theorem dX7_noChip_7 : decode cX7_noChip 7 = .ok (.getfield 49, 3) := by decide +kernel
theorem dX7_noChip_10 : decode cX7_noChip 10 = .ok (.if_icmp .lt 7, 3) := by decide +kernel
theorem dX7_noChip_13 : decode cX7_noChip 13 = .ok (.iconst 1, 1) := by decide +kernel
theorem dX7_noChip_14 : decode cX7_noChip 14 = .ok (.goto 15, 3) := by decide +kernel
theorem dX7_noChip_17 : decode cX7_noChip 17 = .ok (.aload_n 0, 1) := by decide +kernel
theorem dX7_noChip_18 : decode cX7_noChip 18 = .ok (.getfield 85, 3) := by decide +kernel
theorem dX7_noChip_21 : decode cX7_noChip 21 = .ok (.ifCond .eq 7, 3) := by decide +kernel
theorem dX7_noChip_24 : decode cX7_noChip 24 = .ok (.iconst 2, 1) := by decide +kernel
theorem dX7_noChip_25 : decode cX7_noChip 25 = .ok (.goto 4, 3) := by decide +kernel
theorem dX7_noChip_28 : decode cX7_noChip 28 = .ok (.iconst 0, 1) := by decide +kernel
theorem dX7_noChip_29 : decode cX7_noChip 29 = .ok (.putfield 70, 3) := by decide +kernel
theorem dX7_noChip_32 : decode cX7_noChip 32 = .ok (.aload_n 0, 1) := by decide +kernel
theorem dX7_noChip_33 : decode cX7_noChip 33 = .ok (.getfield 70, 3) := by decide +kernel
theorem dX7_noChip_36 : decode cX7_noChip 36 = .ok (.ifCond .le 7, 3) := by decide +kernel
theorem dX7_noChip_39 : decode cX7_noChip 39 = .ok (.iconst 1, 1) := by decide +kernel
theorem dX7_noChip_40 : decode cX7_noChip 40 = .ok (.goto 4, 3) := by decide +kernel
theorem dX7_noChip_43 : decode cX7_noChip 43 = .ok (.iconst 0, 1) := by decide +kernel
theorem dX7_noChip_44 : decode cX7_noChip 44 = .ok (.ireturn, 1) := by decide +kernel
set_option maxRecDepth 20000 in
theorem ggX7_valid_X7_isValid : GoodIn wsX7_valid wsX7_isValid := goodIn_r _ [8, 9, 10, 11, 12, 7, 13, 14, 15, 16, 17, 18, 19, 20, 21, 22, 23, 24, 25, 26, 27, 28, 29, 30, 31, 32, 33, 34, 35, 36, 37, 38, 39, 40, 41, 42, 43, 44, 45, 46, 47, 48, 49, 50, 51, 52, 53, 54, 55, 56, 57, 58] (by decide +kernel) (by decide +kernel)
set_option maxRecDepth 20000 in
theorem gX7_valid_X7_isValid : GoodIn wsX7_valid (wsV RX7 130 RX7 yX7_isValid wsX7_isValid) := goodIn_app (goodIn_of _ (by decide +kernel)) ggX7_valid_X7_isValid
theorem dX7_valid_0 : decode cX7_valid 0 = .ok (.aload_n 0, 1) := by decide +kernel
theorem dX7_valid_1 : decode cX7_valid 1 = .ok (.iload_n 1, 1) := by decide +kernel
theorem dX7_valid_2 : decode cX7_valid 2 = .ok (.ifCond .lt 21, 3) := by decide +kernel
theorem dX7_valid_5 : decode cX7_valid 5 = .ok (.iload_n 1, 1) := by decide +kernel
theorem dX7_valid_6 : decode cX7_valid 6 = .ok (.aload_n 0, 1) := by decide +kernel
theorem dX7_valid_7 : decode cX7_valid 7 = .ok (.getfield 49, 3) := by decide +kernel
theorem dX7_valid_10 : decode cX7_valid 10 = .ok (.if_icmp .ge 13, 3) := by decide +kernel
theorem dX7_valid_13 : decode cX7_valid 13 = .ok (.iload_n 2, 1) := by decide +kernel
theorem dX7_valid_14 : decode cX7_valid 14 = .ok (.ifCond .lt 9, 3) := by decide +kernel
theorem dX7_valid_17 : decode cX7_valid 17 = .ok (.iload_n 2, 1) := by decide +kernel
theorem dX7_valid_18 : decode cX7_valid 18 = .ok (.bipush 6, 2) := by decide +kernel
theorem dX7_valid_20 : decode cX7_valid 20 = .ok (.if_icmp .lt 7, 3) := by decide +kernel
theorem dX7_valid_23 : decode cX7_valid 23 = .ok (.iconst 1, 1) := by decide +kernel
theorem dX7_valid_24 : decode cX7_valid 24 = .ok (.goto 15, 3) := by decide +kernel
theorem dX7_valid_27 : decode cX7_valid 27 = .ok (.aload_n 0, 1) := by decide +kernel
theorem dX7_valid_28 : decode cX7_valid 28 = .ok (.getfield 85, 3) := by decide +kernel
theorem dX7_valid_31 : decode cX7_valid 31 = .ok (.ifCond .eq 7, 3) := by decide +kernel
theorem dX7_valid_34 : decode cX7_valid 34 = .ok (.iconst 2, 1) := by decide +kernel
theorem dX7_valid_35 : decode cX7_valid 35 = .ok (.goto 4, 3) := by decide +kernel
theorem dX7_valid_38 : decode cX7_valid 38 = .ok (.iconst 0, 1) := by decide +kernel
theorem dX7_valid_39 : decode cX7_valid 39 = .ok (.putfield 70, 3) := by decide +kernel
theorem dX7_valid_42 : decode cX7_valid 42 = .ok (.aload_n 0, 1) := by decide +kernel
theorem dX7_valid_43 : decode cX7_valid 43 = .ok (.getfield 70, 3) := by decide +kernel
theorem dX7_valid_46 : decode cX7_valid 46 = .ok (.ifCond .ne 16, 3) := by decide +kernel
theorem dX7_valid_49 : decode cX7_valid 49 = .ok (.aload_n 0, 1) := by decide +kernel
theorem dX7_valid_50 : decode cX7_valid 50 = .ok (.iload_n 1, 1) := by decide +kernel
theorem dX7_valid_51 : decode cX7_valid 51 = .ok (.iload_n 2, 1) := by decide +kernel
theorem dX7_valid_52 : decode cX7_valid 52 = .ok (.invokevirtual 130, 3) := by decide +kernel
theorem dX7_valid_55 : decode cX7_valid 55 = .ok (.ifCond .eq 7, 3) := by decide +kernel
theorem dX7_valid_58 : decode cX7_valid 58 = .ok (.iconst 1, 1) := by decide +kernel
theorem dX7_valid_59 : decode cX7_valid 59 = .ok (.goto 4, 3) := by decide +kernel
theorem dX7_valid_62 : decode cX7_valid 62 = .ok (.iconst 0, 1) := by decide +kernel
theorem dX7_valid_63 : decode cX7_valid 63 = .ok (.ireturn, 1) := by decide +kernel
set_option maxRecDepth 20000 in
theorem ggX7_bleeding_X7_noChip : GoodIn wsX7_bleeding wsX7_noChip := goodIn_r _ [6, 7, 8, 9, 10, 11, 12, 13, 14, 15, 16, 17, 18, 19, 20, 21, 22, 23, 24, 25, 26, 27, 28, 29, 30, 31, 32, 33, 34, 35, 36, 37, 38, 39, 40, 41] (by decide +kernel) (by decide +kernel)
set_option maxRecDepth 20000 in
theorem gX7_bleeding_X7_noChip : GoodIn wsX7_bleeding (wsV RX7 297 RX7 yX7_noChip wsX7_noChip) := goodIn_app (goodIn_of _ (by decide +kernel)) ggX7_bleeding_X7_noChip
theorem dX7_bleeding_0 : decode cX7_bleeding 0 = .ok (.aload_n 0, 1) := by decide +kernel
theorem dX7_bleeding_1 : decode cX7_bleeding 1 = .ok (.iload_n 1, 1) := by decide +kernel
theorem dX7_bleeding_2 : decode cX7_bleeding 2 = .ok (.invokevirtual 297, 3) := by decide +kernel
theorem dX7_bleeding_5 : decode cX7_bleeding 5 = .ok (.ifCond .eq 7, 3) := by decide +kernel
theorem dX7_bleeding_8 : decode cX7_bleeding 8 = .ok (.iconst 0, 1) := by decide +kernel
theorem dX7_bleeding_9 : decode cX7_bleeding 9 = .ok (.goto 9, 3) := by decide +kernel
theorem dX7_bleeding_12 : decode cX7_bleeding 12 = .ok (.aload_n 0, 1) := by decide +kernel
theorem dX7_bleeding_13 : decode cX7_bleeding 13 = .ok (.getfield 38, 3) := by decide +kernel
theorem dX7_bleeding_16 : decode cX7_bleeding 16 = .ok (.iload_n 1, 1) := by decide +kernel
theorem dX7_bleeding_17 : decode cX7_bleeding 17 = .ok (.iaload, 1) := by decide +kernel
theorem dX7_bleeding_18 : decode cX7_bleeding 18 = .ok (.ireturn, 1) := by decide +kernel
set_option maxRecDepth 20000 in
theorem ggX7_faults_X7_noPower : GoodIn wsX7_faults wsX7_noPower := goodIn_r _ [6, 7, 8, 9, 10, 11, 12, 13, 14, 15, 16, 17, 18, 19, 20, 21, 22, 23, 24, 25, 26, 27, 28, 29, 30, 31, 32, 33, 34, 35, 36, 37, 38, 39, 40] (by decide +kernel) (by decide +kernel)
set_option maxRecDepth 20000 in
theorem gX7_faults_X7_noPower : GoodIn wsX7_faults (wsV RX7 292 RX7 yX7_noPower wsX7_noPower) := goodIn_app (goodIn_of _ (by decide +kernel)) ggX7_faults_X7_noPower
theorem dX7_faults_0 : decode cX7_faults 0 = .ok (.aload_n 0, 1) := by decide +kernel
theorem dX7_faults_1 : decode cX7_faults 1 = .ok (.invokevirtual 292, 3) := by decide +kernel
theorem dX7_faults_4 : decode cX7_faults 4 = .ok (.ifCond .eq 7, 3) := by decide +kernel
theorem dX7_faults_7 : decode cX7_faults 7 = .ok (.iconst 0, 1) := by decide +kernel
theorem dX7_faults_8 : decode cX7_faults 8 = .ok (.goto 7, 3) := by decide +kernel
theorem dX7_faults_11 : decode cX7_faults 11 = .ok (.aload_n 0, 1) := by decide +kernel
theorem dX7_faults_12 : decode cX7_faults 12 = .ok (.getfield 224, 3) := by decide +kernel
theorem dX7_faults_15 : decode cX7_faults 15 = .ok (.ireturn, 1) := by decide +kernel
theorem dX7_count_0 : decode cX7_count 0 = .ok (.aload_n 0, 1) := by decide +kernel
theorem dX7_count_1 : decode cX7_count 1 = .ok (.iload_n 1, 1) := by decide +kernel
theorem dX7_count_2 : decode cX7_count 2 = .ok (.ifCond .lt 9, 3) := by decide +kernel
theorem dX7_count_5 : decode cX7_count 5 = .ok (.iload_n 1, 1) := by decide +kernel
theorem dX7_count_6 : decode cX7_count 6 = .ok (.bipush 6, 2) := by decide +kernel
theorem dX7_count_8 : decode cX7_count 8 = .ok (.if_icmp .le 7, 3) := by decide +kernel
theorem dX7_count_11 : decode cX7_count 11 = .ok (.iconst 1, 1) := by decide +kernel
theorem dX7_count_12 : decode cX7_count 12 = .ok (.goto 15, 3) := by decide +kernel
theorem dX7_count_15 : decode cX7_count 15 = .ok (.aload_n 0, 1) := by decide +kernel
theorem dX7_count_16 : decode cX7_count 16 = .ok (.getfield 85, 3) := by decide +kernel
theorem dX7_count_19 : decode cX7_count 19 = .ok (.ifCond .eq 7, 3) := by decide +kernel
theorem dX7_count_22 : decode cX7_count 22 = .ok (.iconst 2, 1) := by decide +kernel
theorem dX7_count_23 : decode cX7_count 23 = .ok (.goto 4, 3) := by decide +kernel
theorem dX7_count_26 : decode cX7_count 26 = .ok (.iconst 0, 1) := by decide +kernel
theorem dX7_count_27 : decode cX7_count 27 = .ok (.putfield 70, 3) := by decide +kernel
theorem dX7_count_30 : decode cX7_count 30 = .ok (.aload_n 0, 1) := by decide +kernel
theorem dX7_count_31 : decode cX7_count 31 = .ok (.getfield 70, 3) := by decide +kernel
theorem dX7_count_34 : decode cX7_count 34 = .ok (.ifCond .le 7, 3) := by decide +kernel
theorem dX7_count_37 : decode cX7_count 37 = .ok (.iconst 0, 1) := by decide +kernel
theorem dX7_count_38 : decode cX7_count 38 = .ok (.goto 9, 3) := by decide +kernel
theorem dX7_count_41 : decode cX7_count 41 = .ok (.aload_n 0, 1) := by decide +kernel
theorem dX7_count_42 : decode cX7_count 42 = .ok (.getfield 35, 3) := by decide +kernel
theorem dX7_count_45 : decode cX7_count 45 = .ok (.iload_n 1, 1) := by decide +kernel
theorem dX7_count_46 : decode cX7_count 46 = .ok (.iaload, 1) := by decide +kernel
theorem dX7_count_47 : decode cX7_count 47 = .ok (.ireturn, 1) := by decide +kernel
theorem dX7_journal_0 : decode cX7_journal 0 = .ok (.aload_n 0, 1) := by decide +kernel
theorem dX7_journal_1 : decode cX7_journal 1 = .ok (.iload_n 1, 1) := by decide +kernel
theorem dX7_journal_2 : decode cX7_journal 2 = .ok (.ifCond .lt 14, 3) := by decide +kernel
theorem dX7_journal_5 : decode cX7_journal 5 = .ok (.iload_n 1, 1) := by decide +kernel
theorem dX7_journal_6 : decode cX7_journal 6 = .ok (.bipush 32, 2) := by decide +kernel
theorem dX7_journal_8 : decode cX7_journal 8 = .ok (.aload_n 0, 1) := by decide +kernel
theorem dX7_journal_9 : decode cX7_journal 9 = .ok (.getfield 52, 3) := by decide +kernel
theorem dX7_journal_12 : decode cX7_journal 12 = .ok (.imul, 1) := by decide +kernel
theorem dX7_journal_13 : decode cX7_journal 13 = .ok (.if_icmp .lt 7, 3) := by decide +kernel
theorem dX7_journal_16 : decode cX7_journal 16 = .ok (.iconst 1, 1) := by decide +kernel
theorem dX7_journal_17 : decode cX7_journal 17 = .ok (.goto 4, 3) := by decide +kernel
theorem dX7_journal_20 : decode cX7_journal 20 = .ok (.iconst 0, 1) := by decide +kernel
theorem dX7_journal_21 : decode cX7_journal 21 = .ok (.putfield 70, 3) := by decide +kernel
theorem dX7_journal_24 : decode cX7_journal 24 = .ok (.aload_n 0, 1) := by decide +kernel
theorem dX7_journal_25 : decode cX7_journal 25 = .ok (.getfield 70, 3) := by decide +kernel
theorem dX7_journal_28 : decode cX7_journal 28 = .ok (.ifCond .le 7, 3) := by decide +kernel
theorem dX7_journal_31 : decode cX7_journal 31 = .ok (.iconst 0, 1) := by decide +kernel
theorem dX7_journal_32 : decode cX7_journal 32 = .ok (.goto 9, 3) := by decide +kernel
theorem dX7_journal_35 : decode cX7_journal 35 = .ok (.aload_n 0, 1) := by decide +kernel
theorem dX7_journal_36 : decode cX7_journal 36 = .ok (.getfield 7, 3) := by decide +kernel
theorem dX7_journal_39 : decode cX7_journal 39 = .ok (.iload_n 1, 1) := by decide +kernel
theorem dX7_journal_40 : decode cX7_journal 40 = .ok (.iaload, 1) := by decide +kernel
theorem dX7_journal_41 : decode cX7_journal 41 = .ok (.ireturn, 1) := by decide +kernel
theorem dX7_spoil_0 : decode cX7_spoil 0 = .ok (.aload_n 0, 1) := by decide +kernel
theorem dX7_spoil_1 : decode cX7_spoil 1 = .ok (.iload_n 1, 1) := by decide +kernel
theorem dX7_spoil_2 : decode cX7_spoil 2 = .ok (.ifCond .lt 14, 3) := by decide +kernel
theorem dX7_spoil_5 : decode cX7_spoil 5 = .ok (.iload_n 1, 1) := by decide +kernel
theorem dX7_spoil_6 : decode cX7_spoil 6 = .ok (.bipush 32, 2) := by decide +kernel
theorem dX7_spoil_8 : decode cX7_spoil 8 = .ok (.aload_n 0, 1) := by decide +kernel
theorem dX7_spoil_9 : decode cX7_spoil 9 = .ok (.getfield 52, 3) := by decide +kernel
theorem dX7_spoil_12 : decode cX7_spoil 12 = .ok (.imul, 1) := by decide +kernel
theorem dX7_spoil_13 : decode cX7_spoil 13 = .ok (.if_icmp .lt 7, 3) := by decide +kernel
theorem dX7_spoil_16 : decode cX7_spoil 16 = .ok (.iconst 1, 1) := by decide +kernel
theorem dX7_spoil_17 : decode cX7_spoil 17 = .ok (.goto 19, 3) := by decide +kernel
theorem dX7_spoil_20 : decode cX7_spoil 20 = .ok (.iload_n 2, 1) := by decide +kernel
theorem dX7_spoil_21 : decode cX7_spoil 21 = .ok (.ifCond .lt 10, 3) := by decide +kernel
theorem dX7_spoil_24 : decode cX7_spoil 24 = .ok (.iload_n 2, 1) := by decide +kernel
theorem dX7_spoil_25 : decode cX7_spoil 25 = .ok (.sipush 255, 3) := by decide +kernel
theorem dX7_spoil_28 : decode cX7_spoil 28 = .ok (.if_icmp .le 7, 3) := by decide +kernel
theorem dX7_spoil_31 : decode cX7_spoil 31 = .ok (.iconst 2, 1) := by decide +kernel
theorem dX7_spoil_32 : decode cX7_spoil 32 = .ok (.goto 4, 3) := by decide +kernel
theorem dX7_spoil_35 : decode cX7_spoil 35 = .ok (.iconst 0, 1) := by decide +kernel
theorem dX7_spoil_36 : decode cX7_spoil 36 = .ok (.putfield 70, 3) := by decide +kernel
theorem dX7_spoil_39 : decode cX7_spoil 39 = .ok (.aload_n 0, 1) := by decide +kernel
theorem dX7_spoil_40 : decode cX7_spoil 40 = .ok (.getfield 70, 3) := by decide +kernel
theorem dX7_spoil_43 : decode cX7_spoil 43 = .ok (.ifCond .ne 17, 3) := by decide +kernel
theorem dX7_spoil_46 : decode cX7_spoil 46 = .ok (.aload_n 0, 1) := by decide +kernel
theorem dX7_spoil_47 : decode cX7_spoil 47 = .ok (.getfield 7, 3) := by decide +kernel
theorem dX7_spoil_50 : decode cX7_spoil 50 = .ok (.iload_n 1, 1) := by decide +kernel
theorem dX7_spoil_51 : decode cX7_spoil 51 = .ok (.aload_n 0, 1) := by decide +kernel
theorem dX7_spoil_52 : decode cX7_spoil 52 = .ok (.getfield 7, 3) := by decide +kernel
theorem dX7_spoil_55 : decode cX7_spoil 55 = .ok (.iload_n 1, 1) := by decide +kernel
theorem dX7_spoil_56 : decode cX7_spoil 56 = .ok (.iaload, 1) := by decide +kernel
theorem dX7_spoil_57 : decode cX7_spoil 57 = .ok (.iload_n 2, 1) := by decide +kernel
theorem dX7_spoil_58 : decode cX7_spoil 58 = .ok (.ixor, 1) := by decide +kernel
theorem dX7_spoil_59 : decode cX7_spoil 59 = .ok (.iastore, 1) := by decide +kernel
theorem dX7_spoil_60 : decode cX7_spoil 60 = .ok (.return_, 1) := by decide +kernel
