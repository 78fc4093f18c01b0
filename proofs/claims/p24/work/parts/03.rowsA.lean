theorem dJ6_bitCount_0f7a4_0 : decode cJ6_bitCount_0f7a4 0 = .ok (.iload_n 0, 1) := by decide +kernel
theorem dJ6_bitCount_0f7a4_1 : decode cJ6_bitCount_0f7a4 1 = .ok (.iload_n 0, 1) := by decide +kernel
theorem dJ6_bitCount_0f7a4_2 : decode cJ6_bitCount_0f7a4 2 = .ok (.iconst 1, 1) := by decide +kernel
theorem dJ6_bitCount_0f7a4_3 : decode cJ6_bitCount_0f7a4 3 = .ok (.iushr, 1) := by decide +kernel
theorem dJ6_bitCount_0f7a4_4 : decode cJ6_bitCount_0f7a4 4 = .ok (.ldc_w 265, 3) := by decide +kernel
theorem dJ6_bitCount_0f7a4_7 : decode cJ6_bitCount_0f7a4 7 = .ok (.iand, 1) := by decide +kernel
theorem dJ6_bitCount_0f7a4_8 : decode cJ6_bitCount_0f7a4 8 = .ok (.isub, 1) := by decide +kernel
theorem dJ6_bitCount_0f7a4_9 : decode cJ6_bitCount_0f7a4 9 = .ok (.istore_n 0, 1) := by decide +kernel
theorem dJ6_bitCount_0f7a4_10 : decode cJ6_bitCount_0f7a4 10 = .ok (.iload_n 0, 1) := by decide +kernel
theorem dJ6_bitCount_0f7a4_11 : decode cJ6_bitCount_0f7a4 11 = .ok (.ldc_w 266, 3) := by decide +kernel
theorem dJ6_bitCount_0f7a4_14 : decode cJ6_bitCount_0f7a4 14 = .ok (.iand, 1) := by decide +kernel
theorem dJ6_bitCount_0f7a4_15 : decode cJ6_bitCount_0f7a4 15 = .ok (.iload_n 0, 1) := by decide +kernel
theorem dJ6_bitCount_0f7a4_16 : decode cJ6_bitCount_0f7a4 16 = .ok (.iconst 2, 1) := by decide +kernel
theorem dJ6_bitCount_0f7a4_17 : decode cJ6_bitCount_0f7a4 17 = .ok (.iushr, 1) := by decide +kernel
theorem dJ6_bitCount_0f7a4_18 : decode cJ6_bitCount_0f7a4 18 = .ok (.ldc_w 266, 3) := by decide +kernel
theorem dJ6_bitCount_0f7a4_21 : decode cJ6_bitCount_0f7a4 21 = .ok (.iand, 1) := by decide +kernel
theorem dJ6_bitCount_0f7a4_22 : decode cJ6_bitCount_0f7a4 22 = .ok (.iadd, 1) := by decide +kernel
theorem dJ6_bitCount_0f7a4_23 : decode cJ6_bitCount_0f7a4 23 = .ok (.istore_n 0, 1) := by decide +kernel
theorem dJ6_bitCount_0f7a4_24 : decode cJ6_bitCount_0f7a4 24 = .ok (.iload_n 0, 1) := by decide +kernel
theorem dJ6_bitCount_0f7a4_25 : decode cJ6_bitCount_0f7a4 25 = .ok (.iload_n 0, 1) := by decide +kernel
theorem dJ6_bitCount_0f7a4_26 : decode cJ6_bitCount_0f7a4 26 = .ok (.iconst 4, 1) := by decide +kernel
theorem dJ6_bitCount_0f7a4_27 : decode cJ6_bitCount_0f7a4 27 = .ok (.iushr, 1) := by decide +kernel
theorem dJ6_bitCount_0f7a4_28 : decode cJ6_bitCount_0f7a4 28 = .ok (.iadd, 1) := by decide +kernel
theorem dJ6_bitCount_0f7a4_29 : decode cJ6_bitCount_0f7a4 29 = .ok (.ldc_w 267, 3) := by decide +kernel
theorem dJ6_bitCount_0f7a4_32 : decode cJ6_bitCount_0f7a4 32 = .ok (.iand, 1) := by decide +kernel
theorem dJ6_bitCount_0f7a4_33 : decode cJ6_bitCount_0f7a4 33 = .ok (.istore_n 0, 1) := by decide +kernel
theorem dJ6_bitCount_0f7a4_34 : decode cJ6_bitCount_0f7a4 34 = .ok (.iload_n 0, 1) := by decide +kernel
theorem dJ6_bitCount_0f7a4_35 : decode cJ6_bitCount_0f7a4 35 = .ok (.iload_n 0, 1) := by decide +kernel
theorem dJ6_bitCount_0f7a4_36 : decode cJ6_bitCount_0f7a4 36 = .ok (.bipush 8, 2) := by decide +kernel
theorem dJ6_bitCount_0f7a4_38 : decode cJ6_bitCount_0f7a4 38 = .ok (.iushr, 1) := by decide +kernel
theorem dJ6_bitCount_0f7a4_39 : decode cJ6_bitCount_0f7a4 39 = .ok (.iadd, 1) := by decide +kernel
theorem dJ6_bitCount_0f7a4_40 : decode cJ6_bitCount_0f7a4 40 = .ok (.istore_n 0, 1) := by decide +kernel
theorem dJ6_bitCount_0f7a4_41 : decode cJ6_bitCount_0f7a4 41 = .ok (.iload_n 0, 1) := by decide +kernel
theorem dJ6_bitCount_0f7a4_42 : decode cJ6_bitCount_0f7a4 42 = .ok (.iload_n 0, 1) := by decide +kernel
theorem dJ6_bitCount_0f7a4_43 : decode cJ6_bitCount_0f7a4 43 = .ok (.bipush 16, 2) := by decide +kernel
theorem dJ6_bitCount_0f7a4_45 : decode cJ6_bitCount_0f7a4 45 = .ok (.iushr, 1) := by decide +kernel
theorem dJ6_bitCount_0f7a4_46 : decode cJ6_bitCount_0f7a4 46 = .ok (.iadd, 1) := by decide +kernel
theorem dJ6_bitCount_0f7a4_47 : decode cJ6_bitCount_0f7a4 47 = .ok (.istore_n 0, 1) := by decide +kernel
theorem dJ6_bitCount_0f7a4_48 : decode cJ6_bitCount_0f7a4 48 = .ok (.iload_n 0, 1) := by decide +kernel
theorem dJ6_bitCount_0f7a4_49 : decode cJ6_bitCount_0f7a4 49 = .ok (.bipush 63, 2) := by decide +kernel
theorem dJ6_bitCount_0f7a4_51 : decode cJ6_bitCount_0f7a4 51 = .ok (.iand, 1) := by decide +kernel
theorem dJ6_bitCount_0f7a4_52 : decode cJ6_bitCount_0f7a4 52 = .ok (.ireturn, 1) := by decide +kernel
theorem dJ9_max_7cf53_0 : decode cJ9_max_7cf53 0 = .ok (.iload_n 0, 1) := by decide +kernel
theorem dJ9_max_7cf53_1 : decode cJ9_max_7cf53 1 = .ok (.iload_n 1, 1) := by decide +kernel
theorem dJ9_max_7cf53_2 : decode cJ9_max_7cf53 2 = .ok (.if_icmp .lt 7, 3) := by decide +kernel
theorem dJ9_max_7cf53_5 : decode cJ9_max_7cf53 5 = .ok (.iload_n 0, 1) := by decide +kernel
theorem dJ9_max_7cf53_6 : decode cJ9_max_7cf53 6 = .ok (.goto 4, 3) := by decide +kernel
theorem dJ9_max_7cf53_9 : decode cJ9_max_7cf53 9 = .ok (.iload_n 1, 1) := by decide +kernel
theorem dJ9_max_7cf53_10 : decode cJ9_max_7cf53 10 = .ok (.ireturn, 1) := by decide +kernel
theorem dJ9_min_7cf53_0 : decode cJ9_min_7cf53 0 = .ok (.iload_n 0, 1) := by decide +kernel
theorem dJ9_min_7cf53_1 : decode cJ9_min_7cf53 1 = .ok (.iload_n 1, 1) := by decide +kernel
theorem dJ9_min_7cf53_2 : decode cJ9_min_7cf53 2 = .ok (.if_icmp .gt 7, 3) := by decide +kernel
theorem dJ9_min_7cf53_5 : decode cJ9_min_7cf53 5 = .ok (.iload_n 0, 1) := by decide +kernel
theorem dJ9_min_7cf53_6 : decode cJ9_min_7cf53 6 = .ok (.goto 4, 3) := by decide +kernel
theorem dJ9_min_7cf53_9 : decode cJ9_min_7cf53 9 = .ok (.iload_n 1, 1) := by decide +kernel
theorem dJ9_min_7cf53_10 : decode cJ9_min_7cf53 10 = .ok (.ireturn, 1) := by decide +kernel
theorem dJ7_fill_53178_0 : decode cJ7_fill_53178 0 = .ok (.iconst 0, 1) := by decide +kernel
theorem dJ7_fill_53178_1 : decode cJ7_fill_53178 1 = .ok (.istore_n 2, 1) := by decide +kernel
theorem dJ7_fill_53178_2 : decode cJ7_fill_53178 2 = .ok (.aload_n 0, 1) := by decide +kernel
theorem dJ7_fill_53178_3 : decode cJ7_fill_53178 3 = .ok (.arraylength, 1) := by decide +kernel
theorem dJ7_fill_53178_4 : decode cJ7_fill_53178 4 = .ok (.istore_n 3, 1) := by decide +kernel
theorem dJ7_fill_53178_5 : decode cJ7_fill_53178 5 = .ok (.iload_n 2, 1) := by decide +kernel
theorem dJ7_fill_53178_6 : decode cJ7_fill_53178 6 = .ok (.iload_n 3, 1) := by decide +kernel
theorem dJ7_fill_53178_7 : decode cJ7_fill_53178 7 = .ok (.if_icmp .ge 13, 3) := by decide +kernel
theorem dJ7_fill_53178_10 : decode cJ7_fill_53178 10 = .ok (.aload_n 0, 1) := by decide +kernel
theorem dJ7_fill_53178_11 : decode cJ7_fill_53178 11 = .ok (.iload_n 2, 1) := by decide +kernel
theorem dJ7_fill_53178_12 : decode cJ7_fill_53178 12 = .ok (.iload_n 1, 1) := by decide +kernel
theorem dJ7_fill_53178_13 : decode cJ7_fill_53178 13 = .ok (.iastore, 1) := by decide +kernel
theorem dJ7_fill_53178_14 : decode cJ7_fill_53178 14 = .ok (.iinc 2 1, 3) := by decide +kernel
theorem dJ7_fill_53178_17 : decode cJ7_fill_53178 17 = .ok (.goto (-12), 3) := by decide +kernel
theorem dJ7_fill_53178_20 : decode cJ7_fill_53178 20 = .ok (.return_, 1) := by decide +kernel
theorem dX0_init_0 : decode cX0_init 0 = .ok (.aload_n 0, 1) := by decide +kernel
theorem dX0_init_1 : decode cX0_init 1 = .ok (.invokespecial 5, 3) := by decide +kernel
theorem dX0_init_4 : decode cX0_init 4 = .ok (.aload_n 0, 1) := by decide +kernel
theorem dX0_init_5 : decode cX0_init 5 = .ok (.bipush 90, 2) := by decide +kernel
theorem dX0_init_7 : decode cX0_init 7 = .ok (.newarray .int, 2) := by decide +kernel
theorem dX0_init_9 : decode cX0_init 9 = .ok (.putfield 11, 3) := by decide +kernel
theorem dX0_init_12 : decode cX0_init 12 = .ok (.aload_n 0, 1) := by decide +kernel
theorem dX0_init_13 : decode cX0_init 13 = .ok (.bipush 90, 2) := by decide +kernel
theorem dX0_init_15 : decode cX0_init 15 = .ok (.newarray .int, 2) := by decide +kernel
theorem dX0_init_17 : decode cX0_init 17 = .ok (.putfield 15, 3) := by decide +kernel
theorem dX0_init_20 : decode cX0_init 20 = .ok (.return_, 1) := by decide +kernel
set_option maxRecDepth 20000 in
theorem ggX0_mostHeld_J7_fill_53178 : GoodIn wsX0_mostHeld wsJ7_fill_53178 := goodIn_r _ [15] (by decide +kernel) (by decide +kernel)
set_option maxRecDepth 20000 in
theorem gX0_mostHeld_J7_fill_53178 : GoodIn wsX0_mostHeld (va_wsS RX0 31 yJ7_fill_53178 wsJ7_fill_53178) := goodIn_app (goodIn_of _ (by decide +kernel)) ggX0_mostHeld_J7_fill_53178
set_option maxRecDepth 20000 in
theorem ggX0_mostHeld_X0_canRow : GoodIn wsX0_mostHeld wsX0_canRow := goodIn_r _ [19, 20, 21, 22] (by decide +kernel) (by decide +kernel)
set_option maxRecDepth 20000 in
theorem gX0_mostHeld_X0_canRow : GoodIn wsX0_mostHeld (va_wsS RX0 43 yX0_canRow wsX0_canRow) := goodIn_app (goodIn_of _ (by decide +kernel)) ggX0_mostHeld_X0_canRow
set_option maxRecDepth 20000 in
theorem ggX0_mostHeld_X0_layKind : GoodIn wsX0_mostHeld wsX0_layKind := goodIn_r _ [26, 27, 9, 12, 13, 14, 15, 28, 29, 30, 18, 31, 11, 32, 33, 34, 35, 10, 8, 1, 2, 3, 4, 5, 6, 7, 36, 37, 38, 39, 40] (by decide +kernel) (by decide +kernel)
set_option maxRecDepth 20000 in
theorem gX0_mostHeld_X0_layKind : GoodIn wsX0_mostHeld (wsV RX0 47 RX0 yX0_layKind wsX0_layKind) := goodIn_app (goodIn_of _ (by decide +kernel)) ggX0_mostHeld_X0_layKind
theorem dX0_mostHeld_0 : decode cX0_mostHeld 0 = .ok (.aload_n 0, 1) := by decide +kernel
theorem dX0_mostHeld_1 : decode cX0_mostHeld 1 = .ok (.iconst 0, 1) := by decide +kernel
theorem dX0_mostHeld_2 : decode cX0_mostHeld 2 = .ok (.iload_n 3, 1) := by decide +kernel
theorem dX0_mostHeld_3 : decode cX0_mostHeld 3 = .ok (.iconst 4, 1) := by decide +kernel
theorem dX0_mostHeld_4 : decode cX0_mostHeld 4 = .ok (.invokestatic 18, 3) := by decide +kernel
theorem dX0_mostHeld_7 : decode cX0_mostHeld 7 = .ok (.invokestatic 24, 3) := by decide +kernel
theorem dX0_mostHeld_10 : decode cX0_mostHeld 10 = .ok (.putfield 27, 3) := by decide +kernel
theorem dX0_mostHeld_13 : decode cX0_mostHeld 13 = .ok (.aload_n 0, 1) := by decide +kernel
theorem dX0_mostHeld_14 : decode cX0_mostHeld 14 = .ok (.getfield 11, 3) := by decide +kernel
theorem dX0_mostHeld_17 : decode cX0_mostHeld 17 = .ok (.iconst (-1), 1) := by decide +kernel
theorem dX0_mostHeld_18 : decode cX0_mostHeld 18 = .ok (.invokestatic 31, 3) := by decide +kernel
theorem dX0_mostHeld_21 : decode cX0_mostHeld 21 = .ok (.aload_n 0, 1) := by decide +kernel
theorem dX0_mostHeld_22 : decode cX0_mostHeld 22 = .ok (.getfield 11, 3) := by decide +kernel
theorem dX0_mostHeld_25 : decode cX0_mostHeld 25 = .ok (.iconst 0, 1) := by decide +kernel
theorem dX0_mostHeld_26 : decode cX0_mostHeld 26 = .ok (.iconst 0, 1) := by decide +kernel
theorem dX0_mostHeld_27 : decode cX0_mostHeld 27 = .ok (.iastore, 1) := by decide +kernel
theorem dX0_mostHeld_28 : decode cX0_mostHeld 28 = .ok (.iconst 0, 1) := by decide +kernel
theorem dX0_mostHeld_29 : decode cX0_mostHeld 29 = .ok (.istore 4, 2) := by decide +kernel
theorem dX0_mostHeld_31 : decode cX0_mostHeld 31 = .ok (.iload 4, 2) := by decide +kernel
theorem dX0_mostHeld_33 : decode cX0_mostHeld 33 = .ok (.bipush 34, 2) := by decide +kernel
theorem dX0_mostHeld_35 : decode cX0_mostHeld 35 = .ok (.if_icmp .ge 45, 3) := by decide +kernel
theorem dX0_mostHeld_38 : decode cX0_mostHeld 38 = .ok (.aload_n 0, 1) := by decide +kernel
theorem dX0_mostHeld_39 : decode cX0_mostHeld 39 = .ok (.iconst 4, 1) := by decide +kernel
theorem dX0_mostHeld_40 : decode cX0_mostHeld 40 = .ok (.aload_n 2, 1) := by decide +kernel
theorem dX0_mostHeld_41 : decode cX0_mostHeld 41 = .ok (.iload 4, 2) := by decide +kernel
theorem dX0_mostHeld_43 : decode cX0_mostHeld 43 = .ok (.iaload, 1) := by decide +kernel
theorem dX0_mostHeld_44 : decode cX0_mostHeld 44 = .ok (.isub, 1) := by decide +kernel
theorem dX0_mostHeld_45 : decode cX0_mostHeld 45 = .ok (.putfield 37, 3) := by decide +kernel
theorem dX0_mostHeld_48 : decode cX0_mostHeld 48 = .ok (.aload_n 0, 1) := by decide +kernel
theorem dX0_mostHeld_49 : decode cX0_mostHeld 49 = .ok (.aload_n 1, 1) := by decide +kernel
theorem dX0_mostHeld_50 : decode cX0_mostHeld 50 = .ok (.iload 4, 2) := by decide +kernel
theorem dX0_mostHeld_52 : decode cX0_mostHeld 52 = .ok (.iaload, 1) := by decide +kernel
theorem dX0_mostHeld_53 : decode cX0_mostHeld 53 = .ok (.putfield 40, 3) := by decide +kernel
theorem dX0_mostHeld_56 : decode cX0_mostHeld 56 = .ok (.aload_n 0, 1) := by decide +kernel
theorem dX0_mostHeld_57 : decode cX0_mostHeld 57 = .ok (.aload_n 1, 1) := by decide +kernel
theorem dX0_mostHeld_58 : decode cX0_mostHeld 58 = .ok (.iload 4, 2) := by decide +kernel
theorem dX0_mostHeld_60 : decode cX0_mostHeld 60 = .ok (.invokestatic 43, 3) := by decide +kernel
theorem dX0_mostHeld_63 : decode cX0_mostHeld 63 = .ok (.ifCond .eq 7, 3) := by decide +kernel
theorem dX0_mostHeld_66 : decode cX0_mostHeld 66 = .ok (.iconst 2, 1) := by decide +kernel
theorem dX0_mostHeld_67 : decode cX0_mostHeld 67 = .ok (.goto 4, 3) := by decide +kernel
theorem dX0_mostHeld_70 : decode cX0_mostHeld 70 = .ok (.iconst 0, 1) := by decide +kernel
theorem dX0_mostHeld_71 : decode cX0_mostHeld 71 = .ok (.invokevirtual 47, 3) := by decide +kernel
theorem dX0_mostHeld_74 : decode cX0_mostHeld 74 = .ok (.iinc 4 1, 3) := by decide +kernel
theorem dX0_mostHeld_77 : decode cX0_mostHeld 77 = .ok (.goto (-46), 3) := by decide +kernel
theorem dX0_mostHeld_80 : decode cX0_mostHeld 80 = .ok (.iconst 0, 1) := by decide +kernel
theorem dX0_mostHeld_81 : decode cX0_mostHeld 81 = .ok (.istore 4, 2) := by decide +kernel
theorem dX0_mostHeld_83 : decode cX0_mostHeld 83 = .ok (.iconst 0, 1) := by decide +kernel
theorem dX0_mostHeld_84 : decode cX0_mostHeld 84 = .ok (.istore 5, 2) := by decide +kernel
theorem dX0_mostHeld_86 : decode cX0_mostHeld 86 = .ok (.iload 5, 2) := by decide +kernel
theorem dX0_mostHeld_88 : decode cX0_mostHeld 88 = .ok (.bipush 90, 2) := by decide +kernel
theorem dX0_mostHeld_90 : decode cX0_mostHeld 90 = .ok (.if_icmp .ge 23, 3) := by decide +kernel
theorem dX0_mostHeld_93 : decode cX0_mostHeld 93 = .ok (.iload 4, 2) := by decide +kernel
theorem dX0_mostHeld_95 : decode cX0_mostHeld 95 = .ok (.aload_n 0, 1) := by decide +kernel
theorem dX0_mostHeld_96 : decode cX0_mostHeld 96 = .ok (.getfield 11, 3) := by decide +kernel
theorem dX0_mostHeld_99 : decode cX0_mostHeld 99 = .ok (.iload 5, 2) := by decide +kernel
theorem dX0_mostHeld_101 : decode cX0_mostHeld 101 = .ok (.iaload, 1) := by decide +kernel
theorem dX0_mostHeld_102 : decode cX0_mostHeld 102 = .ok (.invokestatic 24, 3) := by decide +kernel
theorem dX0_mostHeld_105 : decode cX0_mostHeld 105 = .ok (.istore 4, 2) := by decide +kernel
theorem dX0_mostHeld_107 : decode cX0_mostHeld 107 = .ok (.iinc 5 1, 3) := by decide +kernel
theorem dX0_mostHeld_110 : decode cX0_mostHeld 110 = .ok (.goto (-24), 3) := by decide +kernel
theorem dX0_mostHeld_113 : decode cX0_mostHeld 113 = .ok (.iload 4, 2) := by decide +kernel
theorem dX0_mostHeld_115 : decode cX0_mostHeld 115 = .ok (.ireturn, 1) := by decide +kernel
set_option maxRecDepth 20000 in
theorem ggX0_canRow_X1_beginsRow : GoodIn wsX0_canRow wsX1_beginsRow := goodIn_r _ [3] (by decide +kernel) (by decide +kernel)
set_option maxRecDepth 20000 in
theorem gX0_canRow_X1_beginsRow_n51 : GoodIn wsX0_canRow (wsX1_beginsRow) := ggX0_canRow_X1_beginsRow
theorem dX0_canRow_0 : decode cX0_canRow 0 = .ok (.iload_n 1, 1) := by decide +kernel
theorem dX0_canRow_1 : decode cX0_canRow 1 = .ok (.invokestatic 51, 3) := by decide +kernel
theorem dX0_canRow_4 : decode cX0_canRow 4 = .ok (.ifCond .eq 25, 3) := by decide +kernel
theorem dX0_canRow_7 : decode cX0_canRow 7 = .ok (.aload_n 0, 1) := by decide +kernel
theorem dX0_canRow_8 : decode cX0_canRow 8 = .ok (.iload_n 1, 1) := by decide +kernel
theorem dX0_canRow_9 : decode cX0_canRow 9 = .ok (.iaload, 1) := by decide +kernel
theorem dX0_canRow_10 : decode cX0_canRow 10 = .ok (.aload_n 0, 1) := by decide +kernel
theorem dX0_canRow_11 : decode cX0_canRow 11 = .ok (.iload_n 1, 1) := by decide +kernel
theorem dX0_canRow_12 : decode cX0_canRow 12 = .ok (.iconst 1, 1) := by decide +kernel
theorem dX0_canRow_13 : decode cX0_canRow 13 = .ok (.iadd, 1) := by decide +kernel
theorem dX0_canRow_14 : decode cX0_canRow 14 = .ok (.iaload, 1) := by decide +kernel
theorem dX0_canRow_15 : decode cX0_canRow 15 = .ok (.iadd, 1) := by decide +kernel
theorem dX0_canRow_16 : decode cX0_canRow 16 = .ok (.aload_n 0, 1) := by decide +kernel
theorem dX0_canRow_17 : decode cX0_canRow 17 = .ok (.iload_n 1, 1) := by decide +kernel
theorem dX0_canRow_18 : decode cX0_canRow 18 = .ok (.iconst 2, 1) := by decide +kernel
theorem dX0_canRow_19 : decode cX0_canRow 19 = .ok (.iadd, 1) := by decide +kernel
theorem dX0_canRow_20 : decode cX0_canRow 20 = .ok (.iaload, 1) := by decide +kernel
theorem dX0_canRow_21 : decode cX0_canRow 21 = .ok (.iadd, 1) := by decide +kernel
theorem dX0_canRow_22 : decode cX0_canRow 22 = .ok (.ifCond .le 7, 3) := by decide +kernel
theorem dX0_canRow_25 : decode cX0_canRow 25 = .ok (.iconst 1, 1) := by decide +kernel
theorem dX0_canRow_26 : decode cX0_canRow 26 = .ok (.goto 4, 3) := by decide +kernel
theorem dX0_canRow_29 : decode cX0_canRow 29 = .ok (.iconst 0, 1) := by decide +kernel
theorem dX0_canRow_30 : decode cX0_canRow 30 = .ok (.ireturn, 1) := by decide +kernel
set_option maxRecDepth 20000 in
theorem ggX0_layKind_J7_fill_53178 : GoodIn wsX0_layKind wsJ7_fill_53178 := goodIn_r _ [6] (by decide +kernel) (by decide +kernel)
set_option maxRecDepth 20000 in
theorem gX0_layKind_J7_fill_53178 : GoodIn wsX0_layKind (va_wsS RX0 31 yJ7_fill_53178 wsJ7_fill_53178) := goodIn_app (goodIn_of _ (by decide +kernel)) ggX0_layKind_J7_fill_53178
set_option maxRecDepth 20000 in
theorem ggX0_layKind_X0_laySets : GoodIn wsX0_layKind wsX0_laySets := goodIn_r _ [11, 12, 13, 14, 15, 10, 16, 17, 18, 1, 2, 19, 20, 21, 22, 23, 24, 25, 26, 27, 28, 29, 30] (by decide +kernel) (by decide +kernel)
set_option maxRecDepth 20000 in
theorem gX0_layKind_X0_laySets : GoodIn wsX0_layKind (wsV RX0 55 RX0 yX0_laySets wsX0_laySets) := goodIn_app (goodIn_of _ (by decide +kernel)) ggX0_layKind_X0_laySets
theorem dX0_layKind_0 : decode cX0_layKind 0 = .ok (.aload_n 0, 1) := by decide +kernel
theorem dX0_layKind_1 : decode cX0_layKind 1 = .ok (.getfield 15, 3) := by decide +kernel
theorem dX0_layKind_4 : decode cX0_layKind 4 = .ok (.iconst (-1), 1) := by decide +kernel
theorem dX0_layKind_5 : decode cX0_layKind 5 = .ok (.invokestatic 31, 3) := by decide +kernel
theorem dX0_layKind_8 : decode cX0_layKind 8 = .ok (.iconst 0, 1) := by decide +kernel
theorem dX0_layKind_9 : decode cX0_layKind 9 = .ok (.istore_n 2, 1) := by decide +kernel
theorem dX0_layKind_10 : decode cX0_layKind 10 = .ok (.iload_n 2, 1) := by decide +kernel
theorem dX0_layKind_11 : decode cX0_layKind 11 = .ok (.bipush 90, 2) := by decide +kernel
theorem dX0_layKind_13 : decode cX0_layKind 13 = .ok (.if_icmp .ge 38, 3) := by decide +kernel
theorem dX0_layKind_16 : decode cX0_layKind 16 = .ok (.aload_n 0, 1) := by decide +kernel
theorem dX0_layKind_17 : decode cX0_layKind 17 = .ok (.getfield 11, 3) := by decide +kernel
theorem dX0_layKind_20 : decode cX0_layKind 20 = .ok (.iload_n 2, 1) := by decide +kernel
theorem dX0_layKind_21 : decode cX0_layKind 21 = .ok (.iaload, 1) := by decide +kernel
theorem dX0_layKind_22 : decode cX0_layKind 22 = .ok (.iconst (-1), 1) := by decide +kernel
theorem dX0_layKind_23 : decode cX0_layKind 23 = .ok (.if_icmp .eq 22, 3) := by decide +kernel
theorem dX0_layKind_26 : decode cX0_layKind 26 = .ok (.iconst 0, 1) := by decide +kernel
theorem dX0_layKind_27 : decode cX0_layKind 27 = .ok (.istore_n 3, 1) := by decide +kernel
theorem dX0_layKind_28 : decode cX0_layKind 28 = .ok (.iload_n 3, 1) := by decide +kernel
theorem dX0_layKind_29 : decode cX0_layKind 29 = .ok (.iload_n 1, 1) := by decide +kernel
theorem dX0_layKind_30 : decode cX0_layKind 30 = .ok (.if_icmp .gt 15, 3) := by decide +kernel
theorem dX0_layKind_33 : decode cX0_layKind 33 = .ok (.aload_n 0, 1) := by decide +kernel
theorem dX0_layKind_34 : decode cX0_layKind 34 = .ok (.iload_n 2, 1) := by decide +kernel
theorem dX0_layKind_35 : decode cX0_layKind 35 = .ok (.iload_n 3, 1) := by decide +kernel
theorem dX0_layKind_36 : decode cX0_layKind 36 = .ok (.invokevirtual 55, 3) := by decide +kernel
theorem dX0_layKind_39 : decode cX0_layKind 39 = .ok (.iinc 3 1, 3) := by decide +kernel
theorem dX0_layKind_42 : decode cX0_layKind 42 = .ok (.goto (-14), 3) := by decide +kernel
theorem dX0_layKind_45 : decode cX0_layKind 45 = .ok (.iinc 2 1, 3) := by decide +kernel
theorem dX0_layKind_48 : decode cX0_layKind 48 = .ok (.goto (-38), 3) := by decide +kernel
theorem dX0_layKind_51 : decode cX0_layKind 51 = .ok (.aload_n 0, 1) := by decide +kernel
theorem dX0_layKind_52 : decode cX0_layKind 52 = .ok (.getfield 11, 3) := by decide +kernel
theorem dX0_layKind_55 : decode cX0_layKind 55 = .ok (.astore_n 2, 1) := by decide +kernel
theorem dX0_layKind_56 : decode cX0_layKind 56 = .ok (.aload_n 0, 1) := by decide +kernel
theorem dX0_layKind_57 : decode cX0_layKind 57 = .ok (.aload_n 0, 1) := by decide +kernel
theorem dX0_layKind_58 : decode cX0_layKind 58 = .ok (.getfield 15, 3) := by decide +kernel
theorem dX0_layKind_61 : decode cX0_layKind 61 = .ok (.putfield 11, 3) := by decide +kernel
theorem dX0_layKind_64 : decode cX0_layKind 64 = .ok (.aload_n 0, 1) := by decide +kernel
theorem dX0_layKind_65 : decode cX0_layKind 65 = .ok (.aload_n 2, 1) := by decide +kernel
theorem dX0_layKind_66 : decode cX0_layKind 66 = .ok (.putfield 15, 3) := by decide +kernel
theorem dX0_layKind_69 : decode cX0_layKind 69 = .ok (.return_, 1) := by decide +kernel
set_option maxRecDepth 20000 in
theorem ggX0_laySets_X0_lay : GoodIn wsX0_laySets wsX0_lay := goodIn_r _ [6, 7, 8, 9, 10, 1, 11, 12, 13, 14, 15, 16, 17, 18, 19, 20, 21, 22] (by decide +kernel) (by decide +kernel)
set_option maxRecDepth 20000 in
theorem gX0_laySets_X0_lay : GoodIn wsX0_laySets (wsV RX0 59 RX0 yX0_lay wsX0_lay) := goodIn_app (goodIn_of _ (by decide +kernel)) ggX0_laySets_X0_lay
theorem dX0_laySets_0 : decode cX0_laySets 0 = .ok (.aload_n 0, 1) := by decide +kernel
theorem dX0_laySets_1 : decode cX0_laySets 1 = .ok (.iload_n 1, 1) := by decide +kernel
theorem dX0_laySets_2 : decode cX0_laySets 2 = .ok (.iload_n 2, 1) := by decide +kernel
theorem dX0_laySets_3 : decode cX0_laySets 3 = .ok (.iconst 0, 1) := by decide +kernel
theorem dX0_laySets_4 : decode cX0_laySets 4 = .ok (.iconst 0, 1) := by decide +kernel
theorem dX0_laySets_5 : decode cX0_laySets 5 = .ok (.invokevirtual 59, 3) := by decide +kernel
theorem dX0_laySets_8 : decode cX0_laySets 8 = .ok (.aload_n 0, 1) := by decide +kernel
theorem dX0_laySets_9 : decode cX0_laySets 9 = .ok (.getfield 40, 3) := by decide +kernel
theorem dX0_laySets_12 : decode cX0_laySets 12 = .ok (.ifCond .le 19, 3) := by decide +kernel
theorem dX0_laySets_15 : decode cX0_laySets 15 = .ok (.aload_n 0, 1) := by decide +kernel
theorem dX0_laySets_16 : decode cX0_laySets 16 = .ok (.iload_n 1, 1) := by decide +kernel
theorem dX0_laySets_17 : decode cX0_laySets 17 = .ok (.iload_n 2, 1) := by decide +kernel
theorem dX0_laySets_18 : decode cX0_laySets 18 = .ok (.iconst 1, 1) := by decide +kernel
theorem dX0_laySets_19 : decode cX0_laySets 19 = .ok (.iconst 0, 1) := by decide +kernel
theorem dX0_laySets_20 : decode cX0_laySets 20 = .ok (.invokevirtual 59, 3) := by decide +kernel
theorem dX0_laySets_23 : decode cX0_laySets 23 = .ok (.aload_n 0, 1) := by decide +kernel
theorem dX0_laySets_24 : decode cX0_laySets 24 = .ok (.iload_n 1, 1) := by decide +kernel
theorem dX0_laySets_25 : decode cX0_laySets 25 = .ok (.iload_n 2, 1) := by decide +kernel
theorem dX0_laySets_26 : decode cX0_laySets 26 = .ok (.iconst 0, 1) := by decide +kernel
theorem dX0_laySets_27 : decode cX0_laySets 27 = .ok (.iconst 1, 1) := by decide +kernel
theorem dX0_laySets_28 : decode cX0_laySets 28 = .ok (.invokevirtual 59, 3) := by decide +kernel
theorem dX0_laySets_31 : decode cX0_laySets 31 = .ok (.return_, 1) := by decide +kernel
theorem dX0_lay_0 : decode cX0_lay 0 = .ok (.iload_n 1, 1) := by decide +kernel
theorem dX0_lay_1 : decode cX0_lay 1 = .ok (.iconst 3, 1) := by decide +kernel
theorem dX0_lay_2 : decode cX0_lay 2 = .ok (.irem, 1) := by decide +kernel
theorem dX0_lay_3 : decode cX0_lay 3 = .ok (.istore 5, 2) := by decide +kernel
theorem dX0_lay_5 : decode cX0_lay 5 = .ok (.iload_n 1, 1) := by decide +kernel
theorem dX0_lay_6 : decode cX0_lay 6 = .ok (.bipush 9, 2) := by decide +kernel
theorem dX0_lay_8 : decode cX0_lay 8 = .ok (.irem, 1) := by decide +kernel
theorem dX0_lay_9 : decode cX0_lay 9 = .ok (.iconst 3, 1) := by decide +kernel
theorem dX0_lay_10 : decode cX0_lay 10 = .ok (.idiv, 1) := by decide +kernel
theorem dX0_lay_11 : decode cX0_lay 11 = .ok (.istore 6, 2) := by decide +kernel
theorem dX0_lay_13 : decode cX0_lay 13 = .ok (.iload_n 1, 1) := by decide +kernel
theorem dX0_lay_14 : decode cX0_lay 14 = .ok (.bipush 18, 2) := by decide +kernel
theorem dX0_lay_16 : decode cX0_lay 16 = .ok (.irem, 1) := by decide +kernel
theorem dX0_lay_17 : decode cX0_lay 17 = .ok (.bipush 9, 2) := by decide +kernel
theorem dX0_lay_19 : decode cX0_lay 19 = .ok (.idiv, 1) := by decide +kernel
theorem dX0_lay_20 : decode cX0_lay 20 = .ok (.iload_n 3, 1) := by decide +kernel
theorem dX0_lay_21 : decode cX0_lay 21 = .ok (.iadd, 1) := by decide +kernel
theorem dX0_lay_22 : decode cX0_lay 22 = .ok (.istore 7, 2) := by decide +kernel
theorem dX0_lay_24 : decode cX0_lay 24 = .ok (.iload_n 1, 1) := by decide +kernel
theorem dX0_lay_25 : decode cX0_lay 25 = .ok (.bipush 18, 2) := by decide +kernel
theorem dX0_lay_27 : decode cX0_lay 27 = .ok (.idiv, 1) := by decide +kernel
theorem dX0_lay_28 : decode cX0_lay 28 = .ok (.iload_n 2, 1) := by decide +kernel
theorem dX0_lay_29 : decode cX0_lay 29 = .ok (.iadd, 1) := by decide +kernel
theorem dX0_lay_30 : decode cX0_lay 30 = .ok (.iload 4, 2) := by decide +kernel
theorem dX0_lay_32 : decode cX0_lay 32 = .ok (.iadd, 1) := by decide +kernel
theorem dX0_lay_33 : decode cX0_lay 33 = .ok (.istore 8, 2) := by decide +kernel
theorem dX0_lay_35 : decode cX0_lay 35 = .ok (.iload 5, 2) := by decide +kernel
theorem dX0_lay_37 : decode cX0_lay 37 = .ok (.iload 6, 2) := by decide +kernel
theorem dX0_lay_39 : decode cX0_lay 39 = .ok (.iadd, 1) := by decide +kernel
theorem dX0_lay_40 : decode cX0_lay 40 = .ok (.iload_n 2, 1) := by decide +kernel
theorem dX0_lay_41 : decode cX0_lay 41 = .ok (.iadd, 1) := by decide +kernel
theorem dX0_lay_42 : decode cX0_lay 42 = .ok (.iconst 2, 1) := by decide +kernel
theorem dX0_lay_43 : decode cX0_lay 43 = .ok (.iload_n 3, 1) := by decide +kernel
theorem dX0_lay_44 : decode cX0_lay 44 = .ok (.imul, 1) := by decide +kernel
theorem dX0_lay_45 : decode cX0_lay 45 = .ok (.iadd, 1) := by decide +kernel
theorem dX0_lay_46 : decode cX0_lay 46 = .ok (.iconst 3, 1) := by decide +kernel
theorem dX0_lay_47 : decode cX0_lay 47 = .ok (.iload 4, 2) := by decide +kernel
theorem dX0_lay_49 : decode cX0_lay 49 = .ok (.imul, 1) := by decide +kernel
theorem dX0_lay_50 : decode cX0_lay 50 = .ok (.iadd, 1) := by decide +kernel
theorem dX0_lay_51 : decode cX0_lay 51 = .ok (.istore 9, 2) := by decide +kernel
theorem dX0_lay_53 : decode cX0_lay 53 = .ok (.iload 9, 2) := by decide +kernel
theorem dX0_lay_55 : decode cX0_lay 55 = .ok (.aload_n 0, 1) := by decide +kernel
theorem dX0_lay_56 : decode cX0_lay 56 = .ok (.getfield 37, 3) := by decide +kernel
theorem dX0_lay_59 : decode cX0_lay 59 = .ok (.if_icmp .gt 71, 3) := by decide +kernel
theorem dX0_lay_62 : decode cX0_lay 62 = .ok (.iload 7, 2) := by decide +kernel
theorem dX0_lay_64 : decode cX0_lay 64 = .ok (.iconst 1, 1) := by decide +kernel
theorem dX0_lay_65 : decode cX0_lay 65 = .ok (.if_icmp .gt 65, 3) := by decide +kernel
theorem dX0_lay_68 : decode cX0_lay 68 = .ok (.iload 8, 2) := by decide +kernel
theorem dX0_lay_70 : decode cX0_lay 70 = .ok (.aload_n 0, 1) := by decide +kernel
theorem dX0_lay_71 : decode cX0_lay 71 = .ok (.getfield 27, 3) := by decide +kernel
theorem dX0_lay_74 : decode cX0_lay 74 = .ok (.if_icmp .gt 56, 3) := by decide +kernel
theorem dX0_lay_77 : decode cX0_lay 77 = .ok (.bipush 18, 2) := by decide +kernel
theorem dX0_lay_79 : decode cX0_lay 79 = .ok (.iload 8, 2) := by decide +kernel
theorem dX0_lay_81 : decode cX0_lay 81 = .ok (.imul, 1) := by decide +kernel
theorem dX0_lay_82 : decode cX0_lay 82 = .ok (.bipush 9, 2) := by decide +kernel
theorem dX0_lay_84 : decode cX0_lay 84 = .ok (.iload 7, 2) := by decide +kernel
theorem dX0_lay_86 : decode cX0_lay 86 = .ok (.imul, 1) := by decide +kernel
theorem dX0_lay_87 : decode cX0_lay 87 = .ok (.iadd, 1) := by decide +kernel
theorem dX0_lay_88 : decode cX0_lay 88 = .ok (.iconst 3, 1) := by decide +kernel
theorem dX0_lay_89 : decode cX0_lay 89 = .ok (.iload_n 2, 1) := by decide +kernel
theorem dX0_lay_90 : decode cX0_lay 90 = .ok (.imul, 1) := by decide +kernel
theorem dX0_lay_91 : decode cX0_lay 91 = .ok (.iadd, 1) := by decide +kernel
theorem dX0_lay_92 : decode cX0_lay 92 = .ok (.iload 6, 2) := by decide +kernel
theorem dX0_lay_94 : decode cX0_lay 94 = .ok (.iadd, 1) := by decide +kernel
theorem dX0_lay_95 : decode cX0_lay 95 = .ok (.istore 10, 2) := by decide +kernel
theorem dX0_lay_97 : decode cX0_lay 97 = .ok (.aload_n 0, 1) := by decide +kernel
theorem dX0_lay_98 : decode cX0_lay 98 = .ok (.getfield 15, 3) := by decide +kernel
theorem dX0_lay_101 : decode cX0_lay 101 = .ok (.iload 10, 2) := by decide +kernel
theorem dX0_lay_103 : decode cX0_lay 103 = .ok (.aload_n 0, 1) := by decide +kernel
theorem dX0_lay_104 : decode cX0_lay 104 = .ok (.getfield 15, 3) := by decide +kernel
theorem dX0_lay_107 : decode cX0_lay 107 = .ok (.iload 10, 2) := by decide +kernel
theorem dX0_lay_109 : decode cX0_lay 109 = .ok (.iaload, 1) := by decide +kernel
theorem dX0_lay_110 : decode cX0_lay 110 = .ok (.aload_n 0, 1) := by decide +kernel
theorem dX0_lay_111 : decode cX0_lay 111 = .ok (.getfield 11, 3) := by decide +kernel
theorem dX0_lay_114 : decode cX0_lay 114 = .ok (.iload_n 1, 1) := by decide +kernel
theorem dX0_lay_115 : decode cX0_lay 115 = .ok (.iaload, 1) := by decide +kernel
theorem dX0_lay_116 : decode cX0_lay 116 = .ok (.iload 9, 2) := by decide +kernel
theorem dX0_lay_118 : decode cX0_lay 118 = .ok (.aload_n 0, 1) := by decide +kernel
theorem dX0_lay_119 : decode cX0_lay 119 = .ok (.getfield 40, 3) := by decide +kernel
theorem dX0_lay_122 : decode cX0_lay 122 = .ok (.invokestatic 18, 3) := by decide +kernel
theorem dX0_lay_125 : decode cX0_lay 125 = .ok (.iadd, 1) := by decide +kernel
theorem dX0_lay_126 : decode cX0_lay 126 = .ok (.invokestatic 24, 3) := by decide +kernel
theorem dX0_lay_129 : decode cX0_lay 129 = .ok (.iastore, 1) := by decide +kernel
theorem dX0_lay_130 : decode cX0_lay 130 = .ok (.return_, 1) := by decide +kernel
set_option maxRecDepth 20000 in
theorem ggX1_init_X0_init : GoodIn wsX1_init wsX0_init := goodIn_r _ [21, 22, 2, 3, 4, 23, 24, 38, 39, 40, 41, 42] (by decide +kernel) (by decide +kernel)
set_option maxRecDepth 20000 in
theorem gX1_init_X0_init_n31 : GoodIn wsX1_init (wsX0_init) := ggX1_init_X0_init
theorem dX1_init_0 : decode cX1_init 0 = .ok (.aload_n 0, 1) := by decide +kernel
theorem dX1_init_1 : decode cX1_init 1 = .ok (.invokespecial 1, 3) := by decide +kernel
theorem dX1_init_4 : decode cX1_init 4 = .ok (.aload_n 0, 1) := by decide +kernel
theorem dX1_init_5 : decode cX1_init 5 = .ok (.bipush 34, 2) := by decide +kernel
theorem dX1_init_7 : decode cX1_init 7 = .ok (.newarray .int, 2) := by decide +kernel
theorem dX1_init_9 : decode cX1_init 9 = .ok (.putfield 9, 3) := by decide +kernel
theorem dX1_init_12 : decode cX1_init 12 = .ok (.aload_n 0, 1) := by decide +kernel
theorem dX1_init_13 : decode cX1_init 13 = .ok (.bipush 34, 2) := by decide +kernel
theorem dX1_init_15 : decode cX1_init 15 = .ok (.newarray .int, 2) := by decide +kernel
theorem dX1_init_17 : decode cX1_init 17 = .ok (.putfield 13, 3) := by decide +kernel
theorem dX1_init_20 : decode cX1_init 20 = .ok (.aload_n 0, 1) := by decide +kernel
theorem dX1_init_21 : decode cX1_init 21 = .ok (.bipush 34, 2) := by decide +kernel
theorem dX1_init_23 : decode cX1_init 23 = .ok (.newarray .int, 2) := by decide +kernel
theorem dX1_init_25 : decode cX1_init 25 = .ok (.putfield 16, 3) := by decide +kernel
theorem dX1_init_28 : decode cX1_init 28 = .ok (.aload_n 0, 1) := by decide +kernel
theorem dX1_init_29 : decode cX1_init 29 = .ok (.iconst 4, 1) := by decide +kernel
theorem dX1_init_30 : decode cX1_init 30 = .ok (.newarray .int, 2) := by decide +kernel
theorem dX1_init_32 : decode cX1_init 32 = .ok (.putfield 19, 3) := by decide +kernel
theorem dX1_init_35 : decode cX1_init 35 = .ok (.aload_n 0, 1) := by decide +kernel
theorem dX1_init_36 : decode cX1_init 36 = .ok (.iconst 4, 1) := by decide +kernel
theorem dX1_init_37 : decode cX1_init 37 = .ok (.newarray .int, 2) := by decide +kernel
theorem dX1_init_39 : decode cX1_init 39 = .ok (.putfield 22, 3) := by decide +kernel
theorem dX1_init_42 : decode cX1_init 42 = .ok (.aload_n 0, 1) := by decide +kernel
theorem dX1_init_43 : decode cX1_init 43 = .ok (.iconst 4, 1) := by decide +kernel
theorem dX1_init_44 : decode cX1_init 44 = .ok (.newarray .boolean, 2) := by decide +kernel
theorem dX1_init_46 : decode cX1_init 46 = .ok (.putfield 25, 3) := by decide +kernel
theorem dX1_init_49 : decode cX1_init 49 = .ok (.aload_n 0, 1) := by decide +kernel
theorem dX1_init_50 : decode cX1_init 50 = .ok (.new 29, 3) := by decide +kernel
theorem dX1_init_53 : decode cX1_init 53 = .ok (.dup, 1) := by decide +kernel
theorem dX1_init_54 : decode cX1_init 54 = .ok (.invokespecial 31, 3) := by decide +kernel
theorem dX1_init_57 : decode cX1_init 57 = .ok (.putfield 32, 3) := by decide +kernel
theorem dX1_init_60 : decode cX1_init 60 = .ok (.aload_n 0, 1) := by decide +kernel
theorem dX1_init_61 : decode cX1_init 61 = .ok (.bipush 27, 2) := by decide +kernel
theorem dX1_init_63 : decode cX1_init 63 = .ok (.putfield 36, 3) := by decide +kernel
theorem dX1_init_66 : decode cX1_init 66 = .ok (.aload_n 0, 1) := by decide +kernel
theorem dX1_init_67 : decode cX1_init 67 = .ok (.bipush 27, 2) := by decide +kernel
theorem dX1_init_69 : decode cX1_init 69 = .ok (.putfield 40, 3) := by decide +kernel
theorem dX1_init_72 : decode cX1_init 72 = .ok (.aload_n 0, 1) := by decide +kernel
theorem dX1_init_73 : decode cX1_init 73 = .ok (.iconst 1, 1) := by decide +kernel
theorem dX1_init_74 : decode cX1_init 74 = .ok (.putfield 43, 3) := by decide +kernel
theorem dX1_init_77 : decode cX1_init 77 = .ok (.aload_n 0, 1) := by decide +kernel
theorem dX1_init_78 : decode cX1_init 78 = .ok (.bipush 8, 2) := by decide +kernel
theorem dX1_init_80 : decode cX1_init 80 = .ok (.putfield 46, 3) := by decide +kernel
theorem dX1_init_83 : decode cX1_init 83 = .ok (.return_, 1) := by decide +kernel
set_option maxRecDepth 20000 in
theorem ggX1_draw_X1_requireKind : GoodIn wsX1_draw wsX1_requireKind := goodIn_ca (goodIn_r _ [6, 7, 8, 9, 10, 5, 11] (by decide +kernel) (by decide +kernel)) (goodIn_sub (fun _ h => List.mem_cons_of_mem _ (List.mem_append_right _ h)) (by decide +kernel))
set_option maxRecDepth 20000 in
theorem gX1_draw_X1_requireKind : GoodIn wsX1_draw (va_wsS RX1 49 yX1_requireKind wsX1_requireKind) := goodIn_app (goodIn_of _ (by decide +kernel)) ggX1_draw_X1_requireKind
set_option maxRecDepth 20000 in
theorem ggX1_draw_X1_sizeNow : GoodIn wsX1_draw wsX1_sizeNow := goodIn_r _ [15, 16, 17, 33, 34, 35, 36, 37, 38, 39, 40, 41, 42, 43, 44, 45] (by decide +kernel) (by decide +kernel)
set_option maxRecDepth 20000 in
theorem gX1_draw_X1_sizeNow : GoodIn wsX1_draw (wsV RX1 53 RX1 yX1_sizeNow wsX1_sizeNow) := goodIn_app (goodIn_of _ (by decide +kernel)) ggX1_draw_X1_sizeNow
set_option maxRecDepth 20000 in
theorem ggX1_draw_X1_requireLeft : GoodIn wsX1_draw wsX1_requireLeft := goodIn_ca (goodIn_r _ [21, 1, 2, 22, 23, 24, 5, 25, 26, 27, 28, 33, 34, 35, 36, 37, 38, 39, 40, 41, 42, 43, 44, 45] (by decide +kernel) (by decide +kernel)) (goodIn_sub (fun _ h => List.mem_cons_of_mem _ (List.mem_append_left _ (List.mem_append_right _ h))) (by decide +kernel))
set_option maxRecDepth 20000 in
theorem gX1_draw_X1_requireLeft : GoodIn wsX1_draw (wsV RX1 64 RX1 yX1_requireLeft wsX1_requireLeft) := goodIn_app (goodIn_of _ (by decide +kernel)) ggX1_draw_X1_requireLeft
set_option maxRecDepth 20000 in
theorem ggX1_draw_X1_addTiles : GoodIn wsX1_draw wsX1_addTiles := goodIn_r _ [32, 26, 16, 33, 34, 35, 36, 37, 38, 39, 40, 41, 42, 43, 44, 45] (by decide +kernel) (by decide +kernel)
set_option maxRecDepth 20000 in
theorem gX1_draw_X1_addTiles : GoodIn wsX1_draw (wsV RX1 67 RX1 yX1_addTiles wsX1_addTiles) := goodIn_app (goodIn_of _ (by decide +kernel)) ggX1_draw_X1_addTiles
theorem dX1_draw_0 : decode cX1_draw 0 = .ok (.iload_n 1, 1) := by decide +kernel
theorem dX1_draw_1 : decode cX1_draw 1 = .ok (.invokestatic 49, 3) := by decide +kernel
theorem dX1_draw_4 : decode cX1_draw 4 = .ok (.aload_n 0, 1) := by decide +kernel
theorem dX1_draw_5 : decode cX1_draw 5 = .ok (.invokevirtual 53, 3) := by decide +kernel
theorem dX1_draw_8 : decode cX1_draw 8 = .ok (.bipush 14, 2) := by decide +kernel
theorem dX1_draw_10 : decode cX1_draw 10 = .ok (.if_icmp .lt 13, 3) := by decide +kernel
theorem dX1_draw_13 : decode cX1_draw 13 = .ok (.new 57, 3) := by decide +kernel
theorem dX1_draw_16 : decode cX1_draw 16 = .ok (.dup, 1) := by decide +kernel
theorem dX1_draw_17 : decode cX1_draw 17 = .ok (.ldc 59, 2) := by decide +kernel
theorem dX1_draw_19 : decode cX1_draw 19 = .ok (.invokespecial 61, 3) := by decide +kernel
theorem dX1_draw_22 : decode cX1_draw 22 = .ok (.athrow, 1) := by decide +kernel
theorem dX1_draw_23 : decode cX1_draw 23 = .ok (.aload_n 0, 1) := by decide +kernel
theorem dX1_draw_24 : decode cX1_draw 24 = .ok (.iload_n 1, 1) := by decide +kernel
theorem dX1_draw_25 : decode cX1_draw 25 = .ok (.invokevirtual 64, 3) := by decide +kernel
theorem dX1_draw_28 : decode cX1_draw 28 = .ok (.aload_n 0, 1) := by decide +kernel
theorem dX1_draw_29 : decode cX1_draw 29 = .ok (.iload_n 1, 1) := by decide +kernel
theorem dX1_draw_30 : decode cX1_draw 30 = .ok (.iconst 1, 1) := by decide +kernel
theorem dX1_draw_31 : decode cX1_draw 31 = .ok (.invokevirtual 67, 3) := by decide +kernel
theorem dX1_draw_34 : decode cX1_draw 34 = .ok (.aload_n 0, 1) := by decide +kernel
theorem dX1_draw_35 : decode cX1_draw 35 = .ok (.invokevirtual 53, 3) := by decide +kernel
theorem dX1_draw_38 : decode cX1_draw 38 = .ok (.ireturn, 1) := by decide +kernel
set_option maxRecDepth 20000 in
theorem ggX1_drop_X1_requireKind : GoodIn wsX1_drop wsX1_requireKind := goodIn_ca (goodIn_r _ [5, 6, 7, 8, 9, 4, 10] (by decide +kernel) (by decide +kernel)) (goodIn_sub (fun _ h => List.mem_cons_of_mem _ (List.mem_append_left _ (List.mem_append_right _ h))) (by decide +kernel))
set_option maxRecDepth 20000 in
theorem gX1_drop_X1_requireKind : GoodIn wsX1_drop (va_wsS RX1 49 yX1_requireKind wsX1_requireKind) := goodIn_app (goodIn_of _ (by decide +kernel)) ggX1_drop_X1_requireKind
set_option maxRecDepth 20000 in
theorem ggX1_drop_X1_requireHeld : GoodIn wsX1_drop wsX1_requireHeld := goodIn_ca (goodIn_r _ [14, 15, 16, 17, 28, 29, 30, 31, 32, 33, 34, 35, 36, 37, 38, 39, 40] (by decide +kernel) (by decide +kernel)) (goodIn_sub (fun _ h => List.mem_cons_of_mem _ (List.mem_append_right _ h)) (by decide +kernel))
set_option maxRecDepth 20000 in
theorem gX1_drop_X1_requireHeld : GoodIn wsX1_drop (wsV RX1 71 RX1 yX1_requireHeld wsX1_requireHeld) := goodIn_app (goodIn_of _ (by decide +kernel)) ggX1_drop_X1_requireHeld
set_option maxRecDepth 20000 in
theorem ggX1_drop_X1_addTiles : GoodIn wsX1_drop wsX1_addTiles := goodIn_r _ [21, 17, 22, 28, 29, 30, 31, 32, 33, 34, 35, 36, 37, 38, 39, 40] (by decide +kernel) (by decide +kernel)
set_option maxRecDepth 20000 in
theorem gX1_drop_X1_addTiles : GoodIn wsX1_drop (wsV RX1 67 RX1 yX1_addTiles wsX1_addTiles) := goodIn_app (goodIn_of _ (by decide +kernel)) ggX1_drop_X1_addTiles
set_option maxRecDepth 20000 in
theorem ggX1_drop_X1_sizeNow : GoodIn wsX1_drop wsX1_sizeNow := goodIn_r _ [26, 22, 27, 28, 29, 30, 31, 32, 33, 34, 35, 36, 37, 38, 39, 40] (by decide +kernel) (by decide +kernel)
set_option maxRecDepth 20000 in
theorem gX1_drop_X1_sizeNow : GoodIn wsX1_drop (wsV RX1 53 RX1 yX1_sizeNow wsX1_sizeNow) := goodIn_app (goodIn_of _ (by decide +kernel)) ggX1_drop_X1_sizeNow
theorem dX1_drop_0 : decode cX1_drop 0 = .ok (.iload_n 1, 1) := by decide +kernel
theorem dX1_drop_1 : decode cX1_drop 1 = .ok (.invokestatic 49, 3) := by decide +kernel
theorem dX1_drop_4 : decode cX1_drop 4 = .ok (.aload_n 0, 1) := by decide +kernel
theorem dX1_drop_5 : decode cX1_drop 5 = .ok (.iload_n 1, 1) := by decide +kernel
theorem dX1_drop_6 : decode cX1_drop 6 = .ok (.iconst 1, 1) := by decide +kernel
theorem dX1_drop_7 : decode cX1_drop 7 = .ok (.invokevirtual 71, 3) := by decide +kernel
theorem dX1_drop_10 : decode cX1_drop 10 = .ok (.aload_n 0, 1) := by decide +kernel
theorem dX1_drop_11 : decode cX1_drop 11 = .ok (.iload_n 1, 1) := by decide +kernel
theorem dX1_drop_12 : decode cX1_drop 12 = .ok (.iconst (-1), 1) := by decide +kernel
theorem dX1_drop_13 : decode cX1_drop 13 = .ok (.invokevirtual 67, 3) := by decide +kernel
theorem dX1_drop_16 : decode cX1_drop 16 = .ok (.aload_n 0, 1) := by decide +kernel
theorem dX1_drop_17 : decode cX1_drop 17 = .ok (.getfield 16, 3) := by decide +kernel
theorem dX1_drop_20 : decode cX1_drop 20 = .ok (.iload_n 1, 1) := by decide +kernel
theorem dX1_drop_21 : decode cX1_drop 21 = .ok (.dup2, 1) := by decide +kernel
theorem dX1_drop_22 : decode cX1_drop 22 = .ok (.iaload, 1) := by decide +kernel
theorem dX1_drop_23 : decode cX1_drop 23 = .ok (.iconst 1, 1) := by decide +kernel
theorem dX1_drop_24 : decode cX1_drop 24 = .ok (.iadd, 1) := by decide +kernel
theorem dX1_drop_25 : decode cX1_drop 25 = .ok (.iastore, 1) := by decide +kernel
theorem dX1_drop_26 : decode cX1_drop 26 = .ok (.aload_n 0, 1) := by decide +kernel
theorem dX1_drop_27 : decode cX1_drop 27 = .ok (.invokevirtual 53, 3) := by decide +kernel
theorem dX1_drop_30 : decode cX1_drop 30 = .ok (.ireturn, 1) := by decide +kernel
set_option maxRecDepth 20000 in
theorem ggX1_size_X1_sizeNow : GoodIn wsX1_size wsX1_sizeNow := goodIn_r _ [5, 6, 7, 8, 9, 10, 11, 12, 13, 14, 15, 16, 17, 18, 19, 20] (by decide +kernel) (by decide +kernel)
set_option maxRecDepth 20000 in
theorem gX1_size_X1_sizeNow : GoodIn wsX1_size (wsV RX1 53 RX1 yX1_sizeNow wsX1_sizeNow) := goodIn_app (goodIn_of _ (by decide +kernel)) ggX1_size_X1_sizeNow
theorem dX1_size_0 : decode cX1_size 0 = .ok (.aload_n 0, 1) := by decide +kernel
theorem dX1_size_1 : decode cX1_size 1 = .ok (.invokevirtual 53, 3) := by decide +kernel
theorem dX1_size_4 : decode cX1_size 4 = .ok (.ireturn, 1) := by decide +kernel
set_option maxRecDepth 20000 in
theorem ggX1_count_X1_requireKind : GoodIn wsX1_count wsX1_requireKind := goodIn_ca (goodIn_r _ [6, 7, 8, 9, 10, 5, 11] (by decide +kernel) (by decide +kernel)) (goodIn_sub (fun _ h => List.mem_cons_of_mem _ (List.mem_append_right _ h)) (by decide +kernel))
set_option maxRecDepth 20000 in
theorem gX1_count_X1_requireKind : GoodIn wsX1_count (va_wsS RX1 49 yX1_requireKind wsX1_requireKind) := goodIn_app (goodIn_of _ (by decide +kernel)) ggX1_count_X1_requireKind
theorem dX1_count_0 : decode cX1_count 0 = .ok (.iload_n 1, 1) := by decide +kernel
theorem dX1_count_1 : decode cX1_count 1 = .ok (.invokestatic 49, 3) := by decide +kernel
theorem dX1_count_4 : decode cX1_count 4 = .ok (.iload_n 2, 1) := by decide +kernel
theorem dX1_count_5 : decode cX1_count 5 = .ok (.ifCond .eq 12, 3) := by decide +kernel
theorem dX1_count_8 : decode cX1_count 8 = .ok (.aload_n 0, 1) := by decide +kernel
theorem dX1_count_9 : decode cX1_count 9 = .ok (.getfield 16, 3) := by decide +kernel
theorem dX1_count_12 : decode cX1_count 12 = .ok (.iload_n 1, 1) := by decide +kernel
theorem dX1_count_13 : decode cX1_count 13 = .ok (.iaload, 1) := by decide +kernel
theorem dX1_count_14 : decode cX1_count 14 = .ok (.goto 9, 3) := by decide +kernel
theorem dX1_count_17 : decode cX1_count 17 = .ok (.aload_n 0, 1) := by decide +kernel
theorem dX1_count_18 : decode cX1_count 18 = .ok (.getfield 9, 3) := by decide +kernel
theorem dX1_count_21 : decode cX1_count 21 = .ok (.iload_n 1, 1) := by decide +kernel
theorem dX1_count_22 : decode cX1_count 22 = .ok (.iaload, 1) := by decide +kernel
theorem dX1_count_23 : decode cX1_count 23 = .ok (.ireturn, 1) := by decide +kernel
set_option maxRecDepth 20000 in
theorem ggX1_isComplete_X1_bestArrangement : GoodIn wsX1_isComplete wsX1_bestArrangement := goodIn_r _ [5, 6, 7, 8, 9, 10, 11, 12, 13, 4, 14, 15, 16, 17, 18, 19, 20, 21, 22, 23, 24, 25, 26, 27, 28, 29, 30, 31, 32, 33, 34, 35, 36, 37, 38, 39, 40, 41, 42, 43, 44, 45, 46, 47, 48, 49, 50, 51, 52, 53, 54, 55, 56, 57, 58, 59, 60, 61, 62, 63, 64, 65, 66, 67, 68, 69, 70, 71, 72, 73, 74, 75, 76, 77, 78, 79, 80, 81, 82, 83, 84, 85, 86, 87, 88, 89] (by decide +kernel) (by decide +kernel)
set_option maxRecDepth 20000 in
theorem gX1_isComplete_X1_bestArrangement : GoodIn wsX1_isComplete (wsV RX1 125 RX1 yX1_bestArrangement wsX1_bestArrangement) := goodIn_app (goodIn_of _ (by decide +kernel)) ggX1_isComplete_X1_bestArrangement
theorem dX1_isComplete_0 : decode cX1_isComplete 0 = .ok (.aload_n 0, 1) := by decide +kernel
theorem dX1_isComplete_1 : decode cX1_isComplete 1 = .ok (.invokevirtual 125, 3) := by decide +kernel
theorem dX1_isComplete_4 : decode cX1_isComplete 4 = .ok (.iconst (-1), 1) := by decide +kernel
theorem dX1_isComplete_5 : decode cX1_isComplete 5 = .ok (.if_icmp .eq 7, 3) := by decide +kernel
theorem dX1_isComplete_8 : decode cX1_isComplete 8 = .ok (.iconst 1, 1) := by decide +kernel
theorem dX1_isComplete_9 : decode cX1_isComplete 9 = .ok (.goto 4, 3) := by decide +kernel
theorem dX1_isComplete_12 : decode cX1_isComplete 12 = .ok (.iconst 0, 1) := by decide +kernel
theorem dX1_isComplete_13 : decode cX1_isComplete 13 = .ok (.ireturn, 1) := by decide +kernel
set_option maxRecDepth 20000 in
theorem ggX1_waits_X1_sizeNow : GoodIn wsX1_waits wsX1_sizeNow := goodIn_r _ [7, 8, 9, 82, 83, 84, 85, 86, 87, 88, 89, 90, 91, 92, 93, 94] (by decide +kernel) (by decide +kernel)
set_option maxRecDepth 20000 in
theorem gX1_waits_X1_sizeNow : GoodIn wsX1_waits (wsV RX1 53 RX1 yX1_sizeNow wsX1_sizeNow) := goodIn_app (goodIn_of _ (by decide +kernel)) ggX1_waits_X1_sizeNow
set_option maxRecDepth 20000 in
theorem ggX1_waits_X1_addTiles : GoodIn wsX1_waits wsX1_addTiles := goodIn_r _ [13, 1, 8, 82, 83, 84, 85, 86, 87, 88, 89, 90, 91, 92, 93, 94] (by decide +kernel) (by decide +kernel)
set_option maxRecDepth 20000 in
theorem gX1_waits_X1_addTiles : GoodIn wsX1_waits (wsV RX1 67 RX1 yX1_addTiles wsX1_addTiles) := goodIn_app (goodIn_of _ (by decide +kernel)) ggX1_waits_X1_addTiles
set_option maxRecDepth 20000 in
theorem ggX1_waits_X1_bestArrangement : GoodIn wsX1_waits wsX1_bestArrangement := goodIn_r _ [17, 9, 18, 19, 20, 21, 3, 4, 5, 6, 7, 8, 22, 23, 24, 25, 1, 26, 27, 28, 29, 30, 31, 32, 33, 34, 35, 36, 37, 38, 39, 40, 41, 42, 43, 44, 45, 46, 47, 48, 49, 50, 51, 52, 53, 54, 55, 56, 57, 58, 59, 60, 61, 62, 63, 64, 65, 66, 67, 68, 69, 70, 71, 72, 73, 74, 75, 76, 77, 78, 79, 80, 81, 82, 83, 84, 85, 86, 87, 88, 89, 90, 91, 92, 93, 94] (by decide +kernel) (by decide +kernel)
set_option maxRecDepth 20000 in
theorem gX1_waits_X1_bestArrangement : GoodIn wsX1_waits (wsV RX1 125 RX1 yX1_bestArrangement wsX1_bestArrangement) := goodIn_app (goodIn_of _ (by decide +kernel)) ggX1_waits_X1_bestArrangement
theorem dX1_waits_0 : decode cX1_waits 0 = .ok (.lconst 0, 1) := by decide +kernel
theorem dX1_waits_1 : decode cX1_waits 1 = .ok (.lstore_n 1, 1) := by decide +kernel
theorem dX1_waits_2 : decode cX1_waits 2 = .ok (.aload_n 0, 1) := by decide +kernel
theorem dX1_waits_3 : decode cX1_waits 3 = .ok (.invokevirtual 53, 3) := by decide +kernel
theorem dX1_waits_6 : decode cX1_waits 6 = .ok (.bipush 13, 2) := by decide +kernel
theorem dX1_waits_8 : decode cX1_waits 8 = .ok (.if_icmp .eq 5, 3) := by decide +kernel
theorem dX1_waits_11 : decode cX1_waits 11 = .ok (.lload_n 1, 1) := by decide +kernel
theorem dX1_waits_12 : decode cX1_waits 12 = .ok (.lreturn, 1) := by decide +kernel
theorem dX1_waits_13 : decode cX1_waits 13 = .ok (.iconst 0, 1) := by decide +kernel
theorem dX1_waits_14 : decode cX1_waits 14 = .ok (.istore_n 3, 1) := by decide +kernel
theorem dX1_waits_15 : decode cX1_waits 15 = .ok (.iload_n 3, 1) := by decide +kernel
theorem dX1_waits_16 : decode cX1_waits 16 = .ok (.bipush 34, 2) := by decide +kernel
theorem dX1_waits_18 : decode cX1_waits 18 = .ok (.if_icmp .ge 52, 3) := by decide +kernel
theorem dX1_waits_21 : decode cX1_waits 21 = .ok (.aload_n 0, 1) := by decide +kernel
theorem dX1_waits_22 : decode cX1_waits 22 = .ok (.getfield 9, 3) := by decide +kernel
theorem dX1_waits_25 : decode cX1_waits 25 = .ok (.iload_n 3, 1) := by decide +kernel
theorem dX1_waits_26 : decode cX1_waits 26 = .ok (.iaload, 1) := by decide +kernel
theorem dX1_waits_27 : decode cX1_waits 27 = .ok (.aload_n 0, 1) := by decide +kernel
theorem dX1_waits_28 : decode cX1_waits 28 = .ok (.getfield 13, 3) := by decide +kernel
theorem dX1_waits_31 : decode cX1_waits 31 = .ok (.iload_n 3, 1) := by decide +kernel
theorem dX1_waits_32 : decode cX1_waits 32 = .ok (.iaload, 1) := by decide +kernel
theorem dX1_waits_33 : decode cX1_waits 33 = .ok (.iadd, 1) := by decide +kernel
theorem dX1_waits_34 : decode cX1_waits 34 = .ok (.iconst 4, 1) := by decide +kernel
theorem dX1_waits_35 : decode cX1_waits 35 = .ok (.if_icmp .ge 29, 3) := by decide +kernel
theorem dX1_waits_38 : decode cX1_waits 38 = .ok (.aload_n 0, 1) := by decide +kernel
theorem dX1_waits_39 : decode cX1_waits 39 = .ok (.iload_n 3, 1) := by decide +kernel
theorem dX1_waits_40 : decode cX1_waits 40 = .ok (.iconst 1, 1) := by decide +kernel
theorem dX1_waits_41 : decode cX1_waits 41 = .ok (.invokevirtual 67, 3) := by decide +kernel
theorem dX1_waits_44 : decode cX1_waits 44 = .ok (.aload_n 0, 1) := by decide +kernel
theorem dX1_waits_45 : decode cX1_waits 45 = .ok (.invokevirtual 125, 3) := by decide +kernel
theorem dX1_waits_48 : decode cX1_waits 48 = .ok (.iconst (-1), 1) := by decide +kernel
theorem dX1_waits_49 : decode cX1_waits 49 = .ok (.if_icmp .eq 9, 3) := by decide +kernel
theorem dX1_waits_52 : decode cX1_waits 52 = .ok (.lload_n 1, 1) := by decide +kernel
theorem dX1_waits_53 : decode cX1_waits 53 = .ok (.lconst 1, 1) := by decide +kernel
theorem dX1_waits_54 : decode cX1_waits 54 = .ok (.iload_n 3, 1) := by decide +kernel
theorem dX1_waits_55 : decode cX1_waits 55 = .ok (.lshl, 1) := by decide +kernel
theorem dX1_waits_56 : decode cX1_waits 56 = .ok (.lor, 1) := by decide +kernel
theorem dX1_waits_57 : decode cX1_waits 57 = .ok (.lstore_n 1, 1) := by decide +kernel
theorem dX1_waits_58 : decode cX1_waits 58 = .ok (.aload_n 0, 1) := by decide +kernel
theorem dX1_waits_59 : decode cX1_waits 59 = .ok (.iload_n 3, 1) := by decide +kernel
theorem dX1_waits_60 : decode cX1_waits 60 = .ok (.iconst (-1), 1) := by decide +kernel
theorem dX1_waits_61 : decode cX1_waits 61 = .ok (.invokevirtual 67, 3) := by decide +kernel
theorem dX1_waits_64 : decode cX1_waits 64 = .ok (.iinc 3 1, 3) := by decide +kernel
theorem dX1_waits_67 : decode cX1_waits 67 = .ok (.goto (-52), 3) := by decide +kernel
theorem dX1_waits_70 : decode cX1_waits 70 = .ok (.lload_n 1, 1) := by decide +kernel
theorem dX1_waits_71 : decode cX1_waits 71 = .ok (.lreturn, 1) := by decide +kernel
set_option maxRecDepth 20000 in
theorem ggX1_outs_X1_waits : GoodIn wsX1_outs wsX1_waits := goodIn_r _ [5, 6, 7, 8, 9, 10, 4, 11, 12, 13, 14, 15, 16, 17, 18, 19, 20, 21, 22, 23, 24, 25, 26, 27, 28, 29, 30, 31, 32, 33, 34, 35, 36, 37, 38, 39, 40, 41, 42, 43, 44, 45, 46, 47, 48, 49, 50, 51, 52, 53, 54, 55, 56, 57, 58, 59, 60, 61, 62, 63, 64, 65, 66, 67, 68, 69, 70, 71, 72, 73, 74, 75, 76, 77, 78, 79, 80, 81, 82, 83, 84, 85, 94, 95, 96, 97, 98, 99, 100, 101, 102, 103, 104, 105, 106] (by decide +kernel) (by decide +kernel)
set_option maxRecDepth 20000 in
theorem gX1_outs_X1_waits : GoodIn wsX1_outs (wsV RX1 128 RX1 yX1_waits wsX1_waits) := goodIn_app (goodIn_of _ (by decide +kernel)) ggX1_outs_X1_waits
set_option maxRecDepth 20000 in
theorem ggX1_outs_X1_isIn : GoodIn wsX1_outs wsX1_isIn := goodIn_r _ [88] (by decide +kernel) (by decide +kernel)
set_option maxRecDepth 20000 in
theorem gX1_outs_X1_isIn : GoodIn wsX1_outs (va_wsS RX1 132 yX1_isIn wsX1_isIn) := goodIn_app (goodIn_of _ (by decide +kernel)) ggX1_outs_X1_isIn
set_option maxRecDepth 20000 in
theorem ggX1_outs_X1_tilesLeft : GoodIn wsX1_outs wsX1_tilesLeft := goodIn_r _ [92, 6, 7, 93, 94, 95, 96, 97, 98, 99, 100, 101, 102, 103, 104, 105, 106] (by decide +kernel) (by decide +kernel)
set_option maxRecDepth 20000 in
theorem gX1_outs_X1_tilesLeft : GoodIn wsX1_outs (wsV RX1 74 RX1 yX1_tilesLeft wsX1_tilesLeft) := goodIn_app (goodIn_of _ (by decide +kernel)) ggX1_outs_X1_tilesLeft
theorem dX1_outs_0 : decode cX1_outs 0 = .ok (.aload_n 0, 1) := by decide +kernel
theorem dX1_outs_1 : decode cX1_outs 1 = .ok (.invokevirtual 128, 3) := by decide +kernel
theorem dX1_outs_4 : decode cX1_outs 4 = .ok (.lstore_n 1, 1) := by decide +kernel
theorem dX1_outs_5 : decode cX1_outs 5 = .ok (.iconst 0, 1) := by decide +kernel
theorem dX1_outs_6 : decode cX1_outs 6 = .ok (.istore_n 3, 1) := by decide +kernel
theorem dX1_outs_7 : decode cX1_outs 7 = .ok (.iconst 0, 1) := by decide +kernel
theorem dX1_outs_8 : decode cX1_outs 8 = .ok (.istore 4, 2) := by decide +kernel
theorem dX1_outs_10 : decode cX1_outs 10 = .ok (.iload 4, 2) := by decide +kernel
theorem dX1_outs_12 : decode cX1_outs 12 = .ok (.bipush 34, 2) := by decide +kernel
theorem dX1_outs_14 : decode cX1_outs 14 = .ok (.if_icmp .ge 27, 3) := by decide +kernel
theorem dX1_outs_17 : decode cX1_outs 17 = .ok (.iload 4, 2) := by decide +kernel
theorem dX1_outs_19 : decode cX1_outs 19 = .ok (.lload_n 1, 1) := by decide +kernel
theorem dX1_outs_20 : decode cX1_outs 20 = .ok (.invokestatic 132, 3) := by decide +kernel
theorem dX1_outs_23 : decode cX1_outs 23 = .ok (.ifCond .eq 12, 3) := by decide +kernel
theorem dX1_outs_26 : decode cX1_outs 26 = .ok (.iload_n 3, 1) := by decide +kernel
theorem dX1_outs_27 : decode cX1_outs 27 = .ok (.aload_n 0, 1) := by decide +kernel
theorem dX1_outs_28 : decode cX1_outs 28 = .ok (.iload 4, 2) := by decide +kernel
theorem dX1_outs_30 : decode cX1_outs 30 = .ok (.invokevirtual 74, 3) := by decide +kernel
theorem dX1_outs_33 : decode cX1_outs 33 = .ok (.iadd, 1) := by decide +kernel
theorem dX1_outs_34 : decode cX1_outs 34 = .ok (.istore_n 3, 1) := by decide +kernel
theorem dX1_outs_35 : decode cX1_outs 35 = .ok (.iinc 4 1, 3) := by decide +kernel
theorem dX1_outs_38 : decode cX1_outs 38 = .ok (.goto (-28), 3) := by decide +kernel
theorem dX1_outs_41 : decode cX1_outs 41 = .ok (.iload_n 3, 1) := by decide +kernel
theorem dX1_outs_42 : decode cX1_outs 42 = .ok (.ireturn, 1) := by decide +kernel
set_option maxRecDepth 20000 in
theorem ggX1_missing_X0_mostHeld : GoodIn wsX1_missing wsX0_mostHeld := goodIn_r _ [13, 14, 6, 7, 8, 15, 16, 17, 18, 19, 20, 21, 22, 23, 24, 25, 26, 27, 12, 28, 29, 30, 31, 32, 33, 34, 35, 36, 37, 38, 39, 40, 41, 42, 43, 44, 72, 73, 74, 75, 76] (by decide +kernel) (by decide +kernel)
set_option maxRecDepth 20000 in
theorem gX1_missing_X0_mostHeld : GoodIn wsX1_missing (wsV RX1 136 RX0 yX0_mostHeld wsX0_mostHeld) := goodIn_app (goodIn_of _ (by decide +kernel)) ggX1_missing_X0_mostHeld
set_option maxRecDepth 20000 in
theorem ggX1_missing_X1_heldByPairs : GoodIn wsX1_missing wsX1_heldByPairs := goodIn_r _ [48, 3, 5, 6, 7, 8, 59, 60, 61, 62, 63, 64, 65, 66, 67, 68, 69, 70, 71] (by decide +kernel) (by decide +kernel)
set_option maxRecDepth 20000 in
theorem gX1_missing_X1_heldByPairs : GoodIn wsX1_missing (wsV RX1 140 RX1 yX1_heldByPairs wsX1_heldByPairs) := goodIn_app (goodIn_of _ (by decide +kernel)) ggX1_missing_X1_heldByPairs
set_option maxRecDepth 20000 in
theorem ggX1_missing_X1_heldByOrphans : GoodIn wsX1_missing wsX1_heldByOrphans := goodIn_r _ [52, 3, 53, 54, 30, 55, 56, 57, 58, 59, 60, 61, 62, 63, 64, 65, 66, 67, 68, 69, 70, 71] (by decide +kernel) (by decide +kernel)
set_option maxRecDepth 20000 in
theorem gX1_missing_X1_heldByOrphans : GoodIn wsX1_missing (wsV RX1 148 RX1 yX1_heldByOrphans wsX1_heldByOrphans) := goodIn_app (goodIn_of _ (by decide +kernel)) ggX1_missing_X1_heldByOrphans
theorem dX1_missing_0 : decode cX1_missing 0 = .ok (.iconst 4, 1) := by decide +kernel
theorem dX1_missing_1 : decode cX1_missing 1 = .ok (.aload_n 0, 1) := by decide +kernel
theorem dX1_missing_2 : decode cX1_missing 2 = .ok (.getfield 89, 3) := by decide +kernel
theorem dX1_missing_5 : decode cX1_missing 5 = .ok (.isub, 1) := by decide +kernel
theorem dX1_missing_6 : decode cX1_missing 6 = .ok (.istore_n 1, 1) := by decide +kernel
theorem dX1_missing_7 : decode cX1_missing 7 = .ok (.bipush 14, 2) := by decide +kernel
theorem dX1_missing_9 : decode cX1_missing 9 = .ok (.iconst 3, 1) := by decide +kernel
theorem dX1_missing_10 : decode cX1_missing 10 = .ok (.aload_n 0, 1) := by decide +kernel
theorem dX1_missing_11 : decode cX1_missing 11 = .ok (.getfield 89, 3) := by decide +kernel
theorem dX1_missing_14 : decode cX1_missing 14 = .ok (.imul, 1) := by decide +kernel
theorem dX1_missing_15 : decode cX1_missing 15 = .ok (.isub, 1) := by decide +kernel
theorem dX1_missing_16 : decode cX1_missing 16 = .ok (.aload_n 0, 1) := by decide +kernel
theorem dX1_missing_17 : decode cX1_missing 17 = .ok (.getfield 32, 3) := by decide +kernel
theorem dX1_missing_20 : decode cX1_missing 20 = .ok (.aload_n 0, 1) := by decide +kernel
theorem dX1_missing_21 : decode cX1_missing 21 = .ok (.getfield 9, 3) := by decide +kernel
theorem dX1_missing_24 : decode cX1_missing 24 = .ok (.aload_n 0, 1) := by decide +kernel
theorem dX1_missing_25 : decode cX1_missing 25 = .ok (.getfield 13, 3) := by decide +kernel
theorem dX1_missing_28 : decode cX1_missing 28 = .ok (.iload_n 1, 1) := by decide +kernel
theorem dX1_missing_29 : decode cX1_missing 29 = .ok (.invokevirtual 136, 3) := by decide +kernel
theorem dX1_missing_32 : decode cX1_missing 32 = .ok (.isub, 1) := by decide +kernel
theorem dX1_missing_33 : decode cX1_missing 33 = .ok (.istore_n 2, 1) := by decide +kernel
theorem dX1_missing_34 : decode cX1_missing 34 = .ok (.aload_n 0, 1) := by decide +kernel
theorem dX1_missing_35 : decode cX1_missing 35 = .ok (.getfield 89, 3) := by decide +kernel
theorem dX1_missing_38 : decode cX1_missing 38 = .ok (.ifCond .ne 27, 3) := by decide +kernel
theorem dX1_missing_41 : decode cX1_missing 41 = .ok (.iload_n 2, 1) := by decide +kernel
theorem dX1_missing_42 : decode cX1_missing 42 = .ok (.bipush 14, 2) := by decide +kernel
theorem dX1_missing_44 : decode cX1_missing 44 = .ok (.aload_n 0, 1) := by decide +kernel
theorem dX1_missing_45 : decode cX1_missing 45 = .ok (.invokevirtual 140, 3) := by decide +kernel
theorem dX1_missing_48 : decode cX1_missing 48 = .ok (.isub, 1) := by decide +kernel
theorem dX1_missing_49 : decode cX1_missing 49 = .ok (.invokestatic 143, 3) := by decide +kernel
theorem dX1_missing_52 : decode cX1_missing 52 = .ok (.istore_n 2, 1) := by decide +kernel
theorem dX1_missing_53 : decode cX1_missing 53 = .ok (.iload_n 2, 1) := by decide +kernel
theorem dX1_missing_54 : decode cX1_missing 54 = .ok (.bipush 14, 2) := by decide +kernel
theorem dX1_missing_56 : decode cX1_missing 56 = .ok (.aload_n 0, 1) := by decide +kernel
theorem dX1_missing_57 : decode cX1_missing 57 = .ok (.invokevirtual 148, 3) := by decide +kernel
theorem dX1_missing_60 : decode cX1_missing 60 = .ok (.isub, 1) := by decide +kernel
theorem dX1_missing_61 : decode cX1_missing 61 = .ok (.invokestatic 143, 3) := by decide +kernel
theorem dX1_missing_64 : decode cX1_missing 64 = .ok (.istore_n 2, 1) := by decide +kernel
theorem dX1_missing_65 : decode cX1_missing 65 = .ok (.iload_n 2, 1) := by decide +kernel
theorem dX1_missing_66 : decode cX1_missing 66 = .ok (.ireturn, 1) := by decide +kernel
set_option maxRecDepth 20000 in
theorem ggX1_advice_X1_missing : GoodIn wsX1_advice wsX1_missing := goodIn_r _ [9, 10, 11, 4, 12, 13, 14, 15, 16, 17, 18, 19, 20, 21, 22, 23, 24, 25, 26, 27, 28, 29, 30, 31, 32, 33, 34, 35, 36, 37, 8, 38, 39, 40, 41, 42, 43, 44, 45, 46, 47, 48, 49, 50, 51, 52, 53, 54, 55, 56, 57, 58, 59, 60, 61, 62, 63, 64, 65, 70, 71, 72, 73, 74, 75, 76, 77, 78, 79, 80, 81, 82, 83, 84, 85, 86, 87] (by decide +kernel) (by decide +kernel)
set_option maxRecDepth 20000 in
theorem gX1_advice_X1_missing : GoodIn wsX1_advice (wsV RX1 153 RX1 yX1_missing wsX1_missing) := goodIn_app (goodIn_of _ (by decide +kernel)) ggX1_advice_X1_missing
set_option maxRecDepth 20000 in
theorem ggX1_advice_X1_addTiles : GoodIn wsX1_advice wsX1_addTiles := goodIn_r _ [69, 4, 3, 70, 71, 72, 73, 74, 75, 76, 77, 78, 79, 80, 81, 82] (by decide +kernel) (by decide +kernel)
set_option maxRecDepth 20000 in
theorem gX1_advice_X1_addTiles : GoodIn wsX1_advice (wsV RX1 67 RX1 yX1_addTiles wsX1_addTiles) := goodIn_app (goodIn_of _ (by decide +kernel)) ggX1_advice_X1_addTiles
theorem dX1_advice_0 : decode cX1_advice 0 = .ok (.aload_n 0, 1) := by decide +kernel
theorem dX1_advice_1 : decode cX1_advice 1 = .ok (.getfield 111, 3) := by decide +kernel
theorem dX1_advice_4 : decode cX1_advice 4 = .ok (.ifCond .ne 13, 3) := by decide +kernel
theorem dX1_advice_7 : decode cX1_advice 7 = .ok (.new 57, 3) := by decide +kernel
theorem dX1_advice_10 : decode cX1_advice 10 = .ok (.dup, 1) := by decide +kernel
theorem dX1_advice_11 : decode cX1_advice 11 = .ok (.ldc 151, 2) := by decide +kernel
theorem dX1_advice_13 : decode cX1_advice 13 = .ok (.invokespecial 61, 3) := by decide +kernel
theorem dX1_advice_16 : decode cX1_advice 16 = .ok (.athrow, 1) := by decide +kernel
theorem dX1_advice_17 : decode cX1_advice 17 = .ok (.aload_n 0, 1) := by decide +kernel
theorem dX1_advice_18 : decode cX1_advice 18 = .ok (.invokevirtual 153, 3) := by decide +kernel
theorem dX1_advice_21 : decode cX1_advice 21 = .ok (.istore_n 1, 1) := by decide +kernel
theorem dX1_advice_22 : decode cX1_advice 22 = .ok (.bipush 15, 2) := by decide +kernel
theorem dX1_advice_24 : decode cX1_advice 24 = .ok (.istore_n 2, 1) := by decide +kernel
theorem dX1_advice_25 : decode cX1_advice 25 = .ok (.iconst (-1), 1) := by decide +kernel
theorem dX1_advice_26 : decode cX1_advice 26 = .ok (.istore_n 3, 1) := by decide +kernel
theorem dX1_advice_27 : decode cX1_advice 27 = .ok (.iconst 0, 1) := by decide +kernel
theorem dX1_advice_28 : decode cX1_advice 28 = .ok (.istore 4, 2) := by decide +kernel
theorem dX1_advice_30 : decode cX1_advice 30 = .ok (.iload 4, 2) := by decide +kernel
theorem dX1_advice_32 : decode cX1_advice 32 = .ok (.bipush 34, 2) := by decide +kernel
theorem dX1_advice_34 : decode cX1_advice 34 = .ok (.if_icmp .ge 56, 3) := by decide +kernel
theorem dX1_advice_37 : decode cX1_advice 37 = .ok (.iload_n 2, 1) := by decide +kernel
theorem dX1_advice_38 : decode cX1_advice 38 = .ok (.iload_n 1, 1) := by decide +kernel
theorem dX1_advice_39 : decode cX1_advice 39 = .ok (.if_icmp .le 51, 3) := by decide +kernel
theorem dX1_advice_42 : decode cX1_advice 42 = .ok (.aload_n 0, 1) := by decide +kernel
theorem dX1_advice_43 : decode cX1_advice 43 = .ok (.getfield 9, 3) := by decide +kernel
theorem dX1_advice_46 : decode cX1_advice 46 = .ok (.iload 4, 2) := by decide +kernel
theorem dX1_advice_48 : decode cX1_advice 48 = .ok (.iaload, 1) := by decide +kernel
theorem dX1_advice_49 : decode cX1_advice 49 = .ok (.ifCond .le 35, 3) := by decide +kernel
theorem dX1_advice_52 : decode cX1_advice 52 = .ok (.aload_n 0, 1) := by decide +kernel
theorem dX1_advice_53 : decode cX1_advice 53 = .ok (.iload 4, 2) := by decide +kernel
theorem dX1_advice_55 : decode cX1_advice 55 = .ok (.iconst (-1), 1) := by decide +kernel
theorem dX1_advice_56 : decode cX1_advice 56 = .ok (.invokevirtual 67, 3) := by decide +kernel
theorem dX1_advice_59 : decode cX1_advice 59 = .ok (.aload_n 0, 1) := by decide +kernel
theorem dX1_advice_60 : decode cX1_advice 60 = .ok (.invokevirtual 153, 3) := by decide +kernel
theorem dX1_advice_63 : decode cX1_advice 63 = .ok (.istore 5, 2) := by decide +kernel
theorem dX1_advice_65 : decode cX1_advice 65 = .ok (.aload_n 0, 1) := by decide +kernel
theorem dX1_advice_66 : decode cX1_advice 66 = .ok (.iload 4, 2) := by decide +kernel
theorem dX1_advice_68 : decode cX1_advice 68 = .ok (.iconst 1, 1) := by decide +kernel
theorem dX1_advice_69 : decode cX1_advice 69 = .ok (.invokevirtual 67, 3) := by decide +kernel
theorem dX1_advice_72 : decode cX1_advice 72 = .ok (.iload 5, 2) := by decide +kernel
theorem dX1_advice_74 : decode cX1_advice 74 = .ok (.iload_n 2, 1) := by decide +kernel
theorem dX1_advice_75 : decode cX1_advice 75 = .ok (.if_icmp .ge 9, 3) := by decide +kernel
theorem dX1_advice_78 : decode cX1_advice 78 = .ok (.iload 5, 2) := by decide +kernel
theorem dX1_advice_80 : decode cX1_advice 80 = .ok (.istore_n 2, 1) := by decide +kernel
theorem dX1_advice_81 : decode cX1_advice 81 = .ok (.iload 4, 2) := by decide +kernel
theorem dX1_advice_83 : decode cX1_advice 83 = .ok (.istore_n 3, 1) := by decide +kernel
theorem dX1_advice_84 : decode cX1_advice 84 = .ok (.iinc 4 1, 3) := by decide +kernel
theorem dX1_advice_87 : decode cX1_advice 87 = .ok (.goto (-57), 3) := by decide +kernel
theorem dX1_advice_90 : decode cX1_advice 90 = .ok (.iload_n 3, 1) := by decide +kernel
theorem dX1_advice_91 : decode cX1_advice 91 = .ok (.ireturn, 1) := by decide +kernel
set_option maxRecDepth 20000 in
theorem ggX1_fans_X1_fansNow : GoodIn wsX1_fans wsX1_fansNow := goodIn_r _ [5, 6, 7, 8, 4, 9, 10, 11, 12, 13, 14, 15, 16, 17, 18, 19, 20, 21, 22, 23, 24, 25, 26, 27, 28, 29, 30, 31, 32, 33, 34, 35, 36, 37, 38, 39, 40, 41, 42, 43, 44, 45, 46, 47, 48, 49, 50, 51, 52, 53, 54, 55, 56, 57, 58, 59, 60, 61, 62, 63, 64, 65, 66, 67, 68, 69, 70, 71, 72, 73, 74, 75, 76, 77, 78, 79, 80, 81, 82, 83, 84, 85, 86, 87, 88, 89, 90, 91, 92, 93, 94, 95, 96, 97, 103, 104, 105, 106, 107, 108, 109, 110, 111, 112, 113, 114, 115] (by decide +kernel) (by decide +kernel)
set_option maxRecDepth 20000 in
theorem gX1_fans_X1_fansNow : GoodIn wsX1_fans (wsV RX1 165 RX1 yX1_fansNow wsX1_fansNow) := goodIn_app (goodIn_of _ (by decide +kernel)) ggX1_fans_X1_fansNow
set_option maxRecDepth 20000 in
theorem ggX1_fans_X1_requireComplete : GoodIn wsX1_fans wsX1_requireComplete := goodIn_ca (goodIn_r _ [100, 101, 102] (by decide +kernel) (by decide +kernel)) (goodIn_sub (fun _ h => List.mem_cons_of_mem _ (List.mem_append_right _ h)) (by decide +kernel))
set_option maxRecDepth 20000 in
theorem gX1_fans_X1_requireComplete : GoodIn wsX1_fans (va_wsS RX1 169 yX1_requireComplete wsX1_requireComplete) := goodIn_app (goodIn_of _ (by decide +kernel)) ggX1_fans_X1_requireComplete
theorem dX1_fans_0 : decode cX1_fans 0 = .ok (.aload_n 0, 1) := by decide +kernel
theorem dX1_fans_1 : decode cX1_fans 1 = .ok (.iload_n 1, 1) := by decide +kernel
theorem dX1_fans_2 : decode cX1_fans 2 = .ok (.invokevirtual 165, 3) := by decide +kernel
theorem dX1_fans_5 : decode cX1_fans 5 = .ok (.istore_n 2, 1) := by decide +kernel
theorem dX1_fans_6 : decode cX1_fans 6 = .ok (.iload_n 2, 1) := by decide +kernel
theorem dX1_fans_7 : decode cX1_fans 7 = .ok (.invokestatic 169, 3) := by decide +kernel
theorem dX1_fans_10 : decode cX1_fans 10 = .ok (.iload_n 2, 1) := by decide +kernel
theorem dX1_fans_11 : decode cX1_fans 11 = .ok (.ireturn, 1) := by decide +kernel
set_option maxRecDepth 20000 in
theorem ggX1_points_X1_fansNow : GoodIn wsX1_points wsX1_fansNow := goodIn_r _ [5, 6, 7, 8, 4, 9, 10, 11, 12, 13, 14, 15, 16, 17, 18, 19, 20, 21, 22, 23, 24, 25, 26, 27, 28, 29, 30, 31, 32, 33, 34, 35, 36, 37, 38, 39, 40, 41, 42, 43, 44, 45, 46, 47, 48, 49, 50, 51, 52, 53, 54, 55, 56, 57, 58, 59, 60, 61, 62, 63, 64, 65, 66, 67, 68, 69, 70, 71, 72, 73, 74, 75, 76, 77, 78, 79, 80, 81, 82, 83, 84, 85, 86, 87, 88, 89, 90, 91, 92, 93, 94, 95, 96, 97, 109, 110, 111, 112, 113, 114, 115, 116, 117, 118, 119, 120, 121] (by decide +kernel) (by decide +kernel)
set_option maxRecDepth 20000 in
theorem gX1_points_X1_fansNow : GoodIn wsX1_points (wsV RX1 165 RX1 yX1_fansNow wsX1_fansNow) := goodIn_app (goodIn_of _ (by decide +kernel)) ggX1_points_X1_fansNow
set_option maxRecDepth 20000 in
theorem ggX1_points_X1_requireComplete : GoodIn wsX1_points wsX1_requireComplete := goodIn_ca (goodIn_r _ [100, 101, 102] (by decide +kernel) (by decide +kernel)) (goodIn_sub (fun _ h => List.mem_cons_of_mem _ (List.mem_append_right _ h)) (by decide +kernel))
set_option maxRecDepth 20000 in
theorem gX1_points_X1_requireComplete : GoodIn wsX1_points (va_wsS RX1 169 yX1_requireComplete wsX1_requireComplete) := goodIn_app (goodIn_of _ (by decide +kernel)) ggX1_points_X1_requireComplete
set_option maxRecDepth 20000 in
theorem ggX1_points_X1_pointsFor : GoodIn wsX1_points wsX1_pointsFor := goodIn_r _ [106, 107, 108, 68, 69, 13, 70, 109, 110, 111, 112, 113, 114, 115, 116, 117, 118, 119, 120, 121] (by decide +kernel) (by decide +kernel)
set_option maxRecDepth 20000 in
theorem gX1_points_X1_pointsFor : GoodIn wsX1_points (wsV RX1 172 RX1 yX1_pointsFor wsX1_pointsFor) := goodIn_app (goodIn_of _ (by decide +kernel)) ggX1_points_X1_pointsFor
theorem dX1_points_0 : decode cX1_points 0 = .ok (.aload_n 0, 1) := by decide +kernel
theorem dX1_points_1 : decode cX1_points 1 = .ok (.iload_n 1, 1) := by decide +kernel
theorem dX1_points_2 : decode cX1_points 2 = .ok (.invokevirtual 165, 3) := by decide +kernel
theorem dX1_points_5 : decode cX1_points 5 = .ok (.istore_n 2, 1) := by decide +kernel
theorem dX1_points_6 : decode cX1_points 6 = .ok (.iload_n 2, 1) := by decide +kernel
theorem dX1_points_7 : decode cX1_points 7 = .ok (.invokestatic 169, 3) := by decide +kernel
theorem dX1_points_10 : decode cX1_points 10 = .ok (.aload_n 0, 1) := by decide +kernel
theorem dX1_points_11 : decode cX1_points 11 = .ok (.iload_n 2, 1) := by decide +kernel
theorem dX1_points_12 : decode cX1_points 12 = .ok (.invokevirtual 172, 3) := by decide +kernel
theorem dX1_points_15 : decode cX1_points 15 = .ok (.ireturn, 1) := by decide +kernel
theorem dX1_isKind_0 : decode cX1_isKind 0 = .ok (.iload_n 0, 1) := by decide +kernel
theorem dX1_isKind_1 : decode cX1_isKind 1 = .ok (.ifCond .lt 13, 3) := by decide +kernel
theorem dX1_isKind_4 : decode cX1_isKind 4 = .ok (.iload_n 0, 1) := by decide +kernel
theorem dX1_isKind_5 : decode cX1_isKind 5 = .ok (.bipush 34, 2) := by decide +kernel
theorem dX1_isKind_7 : decode cX1_isKind 7 = .ok (.if_icmp .ge 7, 3) := by decide +kernel
theorem dX1_isKind_10 : decode cX1_isKind 10 = .ok (.iconst 1, 1) := by decide +kernel
theorem dX1_isKind_11 : decode cX1_isKind 11 = .ok (.goto 4, 3) := by decide +kernel
theorem dX1_isKind_14 : decode cX1_isKind 14 = .ok (.iconst 0, 1) := by decide +kernel
theorem dX1_isKind_15 : decode cX1_isKind 15 = .ok (.ireturn, 1) := by decide +kernel
theorem dX1_isHonour_0 : decode cX1_isHonour 0 = .ok (.iload_n 0, 1) := by decide +kernel
theorem dX1_isHonour_1 : decode cX1_isHonour 1 = .ok (.bipush 27, 2) := by decide +kernel
theorem dX1_isHonour_3 : decode cX1_isHonour 3 = .ok (.if_icmp .lt 7, 3) := by decide +kernel
theorem dX1_isHonour_6 : decode cX1_isHonour 6 = .ok (.iconst 1, 1) := by decide +kernel
theorem dX1_isHonour_7 : decode cX1_isHonour 7 = .ok (.goto 4, 3) := by decide +kernel
theorem dX1_isHonour_10 : decode cX1_isHonour 10 = .ok (.iconst 0, 1) := by decide +kernel
theorem dX1_isHonour_11 : decode cX1_isHonour 11 = .ok (.ireturn, 1) := by decide +kernel
set_option maxRecDepth 20000 in
theorem ggX1_isEnd_X1_isHonour : GoodIn wsX1_isEnd wsX1_isHonour := goodIn_r _ [4] (by decide +kernel) (by decide +kernel)
set_option maxRecDepth 20000 in
theorem gX1_isEnd_X1_isHonour : GoodIn wsX1_isEnd (va_wsS RX1 179 yX1_isHonour wsX1_isHonour) := goodIn_app (goodIn_of _ (by decide +kernel)) ggX1_isEnd_X1_isHonour
theorem dX1_isEnd_0 : decode cX1_isEnd 0 = .ok (.iload_n 0, 1) := by decide +kernel
theorem dX1_isEnd_1 : decode cX1_isEnd 1 = .ok (.bipush 9, 2) := by decide +kernel
theorem dX1_isEnd_3 : decode cX1_isEnd 3 = .ok (.irem, 1) := by decide +kernel
theorem dX1_isEnd_4 : decode cX1_isEnd 4 = .ok (.istore_n 1, 1) := by decide +kernel
theorem dX1_isEnd_5 : decode cX1_isEnd 5 = .ok (.iload_n 0, 1) := by decide +kernel
theorem dX1_isEnd_6 : decode cX1_isEnd 6 = .ok (.invokestatic 179, 3) := by decide +kernel
theorem dX1_isEnd_9 : decode cX1_isEnd 9 = .ok (.ifCond .ne 17, 3) := by decide +kernel
theorem dX1_isEnd_12 : decode cX1_isEnd 12 = .ok (.iload_n 1, 1) := by decide +kernel
theorem dX1_isEnd_13 : decode cX1_isEnd 13 = .ok (.ifCond .eq 9, 3) := by decide +kernel
theorem dX1_isEnd_16 : decode cX1_isEnd 16 = .ok (.iload_n 1, 1) := by decide +kernel
theorem dX1_isEnd_17 : decode cX1_isEnd 17 = .ok (.bipush 8, 2) := by decide +kernel
theorem dX1_isEnd_19 : decode cX1_isEnd 19 = .ok (.if_icmp .ne 7, 3) := by decide +kernel
theorem dX1_isEnd_22 : decode cX1_isEnd 22 = .ok (.iconst 1, 1) := by decide +kernel
theorem dX1_isEnd_23 : decode cX1_isEnd 23 = .ok (.goto 4, 3) := by decide +kernel
theorem dX1_isEnd_26 : decode cX1_isEnd 26 = .ok (.iconst 0, 1) := by decide +kernel
theorem dX1_isEnd_27 : decode cX1_isEnd 27 = .ok (.ireturn, 1) := by decide +kernel
theorem dX1_beginsRow_0 : decode cX1_beginsRow 0 = .ok (.iload_n 0, 1) := by decide +kernel
theorem dX1_beginsRow_1 : decode cX1_beginsRow 1 = .ok (.ifCond .lt 22, 3) := by decide +kernel
theorem dX1_beginsRow_4 : decode cX1_beginsRow 4 = .ok (.iload_n 0, 1) := by decide +kernel
theorem dX1_beginsRow_5 : decode cX1_beginsRow 5 = .ok (.bipush 27, 2) := by decide +kernel
theorem dX1_beginsRow_7 : decode cX1_beginsRow 7 = .ok (.if_icmp .ge 16, 3) := by decide +kernel
theorem dX1_beginsRow_10 : decode cX1_beginsRow 10 = .ok (.iload_n 0, 1) := by decide +kernel
theorem dX1_beginsRow_11 : decode cX1_beginsRow 11 = .ok (.bipush 9, 2) := by decide +kernel
theorem dX1_beginsRow_13 : decode cX1_beginsRow 13 = .ok (.irem, 1) := by decide +kernel
theorem dX1_beginsRow_14 : decode cX1_beginsRow 14 = .ok (.bipush 6, 2) := by decide +kernel
theorem dX1_beginsRow_16 : decode cX1_beginsRow 16 = .ok (.if_icmp .gt 7, 3) := by decide +kernel
theorem dX1_beginsRow_19 : decode cX1_beginsRow 19 = .ok (.iconst 1, 1) := by decide +kernel
theorem dX1_beginsRow_20 : decode cX1_beginsRow 20 = .ok (.goto 4, 3) := by decide +kernel
theorem dX1_beginsRow_23 : decode cX1_beginsRow 23 = .ok (.iconst 0, 1) := by decide +kernel
theorem dX1_beginsRow_24 : decode cX1_beginsRow 24 = .ok (.ireturn, 1) := by decide +kernel
theorem dX1_isIn_0 : decode cX1_isIn 0 = .ok (.lload_n 1, 1) := by decide +kernel
theorem dX1_isIn_1 : decode cX1_isIn 1 = .ok (.iload_n 0, 1) := by decide +kernel
theorem dX1_isIn_2 : decode cX1_isIn 2 = .ok (.lshr, 1) := by decide +kernel
theorem dX1_isIn_3 : decode cX1_isIn 3 = .ok (.lconst 1, 1) := by decide +kernel
theorem dX1_isIn_4 : decode cX1_isIn 4 = .ok (.land, 1) := by decide +kernel
theorem dX1_isIn_5 : decode cX1_isIn 5 = .ok (.lconst 0, 1) := by decide +kernel
theorem dX1_isIn_6 : decode cX1_isIn 6 = .ok (.lcmp, 1) := by decide +kernel
theorem dX1_isIn_7 : decode cX1_isIn 7 = .ok (.ifCond .eq 7, 3) := by decide +kernel
theorem dX1_isIn_10 : decode cX1_isIn 10 = .ok (.iconst 1, 1) := by decide +kernel
theorem dX1_isIn_11 : decode cX1_isIn 11 = .ok (.goto 4, 3) := by decide +kernel
theorem dX1_isIn_14 : decode cX1_isIn 14 = .ok (.iconst 0, 1) := by decide +kernel
theorem dX1_isIn_15 : decode cX1_isIn 15 = .ok (.ireturn, 1) := by decide +kernel
set_option maxRecDepth 20000 in
theorem ggX1_requireKind_X1_isKind : GoodIn wsX1_requireKind wsX1_isKind := goodIn_r _ [6] (by decide +kernel) (by decide +kernel)
set_option maxRecDepth 20000 in
theorem gX1_requireKind_X1_isKind : GoodIn wsX1_requireKind (va_wsS RX1 182 yX1_isKind wsX1_isKind) := goodIn_app (goodIn_of _ (by decide +kernel)) ggX1_requireKind_X1_isKind
theorem dX1_requireKind_0 : decode cX1_requireKind 0 = .ok (.iload_n 0, 1) := by decide +kernel
theorem dX1_requireKind_1 : decode cX1_requireKind 1 = .ok (.invokestatic 182, 3) := by decide +kernel
theorem dX1_requireKind_4 : decode cX1_requireKind 4 = .ok (.ifCond .ne 13, 3) := by decide +kernel
theorem dX1_requireKind_7 : decode cX1_requireKind 7 = .ok (.new 114, 3) := by decide +kernel
theorem dX1_requireKind_10 : decode cX1_requireKind 10 = .ok (.dup, 1) := by decide +kernel
theorem dX1_requireKind_11 : decode cX1_requireKind 11 = .ok (.ldc 185, 2) := by decide +kernel
theorem dX1_requireKind_13 : decode cX1_requireKind 13 = .ok (.invokespecial 118, 3) := by decide +kernel
theorem dX1_requireKind_16 : decode cX1_requireKind 16 = .ok (.athrow, 1) := by decide +kernel
theorem dX1_requireKind_17 : decode cX1_requireKind 17 = .ok (.return_, 1) := by decide +kernel
set_option maxRecDepth 20000 in
theorem ggX1_requireLeft_X1_tilesLeft : GoodIn wsX1_requireLeft wsX1_tilesLeft := goodIn_r _ [7, 8, 9, 10, 11, 12, 13, 14, 15, 16, 17, 18, 19, 20, 21, 22, 23] (by decide +kernel) (by decide +kernel)
set_option maxRecDepth 20000 in
theorem gX1_requireLeft_X1_tilesLeft : GoodIn wsX1_requireLeft (wsV RX1 74 RX1 yX1_tilesLeft wsX1_tilesLeft) := goodIn_app (goodIn_of _ (by decide +kernel)) ggX1_requireLeft_X1_tilesLeft
theorem dX1_requireLeft_0 : decode cX1_requireLeft 0 = .ok (.aload_n 0, 1) := by decide +kernel
theorem dX1_requireLeft_1 : decode cX1_requireLeft 1 = .ok (.iload_n 1, 1) := by decide +kernel
theorem dX1_requireLeft_2 : decode cX1_requireLeft 2 = .ok (.invokevirtual 74, 3) := by decide +kernel
theorem dX1_requireLeft_5 : decode cX1_requireLeft 5 = .ok (.ifCond .gt 13, 3) := by decide +kernel
theorem dX1_requireLeft_8 : decode cX1_requireLeft 8 = .ok (.new 57, 3) := by decide +kernel
theorem dX1_requireLeft_11 : decode cX1_requireLeft 11 = .ok (.dup, 1) := by decide +kernel
theorem dX1_requireLeft_12 : decode cX1_requireLeft 12 = .ok (.ldc 187, 2) := by decide +kernel
theorem dX1_requireLeft_14 : decode cX1_requireLeft 14 = .ok (.invokespecial 61, 3) := by decide +kernel
theorem dX1_requireLeft_17 : decode cX1_requireLeft 17 = .ok (.athrow, 1) := by decide +kernel
theorem dX1_requireLeft_18 : decode cX1_requireLeft 18 = .ok (.return_, 1) := by decide +kernel
theorem dX1_requireHeld_0 : decode cX1_requireHeld 0 = .ok (.aload_n 0, 1) := by decide +kernel
theorem dX1_requireHeld_1 : decode cX1_requireHeld 1 = .ok (.getfield 9, 3) := by decide +kernel
theorem dX1_requireHeld_4 : decode cX1_requireHeld 4 = .ok (.iload_n 1, 1) := by decide +kernel
theorem dX1_requireHeld_5 : decode cX1_requireHeld 5 = .ok (.iaload, 1) := by decide +kernel
theorem dX1_requireHeld_6 : decode cX1_requireHeld 6 = .ok (.iload_n 2, 1) := by decide +kernel
theorem dX1_requireHeld_7 : decode cX1_requireHeld 7 = .ok (.if_icmp .ge 13, 3) := by decide +kernel
theorem dX1_requireHeld_10 : decode cX1_requireHeld 10 = .ok (.new 57, 3) := by decide +kernel
theorem dX1_requireHeld_13 : decode cX1_requireHeld 13 = .ok (.dup, 1) := by decide +kernel
theorem dX1_requireHeld_14 : decode cX1_requireHeld 14 = .ok (.ldc 189, 2) := by decide +kernel
theorem dX1_requireHeld_16 : decode cX1_requireHeld 16 = .ok (.invokespecial 61, 3) := by decide +kernel
theorem dX1_requireHeld_19 : decode cX1_requireHeld 19 = .ok (.athrow, 1) := by decide +kernel
theorem dX1_requireHeld_20 : decode cX1_requireHeld 20 = .ok (.return_, 1) := by decide +kernel
theorem dX1_sizeNow_0 : decode cX1_sizeNow 0 = .ok (.aload_n 0, 1) := by decide +kernel
theorem dX1_sizeNow_1 : decode cX1_sizeNow 1 = .ok (.getfield 111, 3) := by decide +kernel
theorem dX1_sizeNow_4 : decode cX1_sizeNow 4 = .ok (.iconst 3, 1) := by decide +kernel
theorem dX1_sizeNow_5 : decode cX1_sizeNow 5 = .ok (.aload_n 0, 1) := by decide +kernel
theorem dX1_sizeNow_6 : decode cX1_sizeNow 6 = .ok (.getfield 89, 3) := by decide +kernel
theorem dX1_sizeNow_9 : decode cX1_sizeNow 9 = .ok (.imul, 1) := by decide +kernel
theorem dX1_sizeNow_10 : decode cX1_sizeNow 10 = .ok (.iadd, 1) := by decide +kernel
theorem dX1_sizeNow_11 : decode cX1_sizeNow 11 = .ok (.ireturn, 1) := by decide +kernel
theorem dX1_tilesLeft_0 : decode cX1_tilesLeft 0 = .ok (.iconst 4, 1) := by decide +kernel
theorem dX1_tilesLeft_1 : decode cX1_tilesLeft 1 = .ok (.aload_n 0, 1) := by decide +kernel
theorem dX1_tilesLeft_2 : decode cX1_tilesLeft 2 = .ok (.getfield 9, 3) := by decide +kernel
theorem dX1_tilesLeft_5 : decode cX1_tilesLeft 5 = .ok (.iload_n 1, 1) := by decide +kernel
theorem dX1_tilesLeft_6 : decode cX1_tilesLeft 6 = .ok (.iaload, 1) := by decide +kernel
theorem dX1_tilesLeft_7 : decode cX1_tilesLeft 7 = .ok (.isub, 1) := by decide +kernel
theorem dX1_tilesLeft_8 : decode cX1_tilesLeft 8 = .ok (.aload_n 0, 1) := by decide +kernel
theorem dX1_tilesLeft_9 : decode cX1_tilesLeft 9 = .ok (.getfield 13, 3) := by decide +kernel
theorem dX1_tilesLeft_12 : decode cX1_tilesLeft 12 = .ok (.iload_n 1, 1) := by decide +kernel
theorem dX1_tilesLeft_13 : decode cX1_tilesLeft 13 = .ok (.iaload, 1) := by decide +kernel
theorem dX1_tilesLeft_14 : decode cX1_tilesLeft 14 = .ok (.isub, 1) := by decide +kernel
theorem dX1_tilesLeft_15 : decode cX1_tilesLeft 15 = .ok (.aload_n 0, 1) := by decide +kernel
theorem dX1_tilesLeft_16 : decode cX1_tilesLeft 16 = .ok (.getfield 16, 3) := by decide +kernel
theorem dX1_tilesLeft_19 : decode cX1_tilesLeft 19 = .ok (.iload_n 1, 1) := by decide +kernel
theorem dX1_tilesLeft_20 : decode cX1_tilesLeft 20 = .ok (.iaload, 1) := by decide +kernel
theorem dX1_tilesLeft_21 : decode cX1_tilesLeft 21 = .ok (.isub, 1) := by decide +kernel
theorem dX1_tilesLeft_22 : decode cX1_tilesLeft 22 = .ok (.ireturn, 1) := by decide +kernel
theorem dX1_addTiles_0 : decode cX1_addTiles 0 = .ok (.aload_n 0, 1) := by decide +kernel
theorem dX1_addTiles_1 : decode cX1_addTiles 1 = .ok (.getfield 9, 3) := by decide +kernel
theorem dX1_addTiles_4 : decode cX1_addTiles 4 = .ok (.iload_n 1, 1) := by decide +kernel
theorem dX1_addTiles_5 : decode cX1_addTiles 5 = .ok (.dup2, 1) := by decide +kernel
theorem dX1_addTiles_6 : decode cX1_addTiles 6 = .ok (.iaload, 1) := by decide +kernel
theorem dX1_addTiles_7 : decode cX1_addTiles 7 = .ok (.iload_n 2, 1) := by decide +kernel
theorem dX1_addTiles_8 : decode cX1_addTiles 8 = .ok (.iadd, 1) := by decide +kernel
theorem dX1_addTiles_9 : decode cX1_addTiles 9 = .ok (.iastore, 1) := by decide +kernel
theorem dX1_addTiles_10 : decode cX1_addTiles 10 = .ok (.aload_n 0, 1) := by decide +kernel
theorem dX1_addTiles_11 : decode cX1_addTiles 11 = .ok (.dup, 1) := by decide +kernel
theorem dX1_addTiles_12 : decode cX1_addTiles 12 = .ok (.getfield 111, 3) := by decide +kernel
theorem dX1_addTiles_15 : decode cX1_addTiles 15 = .ok (.iload_n 2, 1) := by decide +kernel
theorem dX1_addTiles_16 : decode cX1_addTiles 16 = .ok (.iadd, 1) := by decide +kernel
theorem dX1_addTiles_17 : decode cX1_addTiles 17 = .ok (.putfield 111, 3) := by decide +kernel
theorem dX1_addTiles_20 : decode cX1_addTiles 20 = .ok (.return_, 1) := by decide +kernel
theorem dX1_hasOpenMeld_0 : decode cX1_hasOpenMeld 0 = .ok (.iconst 0, 1) := by decide +kernel
theorem dX1_hasOpenMeld_1 : decode cX1_hasOpenMeld 1 = .ok (.istore_n 1, 1) := by decide +kernel
theorem dX1_hasOpenMeld_2 : decode cX1_hasOpenMeld 2 = .ok (.iload_n 1, 1) := by decide +kernel
theorem dX1_hasOpenMeld_3 : decode cX1_hasOpenMeld 3 = .ok (.aload_n 0, 1) := by decide +kernel
theorem dX1_hasOpenMeld_4 : decode cX1_hasOpenMeld 4 = .ok (.getfield 89, 3) := by decide +kernel
theorem dX1_hasOpenMeld_7 : decode cX1_hasOpenMeld 7 = .ok (.if_icmp .ge 25, 3) := by decide +kernel
theorem dX1_hasOpenMeld_10 : decode cX1_hasOpenMeld 10 = .ok (.iload_n 1, 1) := by decide +kernel
theorem dX1_hasOpenMeld_11 : decode cX1_hasOpenMeld 11 = .ok (.iconst 4, 1) := by decide +kernel
theorem dX1_hasOpenMeld_12 : decode cX1_hasOpenMeld 12 = .ok (.if_icmp .ge 20, 3) := by decide +kernel
theorem dX1_hasOpenMeld_15 : decode cX1_hasOpenMeld 15 = .ok (.aload_n 0, 1) := by decide +kernel
theorem dX1_hasOpenMeld_16 : decode cX1_hasOpenMeld 16 = .ok (.getfield 25, 3) := by decide +kernel
theorem dX1_hasOpenMeld_19 : decode cX1_hasOpenMeld 19 = .ok (.iload_n 1, 1) := by decide +kernel
theorem dX1_hasOpenMeld_20 : decode cX1_hasOpenMeld 20 = .ok (.baload, 1) := by decide +kernel
theorem dX1_hasOpenMeld_21 : decode cX1_hasOpenMeld 21 = .ok (.ifCond .eq 5, 3) := by decide +kernel
theorem dX1_hasOpenMeld_24 : decode cX1_hasOpenMeld 24 = .ok (.iconst 1, 1) := by decide +kernel
theorem dX1_hasOpenMeld_25 : decode cX1_hasOpenMeld 25 = .ok (.ireturn, 1) := by decide +kernel
theorem dX1_hasOpenMeld_26 : decode cX1_hasOpenMeld 26 = .ok (.iinc 1 1, 3) := by decide +kernel
theorem dX1_hasOpenMeld_29 : decode cX1_hasOpenMeld 29 = .ok (.goto (-27), 3) := by decide +kernel
theorem dX1_hasOpenMeld_32 : decode cX1_hasOpenMeld 32 = .ok (.iconst 0, 1) := by decide +kernel
theorem dX1_hasOpenMeld_33 : decode cX1_hasOpenMeld 33 = .ok (.ireturn, 1) := by decide +kernel
theorem dX1_heldByPairs_0 : decode cX1_heldByPairs 0 = .ok (.iconst 0, 1) := by decide +kernel
theorem dX1_heldByPairs_1 : decode cX1_heldByPairs 1 = .ok (.istore_n 1, 1) := by decide +kernel
theorem dX1_heldByPairs_2 : decode cX1_heldByPairs 2 = .ok (.iconst 0, 1) := by decide +kernel
theorem dX1_heldByPairs_3 : decode cX1_heldByPairs 3 = .ok (.istore_n 2, 1) := by decide +kernel
theorem dX1_heldByPairs_4 : decode cX1_heldByPairs 4 = .ok (.iconst 0, 1) := by decide +kernel
theorem dX1_heldByPairs_5 : decode cX1_heldByPairs 5 = .ok (.istore_n 3, 1) := by decide +kernel
theorem dX1_heldByPairs_6 : decode cX1_heldByPairs 6 = .ok (.iload_n 3, 1) := by decide +kernel
theorem dX1_heldByPairs_7 : decode cX1_heldByPairs 7 = .ok (.bipush 34, 2) := by decide +kernel
theorem dX1_heldByPairs_9 : decode cX1_heldByPairs 9 = .ok (.if_icmp .ge 38, 3) := by decide +kernel
theorem dX1_heldByPairs_12 : decode cX1_heldByPairs 12 = .ok (.aload_n 0, 1) := by decide +kernel
theorem dX1_heldByPairs_13 : decode cX1_heldByPairs 13 = .ok (.getfield 9, 3) := by decide +kernel
theorem dX1_heldByPairs_16 : decode cX1_heldByPairs 16 = .ok (.iload_n 3, 1) := by decide +kernel
theorem dX1_heldByPairs_17 : decode cX1_heldByPairs 17 = .ok (.iaload, 1) := by decide +kernel
theorem dX1_heldByPairs_18 : decode cX1_heldByPairs 18 = .ok (.iconst 2, 1) := by decide +kernel
theorem dX1_heldByPairs_19 : decode cX1_heldByPairs 19 = .ok (.if_icmp .lt 9, 3) := by decide +kernel
theorem dX1_heldByPairs_22 : decode cX1_heldByPairs 22 = .ok (.iinc 1 1, 3) := by decide +kernel
theorem dX1_heldByPairs_25 : decode cX1_heldByPairs 25 = .ok (.goto 16, 3) := by decide +kernel
theorem dX1_heldByPairs_28 : decode cX1_heldByPairs 28 = .ok (.aload_n 0, 1) := by decide +kernel
theorem dX1_heldByPairs_29 : decode cX1_heldByPairs 29 = .ok (.getfield 9, 3) := by decide +kernel
theorem dX1_heldByPairs_32 : decode cX1_heldByPairs 32 = .ok (.iload_n 3, 1) := by decide +kernel
theorem dX1_heldByPairs_33 : decode cX1_heldByPairs 33 = .ok (.iaload, 1) := by decide +kernel
theorem dX1_heldByPairs_34 : decode cX1_heldByPairs 34 = .ok (.iconst 1, 1) := by decide +kernel
theorem dX1_heldByPairs_35 : decode cX1_heldByPairs 35 = .ok (.if_icmp .ne 6, 3) := by decide +kernel
theorem dX1_heldByPairs_38 : decode cX1_heldByPairs 38 = .ok (.iinc 2 1, 3) := by decide +kernel
theorem dX1_heldByPairs_41 : decode cX1_heldByPairs 41 = .ok (.iinc 3 1, 3) := by decide +kernel
theorem dX1_heldByPairs_44 : decode cX1_heldByPairs 44 = .ok (.goto (-38), 3) := by decide +kernel
theorem dX1_heldByPairs_47 : decode cX1_heldByPairs 47 = .ok (.iload_n 1, 1) := by decide +kernel
theorem dX1_heldByPairs_48 : decode cX1_heldByPairs 48 = .ok (.bipush 7, 2) := by decide +kernel
theorem dX1_heldByPairs_50 : decode cX1_heldByPairs 50 = .ok (.invokestatic 143, 3) := by decide +kernel
theorem dX1_heldByPairs_53 : decode cX1_heldByPairs 53 = .ok (.istore_n 1, 1) := by decide +kernel
theorem dX1_heldByPairs_54 : decode cX1_heldByPairs 54 = .ok (.iconst 2, 1) := by decide +kernel
theorem dX1_heldByPairs_55 : decode cX1_heldByPairs 55 = .ok (.iload_n 1, 1) := by decide +kernel
theorem dX1_heldByPairs_56 : decode cX1_heldByPairs 56 = .ok (.imul, 1) := by decide +kernel
theorem dX1_heldByPairs_57 : decode cX1_heldByPairs 57 = .ok (.iload_n 2, 1) := by decide +kernel
theorem dX1_heldByPairs_58 : decode cX1_heldByPairs 58 = .ok (.bipush 7, 2) := by decide +kernel
theorem dX1_heldByPairs_60 : decode cX1_heldByPairs 60 = .ok (.iload_n 1, 1) := by decide +kernel
theorem dX1_heldByPairs_61 : decode cX1_heldByPairs 61 = .ok (.isub, 1) := by decide +kernel
theorem dX1_heldByPairs_62 : decode cX1_heldByPairs 62 = .ok (.invokestatic 143, 3) := by decide +kernel
theorem dX1_heldByPairs_65 : decode cX1_heldByPairs 65 = .ok (.iadd, 1) := by decide +kernel
theorem dX1_heldByPairs_66 : decode cX1_heldByPairs 66 = .ok (.ireturn, 1) := by decide +kernel
set_option maxRecDepth 20000 in
theorem ggX1_heldByOrphans_X1_isEnd : GoodIn wsX1_heldByOrphans wsX1_isEnd := goodIn_r _ [5, 6, 7, 4, 8] (by decide +kernel) (by decide +kernel)
set_option maxRecDepth 20000 in
theorem gX1_heldByOrphans_X1_isEnd : GoodIn wsX1_heldByOrphans (va_wsS RX1 191 yX1_isEnd wsX1_isEnd) := goodIn_app (goodIn_of _ (by decide +kernel)) ggX1_heldByOrphans_X1_isEnd
set_option maxRecDepth 20000 in
theorem ggX1_heldByOrphans_X1_isHonour : GoodIn wsX1_heldByOrphans wsX1_isHonour := goodIn_r _ [8] (by decide +kernel) (by decide +kernel)
set_option maxRecDepth 20000 in
theorem gX1_heldByOrphans_X1_isHonour : GoodIn wsX1_heldByOrphans (va_wsS RX1 179 yX1_isHonour wsX1_isHonour) := goodIn_app (goodIn_of _ (by decide +kernel)) ggX1_heldByOrphans_X1_isHonour
theorem dX1_heldByOrphans_0 : decode cX1_heldByOrphans 0 = .ok (.iconst 0, 1) := by decide +kernel
theorem dX1_heldByOrphans_1 : decode cX1_heldByOrphans 1 = .ok (.istore_n 1, 1) := by decide +kernel
theorem dX1_heldByOrphans_2 : decode cX1_heldByOrphans 2 = .ok (.iconst 0, 1) := by decide +kernel
theorem dX1_heldByOrphans_3 : decode cX1_heldByOrphans 3 = .ok (.istore_n 2, 1) := by decide +kernel
theorem dX1_heldByOrphans_4 : decode cX1_heldByOrphans 4 = .ok (.iconst 0, 1) := by decide +kernel
theorem dX1_heldByOrphans_5 : decode cX1_heldByOrphans 5 = .ok (.istore_n 3, 1) := by decide +kernel
theorem dX1_heldByOrphans_6 : decode cX1_heldByOrphans 6 = .ok (.iload_n 3, 1) := by decide +kernel
theorem dX1_heldByOrphans_7 : decode cX1_heldByOrphans 7 = .ok (.bipush 34, 2) := by decide +kernel
theorem dX1_heldByOrphans_9 : decode cX1_heldByOrphans 9 = .ok (.if_icmp .ge 47, 3) := by decide +kernel
theorem dX1_heldByOrphans_12 : decode cX1_heldByOrphans 12 = .ok (.iload_n 3, 1) := by decide +kernel
theorem dX1_heldByOrphans_13 : decode cX1_heldByOrphans 13 = .ok (.invokestatic 191, 3) := by decide +kernel
theorem dX1_heldByOrphans_16 : decode cX1_heldByOrphans 16 = .ok (.ifCond .ne 10, 3) := by decide +kernel
theorem dX1_heldByOrphans_19 : decode cX1_heldByOrphans 19 = .ok (.iload_n 3, 1) := by decide +kernel
theorem dX1_heldByOrphans_20 : decode cX1_heldByOrphans 20 = .ok (.invokestatic 179, 3) := by decide +kernel
theorem dX1_heldByOrphans_23 : decode cX1_heldByOrphans 23 = .ok (.ifCond .eq 27, 3) := by decide +kernel
theorem dX1_heldByOrphans_26 : decode cX1_heldByOrphans 26 = .ok (.aload_n 0, 1) := by decide +kernel
theorem dX1_heldByOrphans_27 : decode cX1_heldByOrphans 27 = .ok (.getfield 9, 3) := by decide +kernel
theorem dX1_heldByOrphans_30 : decode cX1_heldByOrphans 30 = .ok (.iload_n 3, 1) := by decide +kernel
theorem dX1_heldByOrphans_31 : decode cX1_heldByOrphans 31 = .ok (.iaload, 1) := by decide +kernel
theorem dX1_heldByOrphans_32 : decode cX1_heldByOrphans 32 = .ok (.ifCond .le 6, 3) := by decide +kernel
theorem dX1_heldByOrphans_35 : decode cX1_heldByOrphans 35 = .ok (.iinc 1 1, 3) := by decide +kernel
theorem dX1_heldByOrphans_38 : decode cX1_heldByOrphans 38 = .ok (.aload_n 0, 1) := by decide +kernel
theorem dX1_heldByOrphans_39 : decode cX1_heldByOrphans 39 = .ok (.getfield 9, 3) := by decide +kernel
theorem dX1_heldByOrphans_42 : decode cX1_heldByOrphans 42 = .ok (.iload_n 3, 1) := by decide +kernel
theorem dX1_heldByOrphans_43 : decode cX1_heldByOrphans 43 = .ok (.iaload, 1) := by decide +kernel
theorem dX1_heldByOrphans_44 : decode cX1_heldByOrphans 44 = .ok (.iconst 1, 1) := by decide +kernel
theorem dX1_heldByOrphans_45 : decode cX1_heldByOrphans 45 = .ok (.if_icmp .le 5, 3) := by decide +kernel
theorem dX1_heldByOrphans_48 : decode cX1_heldByOrphans 48 = .ok (.iconst 1, 1) := by decide +kernel
theorem dX1_heldByOrphans_49 : decode cX1_heldByOrphans 49 = .ok (.istore_n 2, 1) := by decide +kernel
theorem dX1_heldByOrphans_50 : decode cX1_heldByOrphans 50 = .ok (.iinc 3 1, 3) := by decide +kernel
theorem dX1_heldByOrphans_53 : decode cX1_heldByOrphans 53 = .ok (.goto (-47), 3) := by decide +kernel
theorem dX1_heldByOrphans_56 : decode cX1_heldByOrphans 56 = .ok (.iload_n 1, 1) := by decide +kernel
theorem dX1_heldByOrphans_57 : decode cX1_heldByOrphans 57 = .ok (.iload_n 2, 1) := by decide +kernel
theorem dX1_heldByOrphans_58 : decode cX1_heldByOrphans 58 = .ok (.iadd, 1) := by decide +kernel
theorem dX1_heldByOrphans_59 : decode cX1_heldByOrphans 59 = .ok (.ireturn, 1) := by decide +kernel
set_option maxRecDepth 20000 in
theorem ggX1_bestArrangement_X1_sizeNow : GoodIn wsX1_bestArrangement wsX1_sizeNow := goodIn_r _ [10, 11, 1, 73, 74, 75, 76, 77, 78, 79, 80, 81, 82, 83, 84, 85] (by decide +kernel) (by decide +kernel)
set_option maxRecDepth 20000 in
theorem gX1_bestArrangement_X1_sizeNow : GoodIn wsX1_bestArrangement (wsV RX1 53 RX1 yX1_sizeNow wsX1_sizeNow) := goodIn_app (goodIn_of _ (by decide +kernel)) ggX1_bestArrangement_X1_sizeNow
set_option maxRecDepth 20000 in
theorem ggX1_bestArrangement_X1_bestOfGroups : GoodIn wsX1_bestArrangement wsX1_bestOfGroups := goodIn_r _ [15, 16, 1, 2, 3, 4, 5, 17, 18, 19, 9, 20, 21, 22, 23, 24, 25, 26, 27, 28, 29, 30, 31, 32, 33, 34, 35, 36, 37, 38, 39, 40, 41, 42, 43, 44, 45, 46, 47, 48, 49, 50, 51, 52, 53, 54, 55, 73, 74, 75, 76, 77, 78, 79, 80, 81, 82, 83, 84, 85] (by decide +kernel) (by decide +kernel)
set_option maxRecDepth 20000 in
theorem gX1_bestArrangement_X1_bestOfGroups : GoodIn wsX1_bestArrangement (wsV RX1 194 RX1 yX1_bestOfGroups wsX1_bestOfGroups) := goodIn_app (goodIn_of _ (by decide +kernel)) ggX1_bestArrangement_X1_bestOfGroups
set_option maxRecDepth 20000 in
theorem ggX1_bestArrangement_X1_heldByPairs : GoodIn wsX1_bestArrangement wsX1_heldByPairs := goodIn_r _ [59, 16, 60, 61, 4, 62, 73, 74, 75, 76, 77, 78, 79, 80, 81, 82, 83, 84, 85] (by decide +kernel) (by decide +kernel)
set_option maxRecDepth 20000 in
theorem gX1_bestArrangement_X1_heldByPairs : GoodIn wsX1_bestArrangement (wsV RX1 140 RX1 yX1_heldByPairs wsX1_heldByPairs) := goodIn_app (goodIn_of _ (by decide +kernel)) ggX1_bestArrangement_X1_heldByPairs
set_option maxRecDepth 20000 in
theorem ggX1_bestArrangement_X1_heldByOrphans : GoodIn wsX1_bestArrangement wsX1_heldByOrphans := goodIn_r _ [66, 16, 67, 68, 9, 69, 70, 71, 72, 73, 74, 75, 76, 77, 78, 79, 80, 81, 82, 83, 84, 85] (by decide +kernel) (by decide +kernel)
set_option maxRecDepth 20000 in
theorem gX1_bestArrangement_X1_heldByOrphans : GoodIn wsX1_bestArrangement (wsV RX1 148 RX1 yX1_heldByOrphans wsX1_heldByOrphans) := goodIn_app (goodIn_of _ (by decide +kernel)) ggX1_bestArrangement_X1_heldByOrphans
theorem dX1_bestArrangement_0 : decode cX1_bestArrangement 0 = .ok (.aload_n 0, 1) := by decide +kernel
theorem dX1_bestArrangement_1 : decode cX1_bestArrangement 1 = .ok (.invokevirtual 53, 3) := by decide +kernel
theorem dX1_bestArrangement_4 : decode cX1_bestArrangement 4 = .ok (.bipush 14, 2) := by decide +kernel
theorem dX1_bestArrangement_6 : decode cX1_bestArrangement 6 = .ok (.if_icmp .eq 5, 3) := by decide +kernel
theorem dX1_bestArrangement_9 : decode cX1_bestArrangement 9 = .ok (.iconst (-1), 1) := by decide +kernel
theorem dX1_bestArrangement_10 : decode cX1_bestArrangement 10 = .ok (.ireturn, 1) := by decide +kernel
theorem dX1_bestArrangement_11 : decode cX1_bestArrangement 11 = .ok (.aload_n 0, 1) := by decide +kernel
theorem dX1_bestArrangement_12 : decode cX1_bestArrangement 12 = .ok (.invokevirtual 194, 3) := by decide +kernel
theorem dX1_bestArrangement_15 : decode cX1_bestArrangement 15 = .ok (.istore_n 1, 1) := by decide +kernel
theorem dX1_bestArrangement_16 : decode cX1_bestArrangement 16 = .ok (.aload_n 0, 1) := by decide +kernel
theorem dX1_bestArrangement_17 : decode cX1_bestArrangement 17 = .ok (.getfield 89, 3) := by decide +kernel
theorem dX1_bestArrangement_20 : decode cX1_bestArrangement 20 = .ok (.ifCond .ne 18, 3) := by decide +kernel
theorem dX1_bestArrangement_23 : decode cX1_bestArrangement 23 = .ok (.aload_n 0, 1) := by decide +kernel
theorem dX1_bestArrangement_24 : decode cX1_bestArrangement 24 = .ok (.invokevirtual 140, 3) := by decide +kernel
theorem dX1_bestArrangement_27 : decode cX1_bestArrangement 27 = .ok (.bipush 14, 2) := by decide +kernel
theorem dX1_bestArrangement_29 : decode cX1_bestArrangement 29 = .ok (.if_icmp .ne 9, 3) := by decide +kernel
theorem dX1_bestArrangement_32 : decode cX1_bestArrangement 32 = .ok (.iload_n 1, 1) := by decide +kernel
theorem dX1_bestArrangement_33 : decode cX1_bestArrangement 33 = .ok (.iconst 2, 1) := by decide +kernel
theorem dX1_bestArrangement_34 : decode cX1_bestArrangement 34 = .ok (.invokestatic 197, 3) := by decide +kernel
theorem dX1_bestArrangement_37 : decode cX1_bestArrangement 37 = .ok (.istore_n 1, 1) := by decide +kernel
theorem dX1_bestArrangement_38 : decode cX1_bestArrangement 38 = .ok (.aload_n 0, 1) := by decide +kernel
theorem dX1_bestArrangement_39 : decode cX1_bestArrangement 39 = .ok (.getfield 89, 3) := by decide +kernel
theorem dX1_bestArrangement_42 : decode cX1_bestArrangement 42 = .ok (.ifCond .ne 19, 3) := by decide +kernel
theorem dX1_bestArrangement_45 : decode cX1_bestArrangement 45 = .ok (.aload_n 0, 1) := by decide +kernel
theorem dX1_bestArrangement_46 : decode cX1_bestArrangement 46 = .ok (.invokevirtual 148, 3) := by decide +kernel
theorem dX1_bestArrangement_49 : decode cX1_bestArrangement 49 = .ok (.bipush 14, 2) := by decide +kernel
theorem dX1_bestArrangement_51 : decode cX1_bestArrangement 51 = .ok (.if_icmp .ne 10, 3) := by decide +kernel
theorem dX1_bestArrangement_54 : decode cX1_bestArrangement 54 = .ok (.iload_n 1, 1) := by decide +kernel
theorem dX1_bestArrangement_55 : decode cX1_bestArrangement 55 = .ok (.bipush 13, 2) := by decide +kernel
theorem dX1_bestArrangement_57 : decode cX1_bestArrangement 57 = .ok (.invokestatic 197, 3) := by decide +kernel
theorem dX1_bestArrangement_60 : decode cX1_bestArrangement 60 = .ok (.istore_n 1, 1) := by decide +kernel
theorem dX1_bestArrangement_61 : decode cX1_bestArrangement 61 = .ok (.iload_n 1, 1) := by decide +kernel
theorem dX1_bestArrangement_62 : decode cX1_bestArrangement 62 = .ok (.ireturn, 1) := by decide +kernel
set_option maxRecDepth 20000 in
theorem ggX1_bestOfGroups_X1_bestSplit : GoodIn wsX1_bestOfGroups wsX1_bestSplit := goodIn_r _ [11, 3, 4, 5, 6, 12, 13, 14, 10, 15, 1, 16, 17, 18, 19, 20, 21, 22, 23, 24, 25, 2, 26, 27, 28, 29, 30, 31, 32, 33, 34, 35, 36, 37, 38, 39, 40, 41, 42, 43, 44, 45, 7, 8, 9, 46, 47, 48, 49, 50, 51, 52, 53, 54, 55, 56, 57, 58, 59] (by decide +kernel) (by decide +kernel)
set_option maxRecDepth 20000 in
theorem gX1_bestOfGroups_X1_bestSplit : GoodIn wsX1_bestOfGroups (wsV RX1 200 RX1 yX1_bestSplit wsX1_bestSplit) := goodIn_app (goodIn_of _ (by decide +kernel)) ggX1_bestOfGroups_X1_bestSplit
theorem dX1_bestOfGroups_0 : decode cX1_bestOfGroups 0 = .ok (.iconst (-1), 1) := by decide +kernel
theorem dX1_bestOfGroups_1 : decode cX1_bestOfGroups 1 = .ok (.istore_n 1, 1) := by decide +kernel
theorem dX1_bestOfGroups_2 : decode cX1_bestOfGroups 2 = .ok (.iconst 0, 1) := by decide +kernel
theorem dX1_bestOfGroups_3 : decode cX1_bestOfGroups 3 = .ok (.istore_n 2, 1) := by decide +kernel
theorem dX1_bestOfGroups_4 : decode cX1_bestOfGroups 4 = .ok (.iload_n 2, 1) := by decide +kernel
theorem dX1_bestOfGroups_5 : decode cX1_bestOfGroups 5 = .ok (.bipush 34, 2) := by decide +kernel
theorem dX1_bestOfGroups_7 : decode cX1_bestOfGroups 7 = .ok (.if_icmp .ge 54, 3) := by decide +kernel
theorem dX1_bestOfGroups_10 : decode cX1_bestOfGroups 10 = .ok (.aload_n 0, 1) := by decide +kernel
theorem dX1_bestOfGroups_11 : decode cX1_bestOfGroups 11 = .ok (.getfield 9, 3) := by decide +kernel
theorem dX1_bestOfGroups_14 : decode cX1_bestOfGroups 14 = .ok (.iload_n 2, 1) := by decide +kernel
theorem dX1_bestOfGroups_15 : decode cX1_bestOfGroups 15 = .ok (.iaload, 1) := by decide +kernel
theorem dX1_bestOfGroups_16 : decode cX1_bestOfGroups 16 = .ok (.iconst 2, 1) := by decide +kernel
theorem dX1_bestOfGroups_17 : decode cX1_bestOfGroups 17 = .ok (.if_icmp .lt 38, 3) := by decide +kernel
theorem dX1_bestOfGroups_20 : decode cX1_bestOfGroups 20 = .ok (.aload_n 0, 1) := by decide +kernel
theorem dX1_bestOfGroups_21 : decode cX1_bestOfGroups 21 = .ok (.getfield 9, 3) := by decide +kernel
theorem dX1_bestOfGroups_24 : decode cX1_bestOfGroups 24 = .ok (.iload_n 2, 1) := by decide +kernel
theorem dX1_bestOfGroups_25 : decode cX1_bestOfGroups 25 = .ok (.dup2, 1) := by decide +kernel
theorem dX1_bestOfGroups_26 : decode cX1_bestOfGroups 26 = .ok (.iaload, 1) := by decide +kernel
theorem dX1_bestOfGroups_27 : decode cX1_bestOfGroups 27 = .ok (.iconst 2, 1) := by decide +kernel
theorem dX1_bestOfGroups_28 : decode cX1_bestOfGroups 28 = .ok (.isub, 1) := by decide +kernel
theorem dX1_bestOfGroups_29 : decode cX1_bestOfGroups 29 = .ok (.iastore, 1) := by decide +kernel
theorem dX1_bestOfGroups_30 : decode cX1_bestOfGroups 30 = .ok (.iload_n 1, 1) := by decide +kernel
theorem dX1_bestOfGroups_31 : decode cX1_bestOfGroups 31 = .ok (.aload_n 0, 1) := by decide +kernel
theorem dX1_bestOfGroups_32 : decode cX1_bestOfGroups 32 = .ok (.iload_n 2, 1) := by decide +kernel
theorem dX1_bestOfGroups_33 : decode cX1_bestOfGroups 33 = .ok (.iconst 0, 1) := by decide +kernel
theorem dX1_bestOfGroups_34 : decode cX1_bestOfGroups 34 = .ok (.aload_n 0, 1) := by decide +kernel
theorem dX1_bestOfGroups_35 : decode cX1_bestOfGroups 35 = .ok (.getfield 89, 3) := by decide +kernel
theorem dX1_bestOfGroups_38 : decode cX1_bestOfGroups 38 = .ok (.invokevirtual 200, 3) := by decide +kernel
theorem dX1_bestOfGroups_41 : decode cX1_bestOfGroups 41 = .ok (.invokestatic 197, 3) := by decide +kernel
theorem dX1_bestOfGroups_44 : decode cX1_bestOfGroups 44 = .ok (.istore_n 1, 1) := by decide +kernel
theorem dX1_bestOfGroups_45 : decode cX1_bestOfGroups 45 = .ok (.aload_n 0, 1) := by decide +kernel
theorem dX1_bestOfGroups_46 : decode cX1_bestOfGroups 46 = .ok (.getfield 9, 3) := by decide +kernel
theorem dX1_bestOfGroups_49 : decode cX1_bestOfGroups 49 = .ok (.iload_n 2, 1) := by decide +kernel
theorem dX1_bestOfGroups_50 : decode cX1_bestOfGroups 50 = .ok (.dup2, 1) := by decide +kernel
theorem dX1_bestOfGroups_51 : decode cX1_bestOfGroups 51 = .ok (.iaload, 1) := by decide +kernel
theorem dX1_bestOfGroups_52 : decode cX1_bestOfGroups 52 = .ok (.iconst 2, 1) := by decide +kernel
theorem dX1_bestOfGroups_53 : decode cX1_bestOfGroups 53 = .ok (.iadd, 1) := by decide +kernel
theorem dX1_bestOfGroups_54 : decode cX1_bestOfGroups 54 = .ok (.iastore, 1) := by decide +kernel
theorem dX1_bestOfGroups_55 : decode cX1_bestOfGroups 55 = .ok (.iinc 2 1, 3) := by decide +kernel
theorem dX1_bestOfGroups_58 : decode cX1_bestOfGroups 58 = .ok (.goto (-54), 3) := by decide +kernel
theorem dX1_bestOfGroups_61 : decode cX1_bestOfGroups 61 = .ok (.iload_n 1, 1) := by decide +kernel
theorem dX1_bestOfGroups_62 : decode cX1_bestOfGroups 62 = .ok (.ireturn, 1) := by decide +kernel
set_option maxRecDepth 20000 in
theorem ggX1_bestSplit_X1_firstHeld : GoodIn wsX1_bestSplit wsX1_firstHeld := goodIn_r _ [9, 10, 46, 47, 48, 49, 50, 51, 52, 53, 54, 55, 56, 57, 58] (by decide +kernel) (by decide +kernel)
set_option maxRecDepth 20000 in
theorem gX1_bestSplit_X1_firstHeld : GoodIn wsX1_bestSplit (wsV RX1 204 RX1 yX1_firstHeld wsX1_firstHeld) := goodIn_app (goodIn_of _ (by decide +kernel)) ggX1_bestSplit_X1_firstHeld
set_option maxRecDepth 20000 in
theorem ggX1_bestSplit_X1_fansOfSets : GoodIn wsX1_bestSplit wsX1_fansOfSets := goodIn_r _ [14, 15, 16, 17, 18, 19, 8, 20, 21, 22, 23, 24, 25, 26, 27, 46, 47, 48, 49, 50, 51, 52, 53, 54, 55, 56, 57, 58] (by decide +kernel) (by decide +kernel)
set_option maxRecDepth 20000 in
theorem gX1_bestSplit_X1_fansOfSets : GoodIn wsX1_bestSplit (wsV RX1 207 RX1 yX1_fansOfSets wsX1_fansOfSets) := goodIn_app (goodIn_of _ (by decide +kernel)) ggX1_bestSplit_X1_fansOfSets
set_option maxRecDepth 20000 in
theorem ggX1_bestSplit_X1_splitWithThree : GoodIn wsX1_bestSplit wsX1_splitWithThree := goodIn_r _ [45, 10, 15, 16, 42, 43, 44, 8, 0, 1, 2, 3, 4, 5, 6, 7, 9, 11, 12, 13, 14, 17, 18, 19, 20, 21, 22, 23, 24, 25, 26, 27, 28, 29, 30, 31, 32, 33, 34, 35, 36, 37, 38, 39, 40, 41, 46, 47, 48, 49, 50, 51, 52, 53, 54, 55, 56, 57, 58] (by decide +kernel) (by decide +kernel)
set_option maxRecDepth 20000 in
theorem gX1_bestSplit_X1_splitWithThree : GoodIn wsX1_bestSplit (wsV RX1 210 RX1 yX1_splitWithThree wsX1_splitWithThree) := goodIn_app (goodIn_of _ (by decide +kernel)) ggX1_bestSplit_X1_splitWithThree
set_option maxRecDepth 20000 in
theorem ggX1_bestSplit_X1_splitWithRow : GoodIn wsX1_bestSplit wsX1_splitWithRow := goodIn_r _ [34, 10, 15, 16, 35, 36, 8, 37, 38, 39, 40, 41, 42, 43, 44, 0, 1, 2, 3, 4, 5, 6, 7, 9, 11, 12, 13, 14, 17, 18, 19, 20, 21, 22, 23, 24, 25, 26, 27, 28, 29, 30, 31, 32, 33, 45, 46, 47, 48, 49, 50, 51, 52, 53, 54, 55, 56, 57, 58] (by decide +kernel) (by decide +kernel)
set_option maxRecDepth 20000 in
theorem gX1_bestSplit_X1_splitWithRow : GoodIn wsX1_bestSplit (wsV RX1 213 RX1 yX1_splitWithRow wsX1_splitWithRow) := goodIn_app (goodIn_of _ (by decide +kernel)) ggX1_bestSplit_X1_splitWithRow
theorem dX1_bestSplit_0 : decode cX1_bestSplit 0 = .ok (.aload_n 0, 1) := by decide +kernel
theorem dX1_bestSplit_1 : decode cX1_bestSplit 1 = .ok (.iload_n 2, 1) := by decide +kernel
theorem dX1_bestSplit_2 : decode cX1_bestSplit 2 = .ok (.invokevirtual 204, 3) := by decide +kernel
theorem dX1_bestSplit_5 : decode cX1_bestSplit 5 = .ok (.istore 4, 2) := by decide +kernel
theorem dX1_bestSplit_7 : decode cX1_bestSplit 7 = .ok (.iload 4, 2) := by decide +kernel
theorem dX1_bestSplit_9 : decode cX1_bestSplit 9 = .ok (.bipush 34, 2) := by decide +kernel
theorem dX1_bestSplit_11 : decode cX1_bestSplit 11 = .ok (.if_icmp .ne 18, 3) := by decide +kernel
theorem dX1_bestSplit_14 : decode cX1_bestSplit 14 = .ok (.iload_n 3, 1) := by decide +kernel
theorem dX1_bestSplit_15 : decode cX1_bestSplit 15 = .ok (.iconst 4, 1) := by decide +kernel
theorem dX1_bestSplit_16 : decode cX1_bestSplit 16 = .ok (.if_icmp .ne 11, 3) := by decide +kernel
theorem dX1_bestSplit_19 : decode cX1_bestSplit 19 = .ok (.aload_n 0, 1) := by decide +kernel
theorem dX1_bestSplit_20 : decode cX1_bestSplit 20 = .ok (.iload_n 1, 1) := by decide +kernel
theorem dX1_bestSplit_21 : decode cX1_bestSplit 21 = .ok (.invokevirtual 207, 3) := by decide +kernel
theorem dX1_bestSplit_24 : decode cX1_bestSplit 24 = .ok (.goto 4, 3) := by decide +kernel
theorem dX1_bestSplit_27 : decode cX1_bestSplit 27 = .ok (.iconst (-1), 1) := by decide +kernel
theorem dX1_bestSplit_28 : decode cX1_bestSplit 28 = .ok (.ireturn, 1) := by decide +kernel
theorem dX1_bestSplit_29 : decode cX1_bestSplit 29 = .ok (.iload_n 3, 1) := by decide +kernel
theorem dX1_bestSplit_30 : decode cX1_bestSplit 30 = .ok (.ifCond .lt 8, 3) := by decide +kernel
theorem dX1_bestSplit_33 : decode cX1_bestSplit 33 = .ok (.iload_n 3, 1) := by decide +kernel
theorem dX1_bestSplit_34 : decode cX1_bestSplit 34 = .ok (.iconst 4, 1) := by decide +kernel
theorem dX1_bestSplit_35 : decode cX1_bestSplit 35 = .ok (.if_icmp .lt 5, 3) := by decide +kernel
theorem dX1_bestSplit_38 : decode cX1_bestSplit 38 = .ok (.iconst (-1), 1) := by decide +kernel
theorem dX1_bestSplit_39 : decode cX1_bestSplit 39 = .ok (.ireturn, 1) := by decide +kernel
theorem dX1_bestSplit_40 : decode cX1_bestSplit 40 = .ok (.aload_n 0, 1) := by decide +kernel
theorem dX1_bestSplit_41 : decode cX1_bestSplit 41 = .ok (.iload_n 1, 1) := by decide +kernel
theorem dX1_bestSplit_42 : decode cX1_bestSplit 42 = .ok (.iload 4, 2) := by decide +kernel
theorem dX1_bestSplit_44 : decode cX1_bestSplit 44 = .ok (.iload_n 3, 1) := by decide +kernel
theorem dX1_bestSplit_45 : decode cX1_bestSplit 45 = .ok (.invokevirtual 210, 3) := by decide +kernel
theorem dX1_bestSplit_48 : decode cX1_bestSplit 48 = .ok (.aload_n 0, 1) := by decide +kernel
theorem dX1_bestSplit_49 : decode cX1_bestSplit 49 = .ok (.iload_n 1, 1) := by decide +kernel
theorem dX1_bestSplit_50 : decode cX1_bestSplit 50 = .ok (.iload 4, 2) := by decide +kernel
theorem dX1_bestSplit_52 : decode cX1_bestSplit 52 = .ok (.iload_n 3, 1) := by decide +kernel
theorem dX1_bestSplit_53 : decode cX1_bestSplit 53 = .ok (.invokevirtual 213, 3) := by decide +kernel
theorem dX1_bestSplit_56 : decode cX1_bestSplit 56 = .ok (.invokestatic 197, 3) := by decide +kernel
theorem dX1_bestSplit_59 : decode cX1_bestSplit 59 = .ok (.ireturn, 1) := by decide +kernel
set_option maxRecDepth 20000 in
theorem ggX1_splitWithThree_X1_bestSplit : GoodIn wsX1_splitWithThree wsX1_bestSplit := goodIn_r _ [8, 9, 10, 11, 12, 13, 14, 15, 7, 16, 1, 17, 18, 19, 20, 2, 3, 21, 22, 23, 24, 25, 26, 27, 28, 29, 30, 31, 32, 33, 34, 35, 36, 37, 38, 39, 40, 41, 42, 43, 44, 45, 4, 5, 6, 0, 46, 47, 48, 49, 50, 51, 52, 53, 54, 55, 56, 57, 58] (by decide +kernel) (by decide +kernel)
set_option maxRecDepth 20000 in
theorem gX1_splitWithThree_X1_bestSplit : GoodIn wsX1_splitWithThree (wsV RX1 200 RX1 yX1_bestSplit wsX1_bestSplit) := goodIn_app (goodIn_of _ (by decide +kernel)) ggX1_splitWithThree_X1_bestSplit
theorem dX1_splitWithThree_0 : decode cX1_splitWithThree 0 = .ok (.aload_n 0, 1) := by decide +kernel
theorem dX1_splitWithThree_1 : decode cX1_splitWithThree 1 = .ok (.getfield 9, 3) := by decide +kernel
theorem dX1_splitWithThree_4 : decode cX1_splitWithThree 4 = .ok (.iload_n 2, 1) := by decide +kernel
theorem dX1_splitWithThree_5 : decode cX1_splitWithThree 5 = .ok (.iaload, 1) := by decide +kernel
theorem dX1_splitWithThree_6 : decode cX1_splitWithThree 6 = .ok (.iconst 3, 1) := by decide +kernel
theorem dX1_splitWithThree_7 : decode cX1_splitWithThree 7 = .ok (.if_icmp .ge 5, 3) := by decide +kernel
theorem dX1_splitWithThree_10 : decode cX1_splitWithThree 10 = .ok (.iconst (-1), 1) := by decide +kernel
theorem dX1_splitWithThree_11 : decode cX1_splitWithThree 11 = .ok (.ireturn, 1) := by decide +kernel
theorem dX1_splitWithThree_12 : decode cX1_splitWithThree 12 = .ok (.aload_n 0, 1) := by decide +kernel
theorem dX1_splitWithThree_13 : decode cX1_splitWithThree 13 = .ok (.getfield 19, 3) := by decide +kernel
theorem dX1_splitWithThree_16 : decode cX1_splitWithThree 16 = .ok (.iload_n 3, 1) := by decide +kernel
theorem dX1_splitWithThree_17 : decode cX1_splitWithThree 17 = .ok (.iconst 1, 1) := by decide +kernel
theorem dX1_splitWithThree_18 : decode cX1_splitWithThree 18 = .ok (.iastore, 1) := by decide +kernel
theorem dX1_splitWithThree_19 : decode cX1_splitWithThree 19 = .ok (.aload_n 0, 1) := by decide +kernel
theorem dX1_splitWithThree_20 : decode cX1_splitWithThree 20 = .ok (.getfield 22, 3) := by decide +kernel
theorem dX1_splitWithThree_23 : decode cX1_splitWithThree 23 = .ok (.iload_n 3, 1) := by decide +kernel
theorem dX1_splitWithThree_24 : decode cX1_splitWithThree 24 = .ok (.iload_n 2, 1) := by decide +kernel
theorem dX1_splitWithThree_25 : decode cX1_splitWithThree 25 = .ok (.iastore, 1) := by decide +kernel
theorem dX1_splitWithThree_26 : decode cX1_splitWithThree 26 = .ok (.aload_n 0, 1) := by decide +kernel
theorem dX1_splitWithThree_27 : decode cX1_splitWithThree 27 = .ok (.getfield 9, 3) := by decide +kernel
theorem dX1_splitWithThree_30 : decode cX1_splitWithThree 30 = .ok (.iload_n 2, 1) := by decide +kernel
theorem dX1_splitWithThree_31 : decode cX1_splitWithThree 31 = .ok (.dup2, 1) := by decide +kernel
theorem dX1_splitWithThree_32 : decode cX1_splitWithThree 32 = .ok (.iaload, 1) := by decide +kernel
theorem dX1_splitWithThree_33 : decode cX1_splitWithThree 33 = .ok (.iconst 3, 1) := by decide +kernel
theorem dX1_splitWithThree_34 : decode cX1_splitWithThree 34 = .ok (.isub, 1) := by decide +kernel
theorem dX1_splitWithThree_35 : decode cX1_splitWithThree 35 = .ok (.iastore, 1) := by decide +kernel
theorem dX1_splitWithThree_36 : decode cX1_splitWithThree 36 = .ok (.aload_n 0, 1) := by decide +kernel
theorem dX1_splitWithThree_37 : decode cX1_splitWithThree 37 = .ok (.iload_n 1, 1) := by decide +kernel
theorem dX1_splitWithThree_38 : decode cX1_splitWithThree 38 = .ok (.iload_n 2, 1) := by decide +kernel
theorem dX1_splitWithThree_39 : decode cX1_splitWithThree 39 = .ok (.iload_n 3, 1) := by decide +kernel
theorem dX1_splitWithThree_40 : decode cX1_splitWithThree 40 = .ok (.iconst 1, 1) := by decide +kernel
theorem dX1_splitWithThree_41 : decode cX1_splitWithThree 41 = .ok (.iadd, 1) := by decide +kernel
theorem dX1_splitWithThree_42 : decode cX1_splitWithThree 42 = .ok (.invokevirtual 200, 3) := by decide +kernel
theorem dX1_splitWithThree_45 : decode cX1_splitWithThree 45 = .ok (.istore 4, 2) := by decide +kernel
theorem dX1_splitWithThree_47 : decode cX1_splitWithThree 47 = .ok (.aload_n 0, 1) := by decide +kernel
theorem dX1_splitWithThree_48 : decode cX1_splitWithThree 48 = .ok (.getfield 9, 3) := by decide +kernel
theorem dX1_splitWithThree_51 : decode cX1_splitWithThree 51 = .ok (.iload_n 2, 1) := by decide +kernel
theorem dX1_splitWithThree_52 : decode cX1_splitWithThree 52 = .ok (.dup2, 1) := by decide +kernel
theorem dX1_splitWithThree_53 : decode cX1_splitWithThree 53 = .ok (.iaload, 1) := by decide +kernel
theorem dX1_splitWithThree_54 : decode cX1_splitWithThree 54 = .ok (.iconst 3, 1) := by decide +kernel
theorem dX1_splitWithThree_55 : decode cX1_splitWithThree 55 = .ok (.iadd, 1) := by decide +kernel
theorem dX1_splitWithThree_56 : decode cX1_splitWithThree 56 = .ok (.iastore, 1) := by decide +kernel
theorem dX1_splitWithThree_57 : decode cX1_splitWithThree 57 = .ok (.iload 4, 2) := by decide +kernel
theorem dX1_splitWithThree_59 : decode cX1_splitWithThree 59 = .ok (.ireturn, 1) := by decide +kernel
set_option maxRecDepth 20000 in
theorem ggX1_splitWithRow_X1_beginsRow : GoodIn wsX1_splitWithRow wsX1_beginsRow := goodIn_r _ [7] (by decide +kernel) (by decide +kernel)
set_option maxRecDepth 20000 in
theorem gX1_splitWithRow_X1_beginsRow : GoodIn wsX1_splitWithRow (va_wsS RX1 83 yX1_beginsRow wsX1_beginsRow) := goodIn_app (goodIn_of _ (by decide +kernel)) ggX1_splitWithRow_X1_beginsRow
set_option maxRecDepth 20000 in
theorem ggX1_splitWithRow_X1_moveRow : GoodIn wsX1_splitWithRow wsX1_moveRow := goodIn_r _ [11, 1, 46, 47, 48, 49, 50, 51, 52, 53, 54, 55, 56, 57, 58] (by decide +kernel) (by decide +kernel)
set_option maxRecDepth 20000 in
theorem gX1_splitWithRow_X1_moveRow : GoodIn wsX1_splitWithRow (wsV RX1 216 RX1 yX1_moveRow wsX1_moveRow) := goodIn_app (goodIn_of _ (by decide +kernel)) ggX1_splitWithRow_X1_moveRow
set_option maxRecDepth 20000 in
theorem ggX1_splitWithRow_X1_bestSplit : GoodIn wsX1_splitWithRow wsX1_bestSplit := goodIn_r _ [15, 16, 17, 18, 19, 20, 21, 22, 6, 23, 1, 24, 25, 26, 27, 2, 3, 28, 29, 30, 31, 32, 33, 34, 35, 36, 37, 38, 39, 40, 41, 42, 43, 44, 0, 4, 5, 7, 8, 9, 10, 11, 12, 13, 14, 45, 46, 47, 48, 49, 50, 51, 52, 53, 54, 55, 56, 57, 58] (by decide +kernel) (by decide +kernel)
set_option maxRecDepth 20000 in
theorem gX1_splitWithRow_X1_bestSplit : GoodIn wsX1_splitWithRow (wsV RX1 200 RX1 yX1_bestSplit wsX1_bestSplit) := goodIn_app (goodIn_of _ (by decide +kernel)) ggX1_splitWithRow_X1_bestSplit
theorem dX1_splitWithRow_0 : decode cX1_splitWithRow 0 = .ok (.iload_n 2, 1) := by decide +kernel
theorem dX1_splitWithRow_1 : decode cX1_splitWithRow 1 = .ok (.invokestatic 83, 3) := by decide +kernel
theorem dX1_splitWithRow_4 : decode cX1_splitWithRow 4 = .ok (.ifCond .eq 25, 3) := by decide +kernel
theorem dX1_splitWithRow_7 : decode cX1_splitWithRow 7 = .ok (.aload_n 0, 1) := by decide +kernel
theorem dX1_splitWithRow_8 : decode cX1_splitWithRow 8 = .ok (.getfield 9, 3) := by decide +kernel
theorem dX1_splitWithRow_11 : decode cX1_splitWithRow 11 = .ok (.iload_n 2, 1) := by decide +kernel
theorem dX1_splitWithRow_12 : decode cX1_splitWithRow 12 = .ok (.iconst 1, 1) := by decide +kernel
theorem dX1_splitWithRow_13 : decode cX1_splitWithRow 13 = .ok (.iadd, 1) := by decide +kernel
theorem dX1_splitWithRow_14 : decode cX1_splitWithRow 14 = .ok (.iaload, 1) := by decide +kernel
theorem dX1_splitWithRow_15 : decode cX1_splitWithRow 15 = .ok (.ifCond .le 14, 3) := by decide +kernel
theorem dX1_splitWithRow_18 : decode cX1_splitWithRow 18 = .ok (.aload_n 0, 1) := by decide +kernel
theorem dX1_splitWithRow_19 : decode cX1_splitWithRow 19 = .ok (.getfield 9, 3) := by decide +kernel
theorem dX1_splitWithRow_22 : decode cX1_splitWithRow 22 = .ok (.iload_n 2, 1) := by decide +kernel
theorem dX1_splitWithRow_23 : decode cX1_splitWithRow 23 = .ok (.iconst 2, 1) := by decide +kernel
theorem dX1_splitWithRow_24 : decode cX1_splitWithRow 24 = .ok (.iadd, 1) := by decide +kernel
theorem dX1_splitWithRow_25 : decode cX1_splitWithRow 25 = .ok (.iaload, 1) := by decide +kernel
theorem dX1_splitWithRow_26 : decode cX1_splitWithRow 26 = .ok (.ifCond .gt 5, 3) := by decide +kernel
theorem dX1_splitWithRow_29 : decode cX1_splitWithRow 29 = .ok (.iconst (-1), 1) := by decide +kernel
theorem dX1_splitWithRow_30 : decode cX1_splitWithRow 30 = .ok (.ireturn, 1) := by decide +kernel
theorem dX1_splitWithRow_31 : decode cX1_splitWithRow 31 = .ok (.aload_n 0, 1) := by decide +kernel
theorem dX1_splitWithRow_32 : decode cX1_splitWithRow 32 = .ok (.getfield 19, 3) := by decide +kernel
theorem dX1_splitWithRow_35 : decode cX1_splitWithRow 35 = .ok (.iload_n 3, 1) := by decide +kernel
theorem dX1_splitWithRow_36 : decode cX1_splitWithRow 36 = .ok (.iconst 0, 1) := by decide +kernel
theorem dX1_splitWithRow_37 : decode cX1_splitWithRow 37 = .ok (.iastore, 1) := by decide +kernel
theorem dX1_splitWithRow_38 : decode cX1_splitWithRow 38 = .ok (.aload_n 0, 1) := by decide +kernel
theorem dX1_splitWithRow_39 : decode cX1_splitWithRow 39 = .ok (.getfield 22, 3) := by decide +kernel
theorem dX1_splitWithRow_42 : decode cX1_splitWithRow 42 = .ok (.iload_n 3, 1) := by decide +kernel
theorem dX1_splitWithRow_43 : decode cX1_splitWithRow 43 = .ok (.iload_n 2, 1) := by decide +kernel
theorem dX1_splitWithRow_44 : decode cX1_splitWithRow 44 = .ok (.iastore, 1) := by decide +kernel
theorem dX1_splitWithRow_45 : decode cX1_splitWithRow 45 = .ok (.aload_n 0, 1) := by decide +kernel
theorem dX1_splitWithRow_46 : decode cX1_splitWithRow 46 = .ok (.iload_n 2, 1) := by decide +kernel
theorem dX1_splitWithRow_47 : decode cX1_splitWithRow 47 = .ok (.iconst (-1), 1) := by decide +kernel
theorem dX1_splitWithRow_48 : decode cX1_splitWithRow 48 = .ok (.invokevirtual 216, 3) := by decide +kernel
theorem dX1_splitWithRow_51 : decode cX1_splitWithRow 51 = .ok (.aload_n 0, 1) := by decide +kernel
theorem dX1_splitWithRow_52 : decode cX1_splitWithRow 52 = .ok (.iload_n 1, 1) := by decide +kernel
theorem dX1_splitWithRow_53 : decode cX1_splitWithRow 53 = .ok (.iload_n 2, 1) := by decide +kernel
theorem dX1_splitWithRow_54 : decode cX1_splitWithRow 54 = .ok (.iload_n 3, 1) := by decide +kernel
theorem dX1_splitWithRow_55 : decode cX1_splitWithRow 55 = .ok (.iconst 1, 1) := by decide +kernel
theorem dX1_splitWithRow_56 : decode cX1_splitWithRow 56 = .ok (.iadd, 1) := by decide +kernel
theorem dX1_splitWithRow_57 : decode cX1_splitWithRow 57 = .ok (.invokevirtual 200, 3) := by decide +kernel
theorem dX1_splitWithRow_60 : decode cX1_splitWithRow 60 = .ok (.istore 4, 2) := by decide +kernel
theorem dX1_splitWithRow_62 : decode cX1_splitWithRow 62 = .ok (.aload_n 0, 1) := by decide +kernel
theorem dX1_splitWithRow_63 : decode cX1_splitWithRow 63 = .ok (.iload_n 2, 1) := by decide +kernel
theorem dX1_splitWithRow_64 : decode cX1_splitWithRow 64 = .ok (.iconst 1, 1) := by decide +kernel
theorem dX1_splitWithRow_65 : decode cX1_splitWithRow 65 = .ok (.invokevirtual 216, 3) := by decide +kernel
theorem dX1_splitWithRow_68 : decode cX1_splitWithRow 68 = .ok (.iload 4, 2) := by decide +kernel
theorem dX1_splitWithRow_70 : decode cX1_splitWithRow 70 = .ok (.ireturn, 1) := by decide +kernel
theorem dX1_firstHeld_0 : decode cX1_firstHeld 0 = .ok (.iload_n 1, 1) := by decide +kernel
theorem dX1_firstHeld_1 : decode cX1_firstHeld 1 = .ok (.istore_n 2, 1) := by decide +kernel
theorem dX1_firstHeld_2 : decode cX1_firstHeld 2 = .ok (.iload_n 2, 1) := by decide +kernel
theorem dX1_firstHeld_3 : decode cX1_firstHeld 3 = .ok (.bipush 34, 2) := by decide +kernel
theorem dX1_firstHeld_5 : decode cX1_firstHeld 5 = .ok (.if_icmp .ge 20, 3) := by decide +kernel
theorem dX1_firstHeld_8 : decode cX1_firstHeld 8 = .ok (.aload_n 0, 1) := by decide +kernel
theorem dX1_firstHeld_9 : decode cX1_firstHeld 9 = .ok (.getfield 9, 3) := by decide +kernel
theorem dX1_firstHeld_12 : decode cX1_firstHeld 12 = .ok (.iload_n 2, 1) := by decide +kernel
theorem dX1_firstHeld_13 : decode cX1_firstHeld 13 = .ok (.iaload, 1) := by decide +kernel
theorem dX1_firstHeld_14 : decode cX1_firstHeld 14 = .ok (.ifCond .le 5, 3) := by decide +kernel
theorem dX1_firstHeld_17 : decode cX1_firstHeld 17 = .ok (.iload_n 2, 1) := by decide +kernel
theorem dX1_firstHeld_18 : decode cX1_firstHeld 18 = .ok (.ireturn, 1) := by decide +kernel
theorem dX1_firstHeld_19 : decode cX1_firstHeld 19 = .ok (.iinc 2 1, 3) := by decide +kernel
theorem dX1_firstHeld_22 : decode cX1_firstHeld 22 = .ok (.goto (-20), 3) := by decide +kernel
theorem dX1_firstHeld_25 : decode cX1_firstHeld 25 = .ok (.bipush 34, 2) := by decide +kernel
theorem dX1_firstHeld_27 : decode cX1_firstHeld 27 = .ok (.ireturn, 1) := by decide +kernel
theorem dX1_moveRow_0 : decode cX1_moveRow 0 = .ok (.aload_n 0, 1) := by decide +kernel
theorem dX1_moveRow_1 : decode cX1_moveRow 1 = .ok (.getfield 9, 3) := by decide +kernel
theorem dX1_moveRow_4 : decode cX1_moveRow 4 = .ok (.iload_n 1, 1) := by decide +kernel
theorem dX1_moveRow_5 : decode cX1_moveRow 5 = .ok (.dup2, 1) := by decide +kernel
theorem dX1_moveRow_6 : decode cX1_moveRow 6 = .ok (.iaload, 1) := by decide +kernel
theorem dX1_moveRow_7 : decode cX1_moveRow 7 = .ok (.iload_n 2, 1) := by decide +kernel
theorem dX1_moveRow_8 : decode cX1_moveRow 8 = .ok (.iadd, 1) := by decide +kernel
theorem dX1_moveRow_9 : decode cX1_moveRow 9 = .ok (.iastore, 1) := by decide +kernel
theorem dX1_moveRow_10 : decode cX1_moveRow 10 = .ok (.aload_n 0, 1) := by decide +kernel
theorem dX1_moveRow_11 : decode cX1_moveRow 11 = .ok (.getfield 9, 3) := by decide +kernel
theorem dX1_moveRow_14 : decode cX1_moveRow 14 = .ok (.iload_n 1, 1) := by decide +kernel
theorem dX1_moveRow_15 : decode cX1_moveRow 15 = .ok (.iconst 1, 1) := by decide +kernel
theorem dX1_moveRow_16 : decode cX1_moveRow 16 = .ok (.iadd, 1) := by decide +kernel
theorem dX1_moveRow_17 : decode cX1_moveRow 17 = .ok (.dup2, 1) := by decide +kernel
theorem dX1_moveRow_18 : decode cX1_moveRow 18 = .ok (.iaload, 1) := by decide +kernel
theorem dX1_moveRow_19 : decode cX1_moveRow 19 = .ok (.iload_n 2, 1) := by decide +kernel
theorem dX1_moveRow_20 : decode cX1_moveRow 20 = .ok (.iadd, 1) := by decide +kernel
theorem dX1_moveRow_21 : decode cX1_moveRow 21 = .ok (.iastore, 1) := by decide +kernel
theorem dX1_moveRow_22 : decode cX1_moveRow 22 = .ok (.aload_n 0, 1) := by decide +kernel
theorem dX1_moveRow_23 : decode cX1_moveRow 23 = .ok (.getfield 9, 3) := by decide +kernel
theorem dX1_moveRow_26 : decode cX1_moveRow 26 = .ok (.iload_n 1, 1) := by decide +kernel
theorem dX1_moveRow_27 : decode cX1_moveRow 27 = .ok (.iconst 2, 1) := by decide +kernel
theorem dX1_moveRow_28 : decode cX1_moveRow 28 = .ok (.iadd, 1) := by decide +kernel
theorem dX1_moveRow_29 : decode cX1_moveRow 29 = .ok (.dup2, 1) := by decide +kernel
theorem dX1_moveRow_30 : decode cX1_moveRow 30 = .ok (.iaload, 1) := by decide +kernel
theorem dX1_moveRow_31 : decode cX1_moveRow 31 = .ok (.iload_n 2, 1) := by decide +kernel
theorem dX1_moveRow_32 : decode cX1_moveRow 32 = .ok (.iadd, 1) := by decide +kernel
theorem dX1_moveRow_33 : decode cX1_moveRow 33 = .ok (.iastore, 1) := by decide +kernel
theorem dX1_moveRow_34 : decode cX1_moveRow 34 = .ok (.return_, 1) := by decide +kernel
theorem dX1_requireComplete_0 : decode cX1_requireComplete 0 = .ok (.iload_n 0, 1) := by decide +kernel
theorem dX1_requireComplete_1 : decode cX1_requireComplete 1 = .ok (.iconst (-1), 1) := by decide +kernel
theorem dX1_requireComplete_2 : decode cX1_requireComplete 2 = .ok (.if_icmp .ne 13, 3) := by decide +kernel
theorem dX1_requireComplete_5 : decode cX1_requireComplete 5 = .ok (.new 57, 3) := by decide +kernel
theorem dX1_requireComplete_8 : decode cX1_requireComplete 8 = .ok (.dup, 1) := by decide +kernel
theorem dX1_requireComplete_9 : decode cX1_requireComplete 9 = .ok (.ldc 219, 2) := by decide +kernel
theorem dX1_requireComplete_11 : decode cX1_requireComplete 11 = .ok (.invokespecial 61, 3) := by decide +kernel
theorem dX1_requireComplete_14 : decode cX1_requireComplete 14 = .ok (.athrow, 1) := by decide +kernel
theorem dX1_requireComplete_15 : decode cX1_requireComplete 15 = .ok (.return_, 1) := by decide +kernel
set_option maxRecDepth 20000 in
theorem ggX1_fansNow_X1_bestArrangement : GoodIn wsX1_fansNow wsX1_bestArrangement := goodIn_r _ [5, 6, 7, 8, 9, 10, 11, 12, 13, 4, 14, 15, 16, 17, 18, 19, 20, 21, 22, 23, 24, 25, 26, 27, 28, 29, 30, 31, 32, 33, 34, 35, 36, 37, 38, 39, 40, 41, 42, 43, 44, 45, 46, 47, 48, 49, 50, 51, 52, 53, 54, 55, 56, 57, 58, 59, 60, 61, 62, 63, 64, 65, 66, 67, 68, 69, 70, 71, 72, 73, 74, 75, 76, 94, 95, 96, 97, 98, 99, 100, 101, 102, 103, 104, 105, 106] (by decide +kernel) (by decide +kernel)
set_option maxRecDepth 20000 in
theorem gX1_fansNow_X1_bestArrangement : GoodIn wsX1_fansNow (wsV RX1 125 RX1 yX1_bestArrangement wsX1_bestArrangement) := goodIn_app (goodIn_of _ (by decide +kernel)) ggX1_fansNow_X1_bestArrangement
set_option maxRecDepth 20000 in
theorem ggX1_fansNow_X1_tileFans : GoodIn wsX1_fansNow wsX1_tileFans := goodIn_r _ [80, 20, 81, 74, 75, 4, 76, 71, 72, 73, 82, 83, 84, 85, 86, 87, 88, 94, 95, 96, 97, 98, 99, 100, 101, 102, 103, 104, 105, 106] (by decide +kernel) (by decide +kernel)
set_option maxRecDepth 20000 in
theorem gX1_fansNow_X1_tileFans : GoodIn wsX1_fansNow (wsV RX1 221 RX1 yX1_tileFans wsX1_tileFans) := goodIn_app (goodIn_of _ (by decide +kernel)) ggX1_fansNow_X1_tileFans
set_option maxRecDepth 20000 in
theorem ggX1_fansNow_X1_hasOpenMeld : GoodIn wsX1_fansNow wsX1_hasOpenMeld := goodIn_r _ [92, 6, 93, 94, 95, 96, 97, 98, 99, 100, 101, 102, 103, 104, 105, 106] (by decide +kernel) (by decide +kernel)
set_option maxRecDepth 20000 in
theorem gX1_fansNow_X1_hasOpenMeld : GoodIn wsX1_fansNow (wsV RX1 224 RX1 yX1_hasOpenMeld wsX1_hasOpenMeld) := goodIn_app (goodIn_of _ (by decide +kernel)) ggX1_fansNow_X1_hasOpenMeld
theorem dX1_fansNow_0 : decode cX1_fansNow 0 = .ok (.aload_n 0, 1) := by decide +kernel
theorem dX1_fansNow_1 : decode cX1_fansNow 1 = .ok (.invokevirtual 125, 3) := by decide +kernel
theorem dX1_fansNow_4 : decode cX1_fansNow 4 = .ok (.istore_n 2, 1) := by decide +kernel
theorem dX1_fansNow_5 : decode cX1_fansNow 5 = .ok (.iload_n 2, 1) := by decide +kernel
theorem dX1_fansNow_6 : decode cX1_fansNow 6 = .ok (.iconst (-1), 1) := by decide +kernel
theorem dX1_fansNow_7 : decode cX1_fansNow 7 = .ok (.if_icmp .ne 5, 3) := by decide +kernel
theorem dX1_fansNow_10 : decode cX1_fansNow 10 = .ok (.iconst (-1), 1) := by decide +kernel
theorem dX1_fansNow_11 : decode cX1_fansNow 11 = .ok (.ireturn, 1) := by decide +kernel
theorem dX1_fansNow_12 : decode cX1_fansNow 12 = .ok (.iload_n 2, 1) := by decide +kernel
theorem dX1_fansNow_13 : decode cX1_fansNow 13 = .ok (.aload_n 0, 1) := by decide +kernel
theorem dX1_fansNow_14 : decode cX1_fansNow 14 = .ok (.invokevirtual 221, 3) := by decide +kernel
theorem dX1_fansNow_17 : decode cX1_fansNow 17 = .ok (.iadd, 1) := by decide +kernel
theorem dX1_fansNow_18 : decode cX1_fansNow 18 = .ok (.istore_n 3, 1) := by decide +kernel
theorem dX1_fansNow_19 : decode cX1_fansNow 19 = .ok (.iload_n 1, 1) := by decide +kernel
theorem dX1_fansNow_20 : decode cX1_fansNow 20 = .ok (.ifCond .eq 6, 3) := by decide +kernel
theorem dX1_fansNow_23 : decode cX1_fansNow 23 = .ok (.iinc 3 1, 3) := by decide +kernel
theorem dX1_fansNow_26 : decode cX1_fansNow 26 = .ok (.aload_n 0, 1) := by decide +kernel
theorem dX1_fansNow_27 : decode cX1_fansNow 27 = .ok (.invokevirtual 224, 3) := by decide +kernel
theorem dX1_fansNow_30 : decode cX1_fansNow 30 = .ok (.ifCond .eq 7, 3) := by decide +kernel
theorem dX1_fansNow_33 : decode cX1_fansNow 33 = .ok (.iload_n 3, 1) := by decide +kernel
theorem dX1_fansNow_34 : decode cX1_fansNow 34 = .ok (.goto 6, 3) := by decide +kernel
theorem dX1_fansNow_37 : decode cX1_fansNow 37 = .ok (.iload_n 3, 1) := by decide +kernel
theorem dX1_fansNow_38 : decode cX1_fansNow 38 = .ok (.iconst 1, 1) := by decide +kernel
theorem dX1_fansNow_39 : decode cX1_fansNow 39 = .ok (.iadd, 1) := by decide +kernel
theorem dX1_fansNow_40 : decode cX1_fansNow 40 = .ok (.ireturn, 1) := by decide +kernel
theorem dX1_pointsFor_0 : decode cX1_pointsFor 0 = .ok (.aload_n 0, 1) := by decide +kernel
theorem dX1_pointsFor_1 : decode cX1_pointsFor 1 = .ok (.getfield 43, 3) := by decide +kernel
theorem dX1_pointsFor_4 : decode cX1_pointsFor 4 = .ok (.iload_n 1, 1) := by decide +kernel
theorem dX1_pointsFor_5 : decode cX1_pointsFor 5 = .ok (.aload_n 0, 1) := by decide +kernel
theorem dX1_pointsFor_6 : decode cX1_pointsFor 6 = .ok (.getfield 46, 3) := by decide +kernel
theorem dX1_pointsFor_9 : decode cX1_pointsFor 9 = .ok (.invokestatic 143, 3) := by decide +kernel
theorem dX1_pointsFor_12 : decode cX1_pointsFor 12 = .ok (.ishl, 1) := by decide +kernel
theorem dX1_pointsFor_13 : decode cX1_pointsFor 13 = .ok (.ireturn, 1) := by decide +kernel
set_option maxRecDepth 20000 in
theorem ggX1_tileFans_X1_isHonour : GoodIn wsX1_tileFans wsX1_isHonour := goodIn_r _ [6] (by decide +kernel) (by decide +kernel)
set_option maxRecDepth 20000 in
theorem gX1_tileFans_X1_isHonour : GoodIn wsX1_tileFans (va_wsS RX1 179 yX1_isHonour wsX1_isHonour) := goodIn_app (goodIn_of _ (by decide +kernel)) ggX1_tileFans_X1_isHonour
set_option maxRecDepth 20000 in
theorem ggX1_tileFans_X1_isEnd : GoodIn wsX1_tileFans wsX1_isEnd := goodIn_r _ [9, 3, 4, 5, 6] (by decide +kernel) (by decide +kernel)
set_option maxRecDepth 20000 in
theorem gX1_tileFans_X1_isEnd : GoodIn wsX1_tileFans (va_wsS RX1 191 yX1_isEnd wsX1_isEnd) := goodIn_app (goodIn_of _ (by decide +kernel)) ggX1_tileFans_X1_isEnd
set_option maxRecDepth 20000 in
theorem ggX1_tileFans_J6_bitCount_0f7a4 : GoodIn wsX1_tileFans wsJ6_bitCount_0f7a4 := goodIn_r _ [13, 14, 15, 16] (by decide +kernel) (by decide +kernel)
set_option maxRecDepth 20000 in
theorem gX1_tileFans_J6_bitCount_0f7a4 : GoodIn wsX1_tileFans (va_wsS RX1 228 yJ6_bitCount_0f7a4 wsJ6_bitCount_0f7a4) := goodIn_app (goodIn_of _ (by decide +kernel)) ggX1_tileFans_J6_bitCount_0f7a4
theorem dX1_tileFans_0 : decode cX1_tileFans 0 = .ok (.iconst 0, 1) := by decide +kernel
theorem dX1_tileFans_1 : decode cX1_tileFans 1 = .ok (.istore_n 1, 1) := by decide +kernel
theorem dX1_tileFans_2 : decode cX1_tileFans 2 = .ok (.iconst 0, 1) := by decide +kernel
theorem dX1_tileFans_3 : decode cX1_tileFans 3 = .ok (.istore_n 2, 1) := by decide +kernel
theorem dX1_tileFans_4 : decode cX1_tileFans 4 = .ok (.iconst 0, 1) := by decide +kernel
theorem dX1_tileFans_5 : decode cX1_tileFans 5 = .ok (.istore_n 3, 1) := by decide +kernel
theorem dX1_tileFans_6 : decode cX1_tileFans 6 = .ok (.iconst 0, 1) := by decide +kernel
theorem dX1_tileFans_7 : decode cX1_tileFans 7 = .ok (.istore 4, 2) := by decide +kernel
theorem dX1_tileFans_9 : decode cX1_tileFans 9 = .ok (.iload 4, 2) := by decide +kernel
theorem dX1_tileFans_11 : decode cX1_tileFans 11 = .ok (.bipush 34, 2) := by decide +kernel
theorem dX1_tileFans_13 : decode cX1_tileFans 13 = .ok (.if_icmp .ge 68, 3) := by decide +kernel
theorem dX1_tileFans_16 : decode cX1_tileFans 16 = .ok (.aload_n 0, 1) := by decide +kernel
theorem dX1_tileFans_17 : decode cX1_tileFans 17 = .ok (.getfield 9, 3) := by decide +kernel
theorem dX1_tileFans_20 : decode cX1_tileFans 20 = .ok (.iload 4, 2) := by decide +kernel
theorem dX1_tileFans_22 : decode cX1_tileFans 22 = .ok (.iaload, 1) := by decide +kernel
theorem dX1_tileFans_23 : decode cX1_tileFans 23 = .ok (.aload_n 0, 1) := by decide +kernel
theorem dX1_tileFans_24 : decode cX1_tileFans 24 = .ok (.getfield 13, 3) := by decide +kernel
theorem dX1_tileFans_27 : decode cX1_tileFans 27 = .ok (.iload 4, 2) := by decide +kernel
theorem dX1_tileFans_29 : decode cX1_tileFans 29 = .ok (.iaload, 1) := by decide +kernel
theorem dX1_tileFans_30 : decode cX1_tileFans 30 = .ok (.iadd, 1) := by decide +kernel
theorem dX1_tileFans_31 : decode cX1_tileFans 31 = .ok (.ifCond .le 44, 3) := by decide +kernel
theorem dX1_tileFans_34 : decode cX1_tileFans 34 = .ok (.iload 4, 2) := by decide +kernel
theorem dX1_tileFans_36 : decode cX1_tileFans 36 = .ok (.invokestatic 179, 3) := by decide +kernel
theorem dX1_tileFans_39 : decode cX1_tileFans 39 = .ok (.ifCond .eq 8, 3) := by decide +kernel
theorem dX1_tileFans_42 : decode cX1_tileFans 42 = .ok (.iconst 1, 1) := by decide +kernel
theorem dX1_tileFans_43 : decode cX1_tileFans 43 = .ok (.istore_n 1, 1) := by decide +kernel
theorem dX1_tileFans_44 : decode cX1_tileFans 44 = .ok (.goto 31, 3) := by decide +kernel
theorem dX1_tileFans_47 : decode cX1_tileFans 47 = .ok (.iload_n 3, 1) := by decide +kernel
theorem dX1_tileFans_48 : decode cX1_tileFans 48 = .ok (.iconst 1, 1) := by decide +kernel
theorem dX1_tileFans_49 : decode cX1_tileFans 49 = .ok (.iload 4, 2) := by decide +kernel
theorem dX1_tileFans_51 : decode cX1_tileFans 51 = .ok (.bipush 9, 2) := by decide +kernel
theorem dX1_tileFans_53 : decode cX1_tileFans 53 = .ok (.idiv, 1) := by decide +kernel
theorem dX1_tileFans_54 : decode cX1_tileFans 54 = .ok (.ishl, 1) := by decide +kernel
theorem dX1_tileFans_55 : decode cX1_tileFans 55 = .ok (.ior, 1) := by decide +kernel
theorem dX1_tileFans_56 : decode cX1_tileFans 56 = .ok (.istore_n 3, 1) := by decide +kernel
theorem dX1_tileFans_57 : decode cX1_tileFans 57 = .ok (.iload_n 2, 1) := by decide +kernel
theorem dX1_tileFans_58 : decode cX1_tileFans 58 = .ok (.ifCond .ne 11, 3) := by decide +kernel
theorem dX1_tileFans_61 : decode cX1_tileFans 61 = .ok (.iload 4, 2) := by decide +kernel
theorem dX1_tileFans_63 : decode cX1_tileFans 63 = .ok (.invokestatic 191, 3) := by decide +kernel
theorem dX1_tileFans_66 : decode cX1_tileFans 66 = .ok (.ifCond .eq 7, 3) := by decide +kernel
theorem dX1_tileFans_69 : decode cX1_tileFans 69 = .ok (.iconst 1, 1) := by decide +kernel
theorem dX1_tileFans_70 : decode cX1_tileFans 70 = .ok (.goto 4, 3) := by decide +kernel
theorem dX1_tileFans_73 : decode cX1_tileFans 73 = .ok (.iconst 0, 1) := by decide +kernel
theorem dX1_tileFans_74 : decode cX1_tileFans 74 = .ok (.istore_n 2, 1) := by decide +kernel
theorem dX1_tileFans_75 : decode cX1_tileFans 75 = .ok (.iinc 4 1, 3) := by decide +kernel
theorem dX1_tileFans_78 : decode cX1_tileFans 78 = .ok (.goto (-69), 3) := by decide +kernel
theorem dX1_tileFans_81 : decode cX1_tileFans 81 = .ok (.iload_n 1, 1) := by decide +kernel
theorem dX1_tileFans_82 : decode cX1_tileFans 82 = .ok (.ifCond .ne 7, 3) := by decide +kernel
theorem dX1_tileFans_85 : decode cX1_tileFans 85 = .ok (.iload_n 2, 1) := by decide +kernel
theorem dX1_tileFans_86 : decode cX1_tileFans 86 = .ok (.ifCond .eq 7, 3) := by decide +kernel
theorem dX1_tileFans_89 : decode cX1_tileFans 89 = .ok (.iconst 0, 1) := by decide +kernel
theorem dX1_tileFans_90 : decode cX1_tileFans 90 = .ok (.goto 4, 3) := by decide +kernel
theorem dX1_tileFans_93 : decode cX1_tileFans 93 = .ok (.iconst 1, 1) := by decide +kernel
theorem dX1_tileFans_94 : decode cX1_tileFans 94 = .ok (.istore 4, 2) := by decide +kernel
theorem dX1_tileFans_96 : decode cX1_tileFans 96 = .ok (.iload_n 3, 1) := by decide +kernel
theorem dX1_tileFans_97 : decode cX1_tileFans 97 = .ok (.ifCond .ne 9, 3) := by decide +kernel
theorem dX1_tileFans_100 : decode cX1_tileFans 100 = .ok (.iinc 4 6, 3) := by decide +kernel
theorem dX1_tileFans_103 : decode cX1_tileFans 103 = .ok (.goto 26, 3) := by decide +kernel
theorem dX1_tileFans_106 : decode cX1_tileFans 106 = .ok (.iload_n 3, 1) := by decide +kernel
theorem dX1_tileFans_107 : decode cX1_tileFans 107 = .ok (.invokestatic 228, 3) := by decide +kernel
theorem dX1_tileFans_110 : decode cX1_tileFans 110 = .ok (.iconst 1, 1) := by decide +kernel
theorem dX1_tileFans_111 : decode cX1_tileFans 111 = .ok (.if_icmp .ne 18, 3) := by decide +kernel
theorem dX1_tileFans_114 : decode cX1_tileFans 114 = .ok (.iload 4, 2) := by decide +kernel
theorem dX1_tileFans_116 : decode cX1_tileFans 116 = .ok (.iload_n 1, 1) := by decide +kernel
theorem dX1_tileFans_117 : decode cX1_tileFans 117 = .ok (.ifCond .eq 7, 3) := by decide +kernel
theorem dX1_tileFans_120 : decode cX1_tileFans 120 = .ok (.iconst 3, 1) := by decide +kernel
theorem dX1_tileFans_121 : decode cX1_tileFans 121 = .ok (.goto 5, 3) := by decide +kernel
theorem dX1_tileFans_124 : decode cX1_tileFans 124 = .ok (.bipush 6, 2) := by decide +kernel
theorem dX1_tileFans_126 : decode cX1_tileFans 126 = .ok (.iadd, 1) := by decide +kernel
theorem dX1_tileFans_127 : decode cX1_tileFans 127 = .ok (.istore 4, 2) := by decide +kernel
theorem dX1_tileFans_129 : decode cX1_tileFans 129 = .ok (.iload 4, 2) := by decide +kernel
theorem dX1_tileFans_131 : decode cX1_tileFans 131 = .ok (.ireturn, 1) := by decide +kernel
set_option maxRecDepth 20000 in
theorem ggX1_fansOfSets_X1_twinRows : GoodIn wsX1_fansOfSets wsX1_twinRows := goodIn_r _ [7, 8, 1, 2, 15, 16, 17, 18, 19, 20, 21, 22, 23, 24, 25, 26, 27] (by decide +kernel) (by decide +kernel)
set_option maxRecDepth 20000 in
theorem gX1_fansOfSets_X1_twinRows : GoodIn wsX1_fansOfSets (wsV RX1 233 RX1 yX1_twinRows wsX1_twinRows) := goodIn_app (goodIn_of _ (by decide +kernel)) ggX1_fansOfSets_X1_twinRows
set_option maxRecDepth 20000 in
theorem ggX1_fansOfSets_X1_honourFans : GoodIn wsX1_fansOfSets wsX1_honourFans := goodIn_r _ [12, 13, 14, 15, 16, 17, 18, 19, 20, 21, 22, 23, 24, 25, 26, 27] (by decide +kernel) (by decide +kernel)
set_option maxRecDepth 20000 in
theorem gX1_fansOfSets_X1_honourFans : GoodIn wsX1_fansOfSets (wsV RX1 236 RX1 yX1_honourFans wsX1_honourFans) := goodIn_app (goodIn_of _ (by decide +kernel)) ggX1_fansOfSets_X1_honourFans
theorem dX1_fansOfSets_0 : decode cX1_fansOfSets 0 = .ok (.aload_n 0, 1) := by decide +kernel
theorem dX1_fansOfSets_1 : decode cX1_fansOfSets 1 = .ok (.invokevirtual 233, 3) := by decide +kernel
theorem dX1_fansOfSets_4 : decode cX1_fansOfSets 4 = .ok (.istore_n 2, 1) := by decide +kernel
theorem dX1_fansOfSets_5 : decode cX1_fansOfSets 5 = .ok (.iconst 0, 1) := by decide +kernel
theorem dX1_fansOfSets_6 : decode cX1_fansOfSets 6 = .ok (.istore_n 3, 1) := by decide +kernel
theorem dX1_fansOfSets_7 : decode cX1_fansOfSets 7 = .ok (.iconst 0, 1) := by decide +kernel
theorem dX1_fansOfSets_8 : decode cX1_fansOfSets 8 = .ok (.istore 4, 2) := by decide +kernel
theorem dX1_fansOfSets_10 : decode cX1_fansOfSets 10 = .ok (.iload 4, 2) := by decide +kernel
theorem dX1_fansOfSets_12 : decode cX1_fansOfSets 12 = .ok (.iconst 4, 1) := by decide +kernel
theorem dX1_fansOfSets_13 : decode cX1_fansOfSets 13 = .ok (.if_icmp .ge 53, 3) := by decide +kernel
theorem dX1_fansOfSets_16 : decode cX1_fansOfSets 16 = .ok (.aload_n 0, 1) := by decide +kernel
theorem dX1_fansOfSets_17 : decode cX1_fansOfSets 17 = .ok (.getfield 19, 3) := by decide +kernel
theorem dX1_fansOfSets_20 : decode cX1_fansOfSets 20 = .ok (.iload 4, 2) := by decide +kernel
theorem dX1_fansOfSets_22 : decode cX1_fansOfSets 22 = .ok (.iaload, 1) := by decide +kernel
theorem dX1_fansOfSets_23 : decode cX1_fansOfSets 23 = .ok (.ifCond .ne 9, 3) := by decide +kernel
theorem dX1_fansOfSets_26 : decode cX1_fansOfSets 26 = .ok (.iinc 3 1, 3) := by decide +kernel
theorem dX1_fansOfSets_29 : decode cX1_fansOfSets 29 = .ok (.goto 17, 3) := by decide +kernel
theorem dX1_fansOfSets_32 : decode cX1_fansOfSets 32 = .ok (.iload_n 2, 1) := by decide +kernel
theorem dX1_fansOfSets_33 : decode cX1_fansOfSets 33 = .ok (.aload_n 0, 1) := by decide +kernel
theorem dX1_fansOfSets_34 : decode cX1_fansOfSets 34 = .ok (.aload_n 0, 1) := by decide +kernel
theorem dX1_fansOfSets_35 : decode cX1_fansOfSets 35 = .ok (.getfield 22, 3) := by decide +kernel
theorem dX1_fansOfSets_38 : decode cX1_fansOfSets 38 = .ok (.iload 4, 2) := by decide +kernel
theorem dX1_fansOfSets_40 : decode cX1_fansOfSets 40 = .ok (.iaload, 1) := by decide +kernel
theorem dX1_fansOfSets_41 : decode cX1_fansOfSets 41 = .ok (.invokevirtual 236, 3) := by decide +kernel
theorem dX1_fansOfSets_44 : decode cX1_fansOfSets 44 = .ok (.iadd, 1) := by decide +kernel
theorem dX1_fansOfSets_45 : decode cX1_fansOfSets 45 = .ok (.istore_n 2, 1) := by decide +kernel
theorem dX1_fansOfSets_46 : decode cX1_fansOfSets 46 = .ok (.aload_n 0, 1) := by decide +kernel
theorem dX1_fansOfSets_47 : decode cX1_fansOfSets 47 = .ok (.getfield 19, 3) := by decide +kernel
theorem dX1_fansOfSets_50 : decode cX1_fansOfSets 50 = .ok (.iload 4, 2) := by decide +kernel
theorem dX1_fansOfSets_52 : decode cX1_fansOfSets 52 = .ok (.iaload, 1) := by decide +kernel
theorem dX1_fansOfSets_53 : decode cX1_fansOfSets 53 = .ok (.iconst 2, 1) := by decide +kernel
theorem dX1_fansOfSets_54 : decode cX1_fansOfSets 54 = .ok (.if_icmp .ne 6, 3) := by decide +kernel
theorem dX1_fansOfSets_57 : decode cX1_fansOfSets 57 = .ok (.iinc 2 1, 3) := by decide +kernel
theorem dX1_fansOfSets_60 : decode cX1_fansOfSets 60 = .ok (.iinc 4 1, 3) := by decide +kernel
theorem dX1_fansOfSets_63 : decode cX1_fansOfSets 63 = .ok (.goto (-53), 3) := by decide +kernel
theorem dX1_fansOfSets_66 : decode cX1_fansOfSets 66 = .ok (.iload_n 3, 1) := by decide +kernel
theorem dX1_fansOfSets_67 : decode cX1_fansOfSets 67 = .ok (.ifCond .ne 6, 3) := by decide +kernel
theorem dX1_fansOfSets_70 : decode cX1_fansOfSets 70 = .ok (.iinc 2 2, 3) := by decide +kernel
theorem dX1_fansOfSets_73 : decode cX1_fansOfSets 73 = .ok (.iload_n 3, 1) := by decide +kernel
theorem dX1_fansOfSets_74 : decode cX1_fansOfSets 74 = .ok (.iconst 4, 1) := by decide +kernel
theorem dX1_fansOfSets_75 : decode cX1_fansOfSets 75 = .ok (.if_icmp .ne 14, 3) := by decide +kernel
theorem dX1_fansOfSets_78 : decode cX1_fansOfSets 78 = .ok (.aload_n 0, 1) := by decide +kernel
theorem dX1_fansOfSets_79 : decode cX1_fansOfSets 79 = .ok (.iload_n 1, 1) := by decide +kernel
theorem dX1_fansOfSets_80 : decode cX1_fansOfSets 80 = .ok (.invokevirtual 236, 3) := by decide +kernel
theorem dX1_fansOfSets_83 : decode cX1_fansOfSets 83 = .ok (.ifCond .ne 6, 3) := by decide +kernel
theorem dX1_fansOfSets_86 : decode cX1_fansOfSets 86 = .ok (.iinc 2 1, 3) := by decide +kernel
theorem dX1_fansOfSets_89 : decode cX1_fansOfSets 89 = .ok (.iload_n 2, 1) := by decide +kernel
theorem dX1_fansOfSets_90 : decode cX1_fansOfSets 90 = .ok (.ireturn, 1) := by decide +kernel
theorem dX1_honourFans_0 : decode cX1_honourFans 0 = .ok (.iload_n 1, 1) := by decide +kernel
theorem dX1_honourFans_1 : decode cX1_honourFans 1 = .ok (.bipush 31, 2) := by decide +kernel
theorem dX1_honourFans_3 : decode cX1_honourFans 3 = .ok (.if_icmp .lt 7, 3) := by decide +kernel
theorem dX1_honourFans_6 : decode cX1_honourFans 6 = .ok (.iconst 1, 1) := by decide +kernel
theorem dX1_honourFans_7 : decode cX1_honourFans 7 = .ok (.goto 4, 3) := by decide +kernel
theorem dX1_honourFans_10 : decode cX1_honourFans 10 = .ok (.iconst 0, 1) := by decide +kernel
theorem dX1_honourFans_11 : decode cX1_honourFans 11 = .ok (.istore_n 2, 1) := by decide +kernel
theorem dX1_honourFans_12 : decode cX1_honourFans 12 = .ok (.iload_n 1, 1) := by decide +kernel
theorem dX1_honourFans_13 : decode cX1_honourFans 13 = .ok (.aload_n 0, 1) := by decide +kernel
theorem dX1_honourFans_14 : decode cX1_honourFans 14 = .ok (.getfield 36, 3) := by decide +kernel
theorem dX1_honourFans_17 : decode cX1_honourFans 17 = .ok (.if_icmp .ne 6, 3) := by decide +kernel
theorem dX1_honourFans_20 : decode cX1_honourFans 20 = .ok (.iinc 2 1, 3) := by decide +kernel
theorem dX1_honourFans_23 : decode cX1_honourFans 23 = .ok (.iload_n 1, 1) := by decide +kernel
theorem dX1_honourFans_24 : decode cX1_honourFans 24 = .ok (.aload_n 0, 1) := by decide +kernel
theorem dX1_honourFans_25 : decode cX1_honourFans 25 = .ok (.getfield 40, 3) := by decide +kernel
theorem dX1_honourFans_28 : decode cX1_honourFans 28 = .ok (.if_icmp .ne 6, 3) := by decide +kernel
theorem dX1_honourFans_31 : decode cX1_honourFans 31 = .ok (.iinc 2 1, 3) := by decide +kernel
theorem dX1_honourFans_34 : decode cX1_honourFans 34 = .ok (.iload_n 2, 1) := by decide +kernel
theorem dX1_honourFans_35 : decode cX1_honourFans 35 = .ok (.ireturn, 1) := by decide +kernel
theorem dX1_twinRows_0 : decode cX1_twinRows 0 = .ok (.iconst 0, 1) := by decide +kernel
theorem dX1_twinRows_1 : decode cX1_twinRows 1 = .ok (.istore_n 1, 1) := by decide +kernel
theorem dX1_twinRows_2 : decode cX1_twinRows 2 = .ok (.aload_n 0, 1) := by decide +kernel
theorem dX1_twinRows_3 : decode cX1_twinRows 3 = .ok (.getfield 89, 3) := by decide +kernel
theorem dX1_twinRows_6 : decode cX1_twinRows 6 = .ok (.istore_n 2, 1) := by decide +kernel
theorem dX1_twinRows_7 : decode cX1_twinRows 7 = .ok (.iload_n 2, 1) := by decide +kernel
theorem dX1_twinRows_8 : decode cX1_twinRows 8 = .ok (.iconst 4, 1) := by decide +kernel
theorem dX1_twinRows_9 : decode cX1_twinRows 9 = .ok (.if_icmp .ge 75, 3) := by decide +kernel
theorem dX1_twinRows_12 : decode cX1_twinRows 12 = .ok (.iconst 0, 1) := by decide +kernel
theorem dX1_twinRows_13 : decode cX1_twinRows 13 = .ok (.istore_n 3, 1) := by decide +kernel
theorem dX1_twinRows_14 : decode cX1_twinRows 14 = .ok (.aload_n 0, 1) := by decide +kernel
theorem dX1_twinRows_15 : decode cX1_twinRows 15 = .ok (.getfield 89, 3) := by decide +kernel
theorem dX1_twinRows_18 : decode cX1_twinRows 18 = .ok (.istore 4, 2) := by decide +kernel
theorem dX1_twinRows_20 : decode cX1_twinRows 20 = .ok (.iload 4, 2) := by decide +kernel
theorem dX1_twinRows_22 : decode cX1_twinRows 22 = .ok (.iload_n 2, 1) := by decide +kernel
theorem dX1_twinRows_23 : decode cX1_twinRows 23 = .ok (.if_icmp .ge 38, 3) := by decide +kernel
theorem dX1_twinRows_26 : decode cX1_twinRows 26 = .ok (.aload_n 0, 1) := by decide +kernel
theorem dX1_twinRows_27 : decode cX1_twinRows 27 = .ok (.getfield 19, 3) := by decide +kernel
theorem dX1_twinRows_30 : decode cX1_twinRows 30 = .ok (.iload 4, 2) := by decide +kernel
theorem dX1_twinRows_32 : decode cX1_twinRows 32 = .ok (.iaload, 1) := by decide +kernel
theorem dX1_twinRows_33 : decode cX1_twinRows 33 = .ok (.ifCond .ne 22, 3) := by decide +kernel
theorem dX1_twinRows_36 : decode cX1_twinRows 36 = .ok (.aload_n 0, 1) := by decide +kernel
theorem dX1_twinRows_37 : decode cX1_twinRows 37 = .ok (.getfield 22, 3) := by decide +kernel
theorem dX1_twinRows_40 : decode cX1_twinRows 40 = .ok (.iload 4, 2) := by decide +kernel
theorem dX1_twinRows_42 : decode cX1_twinRows 42 = .ok (.iaload, 1) := by decide +kernel
theorem dX1_twinRows_43 : decode cX1_twinRows 43 = .ok (.aload_n 0, 1) := by decide +kernel
theorem dX1_twinRows_44 : decode cX1_twinRows 44 = .ok (.getfield 22, 3) := by decide +kernel
theorem dX1_twinRows_47 : decode cX1_twinRows 47 = .ok (.iload_n 2, 1) := by decide +kernel
theorem dX1_twinRows_48 : decode cX1_twinRows 48 = .ok (.iaload, 1) := by decide +kernel
theorem dX1_twinRows_49 : decode cX1_twinRows 49 = .ok (.if_icmp .ne 6, 3) := by decide +kernel
theorem dX1_twinRows_52 : decode cX1_twinRows 52 = .ok (.iinc 3 1, 3) := by decide +kernel
theorem dX1_twinRows_55 : decode cX1_twinRows 55 = .ok (.iinc 4 1, 3) := by decide +kernel
theorem dX1_twinRows_58 : decode cX1_twinRows 58 = .ok (.goto (-38), 3) := by decide +kernel
theorem dX1_twinRows_61 : decode cX1_twinRows 61 = .ok (.aload_n 0, 1) := by decide +kernel
theorem dX1_twinRows_62 : decode cX1_twinRows 62 = .ok (.getfield 19, 3) := by decide +kernel
theorem dX1_twinRows_65 : decode cX1_twinRows 65 = .ok (.iload_n 2, 1) := by decide +kernel
theorem dX1_twinRows_66 : decode cX1_twinRows 66 = .ok (.iaload, 1) := by decide +kernel
theorem dX1_twinRows_67 : decode cX1_twinRows 67 = .ok (.ifCond .ne 11, 3) := by decide +kernel
theorem dX1_twinRows_70 : decode cX1_twinRows 70 = .ok (.iload_n 3, 1) := by decide +kernel
theorem dX1_twinRows_71 : decode cX1_twinRows 71 = .ok (.iconst 1, 1) := by decide +kernel
theorem dX1_twinRows_72 : decode cX1_twinRows 72 = .ok (.if_icmp .ne 6, 3) := by decide +kernel
theorem dX1_twinRows_75 : decode cX1_twinRows 75 = .ok (.iinc 1 1, 3) := by decide +kernel
theorem dX1_twinRows_78 : decode cX1_twinRows 78 = .ok (.iinc 2 1, 3) := by decide +kernel
theorem dX1_twinRows_81 : decode cX1_twinRows 81 = .ok (.goto (-74), 3) := by decide +kernel
theorem dX1_twinRows_84 : decode cX1_twinRows 84 = .ok (.iload_n 1, 1) := by decide +kernel
theorem dX1_twinRows_85 : decode cX1_twinRows 85 = .ok (.ireturn, 1) := by decide +kernel
