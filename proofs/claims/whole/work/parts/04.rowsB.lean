theorem dX2_init_0 : decode cX2_init 0 = .ok (.aload_n 0, 1) := by decide +kernel
theorem dX2_init_1 : decode cX2_init 1 = .ok (.invokespecial 1, 3) := by decide +kernel
theorem dX2_init_4 : decode cX2_init 4 = .ok (.aload_n 0, 1) := by decide +kernel
theorem dX2_init_5 : decode cX2_init 5 = .ok (.bipush 34, 2) := by decide +kernel
theorem dX2_init_7 : decode cX2_init 7 = .ok (.newarray .int, 2) := by decide +kernel
theorem dX2_init_9 : decode cX2_init 9 = .ok (.putfield 9, 3) := by decide +kernel
theorem dX2_init_12 : decode cX2_init 12 = .ok (.aload_n 0, 1) := by decide +kernel
theorem dX2_init_13 : decode cX2_init 13 = .ok (.bipush 34, 2) := by decide +kernel
theorem dX2_init_15 : decode cX2_init 15 = .ok (.newarray .int, 2) := by decide +kernel
theorem dX2_init_17 : decode cX2_init 17 = .ok (.putfield 13, 3) := by decide +kernel
theorem dX2_init_20 : decode cX2_init 20 = .ok (.aload_n 0, 1) := by decide +kernel
theorem dX2_init_21 : decode cX2_init 21 = .ok (.bipush 34, 2) := by decide +kernel
theorem dX2_init_23 : decode cX2_init 23 = .ok (.newarray .int, 2) := by decide +kernel
theorem dX2_init_25 : decode cX2_init 25 = .ok (.putfield 16, 3) := by decide +kernel
theorem dX2_init_28 : decode cX2_init 28 = .ok (.aload_n 0, 1) := by decide +kernel
theorem dX2_init_29 : decode cX2_init 29 = .ok (.iconst 4, 1) := by decide +kernel
theorem dX2_init_30 : decode cX2_init 30 = .ok (.newarray .int, 2) := by decide +kernel
theorem dX2_init_32 : decode cX2_init 32 = .ok (.putfield 19, 3) := by decide +kernel
theorem dX2_init_35 : decode cX2_init 35 = .ok (.aload_n 0, 1) := by decide +kernel
theorem dX2_init_36 : decode cX2_init 36 = .ok (.iconst 4, 1) := by decide +kernel
theorem dX2_init_37 : decode cX2_init 37 = .ok (.newarray .int, 2) := by decide +kernel
theorem dX2_init_39 : decode cX2_init 39 = .ok (.putfield 22, 3) := by decide +kernel
theorem dX2_init_42 : decode cX2_init 42 = .ok (.aload_n 0, 1) := by decide +kernel
theorem dX2_init_43 : decode cX2_init 43 = .ok (.iconst 4, 1) := by decide +kernel
theorem dX2_init_44 : decode cX2_init 44 = .ok (.newarray .boolean, 2) := by decide +kernel
theorem dX2_init_46 : decode cX2_init 46 = .ok (.putfield 25, 3) := by decide +kernel
theorem dX2_init_49 : decode cX2_init 49 = .ok (.aload_n 0, 1) := by decide +kernel
theorem dX2_init_50 : decode cX2_init 50 = .ok (.bipush 27, 2) := by decide +kernel
theorem dX2_init_52 : decode cX2_init 52 = .ok (.putfield 29, 3) := by decide +kernel
theorem dX2_init_55 : decode cX2_init 55 = .ok (.aload_n 0, 1) := by decide +kernel
theorem dX2_init_56 : decode cX2_init 56 = .ok (.bipush 27, 2) := by decide +kernel
theorem dX2_init_58 : decode cX2_init 58 = .ok (.putfield 33, 3) := by decide +kernel
theorem dX2_init_61 : decode cX2_init 61 = .ok (.aload_n 0, 1) := by decide +kernel
theorem dX2_init_62 : decode cX2_init 62 = .ok (.iconst 1, 1) := by decide +kernel
theorem dX2_init_63 : decode cX2_init 63 = .ok (.putfield 36, 3) := by decide +kernel
theorem dX2_init_66 : decode cX2_init 66 = .ok (.aload_n 0, 1) := by decide +kernel
theorem dX2_init_67 : decode cX2_init 67 = .ok (.bipush 8, 2) := by decide +kernel
theorem dX2_init_69 : decode cX2_init 69 = .ok (.putfield 39, 3) := by decide +kernel
theorem dX2_init_72 : decode cX2_init 72 = .ok (.aload_n 0, 1) := by decide +kernel
theorem dX2_init_73 : decode cX2_init 73 = .ok (.bipush 34, 2) := by decide +kernel
theorem dX2_init_75 : decode cX2_init 75 = .ok (.newarray .int, 2) := by decide +kernel
theorem dX2_init_77 : decode cX2_init 77 = .ok (.putfield 42, 3) := by decide +kernel
theorem dX2_init_80 : decode cX2_init 80 = .ok (.aload_n 0, 1) := by decide +kernel
theorem dX2_init_81 : decode cX2_init 81 = .ok (.iconst 4, 1) := by decide +kernel
theorem dX2_init_82 : decode cX2_init 82 = .ok (.newarray .int, 2) := by decide +kernel
theorem dX2_init_84 : decode cX2_init 84 = .ok (.putfield 45, 3) := by decide +kernel
theorem dX2_init_87 : decode cX2_init 87 = .ok (.aload_n 0, 1) := by decide +kernel
theorem dX2_init_88 : decode cX2_init 88 = .ok (.sipush 250, 3) := by decide +kernel
theorem dX2_init_91 : decode cX2_init 91 = .ok (.newarray .int, 2) := by decide +kernel
theorem dX2_init_93 : decode cX2_init 93 = .ok (.putfield 48, 3) := by decide +kernel
theorem dX2_init_96 : decode cX2_init 96 = .ok (.aload_n 0, 1) := by decide +kernel
theorem dX2_init_97 : decode cX2_init 97 = .ok (.sipush 250, 3) := by decide +kernel
theorem dX2_init_100 : decode cX2_init 100 = .ok (.newarray .int, 2) := by decide +kernel
theorem dX2_init_102 : decode cX2_init 102 = .ok (.putfield 51, 3) := by decide +kernel
theorem dX2_init_105 : decode cX2_init 105 = .ok (.return_, 1) := by decide +kernel
theorem dX2_thrown_0 : decode cX2_thrown 0 = .ok (.aload_n 0, 1) := by decide +kernel
theorem dX2_thrown_1 : decode cX2_thrown 1 = .ok (.getfield 54, 3) := by decide +kernel
theorem dX2_thrown_4 : decode cX2_thrown 4 = .ok (.ireturn, 1) := by decide +kernel
theorem dX2_fail_0 : decode cX2_fail 0 = .ok (.aload_n 0, 1) := by decide +kernel
theorem dX2_fail_1 : decode cX2_fail 1 = .ok (.iload_n 1, 1) := by decide +kernel
theorem dX2_fail_2 : decode cX2_fail 2 = .ok (.putfield 54, 3) := by decide +kernel
theorem dX2_fail_5 : decode cX2_fail 5 = .ok (.iconst 0, 1) := by decide +kernel
theorem dX2_fail_6 : decode cX2_fail 6 = .ok (.ireturn, 1) := by decide +kernel
theorem dX2_isIn_0 : decode cX2_isIn 0 = .ok (.iload_n 0, 1) := by decide +kernel
theorem dX2_isIn_1 : decode cX2_isIn 1 = .ok (.iload_n 1, 1) := by decide +kernel
theorem dX2_isIn_2 : decode cX2_isIn 2 = .ok (.if_icmp .lt 12, 3) := by decide +kernel
theorem dX2_isIn_5 : decode cX2_isIn 5 = .ok (.iload_n 0, 1) := by decide +kernel
theorem dX2_isIn_6 : decode cX2_isIn 6 = .ok (.iload_n 2, 1) := by decide +kernel
theorem dX2_isIn_7 : decode cX2_isIn 7 = .ok (.if_icmp .gt 7, 3) := by decide +kernel
theorem dX2_isIn_10 : decode cX2_isIn 10 = .ok (.iconst 1, 1) := by decide +kernel
theorem dX2_isIn_11 : decode cX2_isIn 11 = .ok (.goto 4, 3) := by decide +kernel
theorem dX2_isIn_14 : decode cX2_isIn 14 = .ok (.iconst 0, 1) := by decide +kernel
theorem dX2_isIn_15 : decode cX2_isIn 15 = .ok (.ireturn, 1) := by decide +kernel
set_option maxRecDepth 20000 in
theorem ggX2_isKind_X2_isIn : GoodIn wsX2_isKind wsX2_isIn := goodIn_r _ [4] (by decide +kernel) (by decide +kernel)
set_option maxRecDepth 20000 in
theorem gX2_isKind_X2_isIn : GoodIn wsX2_isKind (va_wsS RX2 57 yX2_isIn wsX2_isIn) := goodIn_app (goodIn_of _ (by decide +kernel)) ggX2_isKind_X2_isIn
theorem dX2_isKind_0 : decode cX2_isKind 0 = .ok (.iload_n 0, 1) := by decide +kernel
theorem dX2_isKind_1 : decode cX2_isKind 1 = .ok (.iconst 0, 1) := by decide +kernel
theorem dX2_isKind_2 : decode cX2_isKind 2 = .ok (.bipush 33, 2) := by decide +kernel
theorem dX2_isKind_4 : decode cX2_isKind 4 = .ok (.invokestatic 57, 3) := by decide +kernel
theorem dX2_isKind_7 : decode cX2_isKind 7 = .ok (.ireturn, 1) := by decide +kernel
theorem dX2_isEnd_0 : decode cX2_isEnd 0 = .ok (.iload_n 0, 1) := by decide +kernel
theorem dX2_isEnd_1 : decode cX2_isEnd 1 = .ok (.bipush 27, 2) := by decide +kernel
theorem dX2_isEnd_3 : decode cX2_isEnd 3 = .ok (.if_icmp .ge 23, 3) := by decide +kernel
theorem dX2_isEnd_6 : decode cX2_isEnd 6 = .ok (.iload_n 0, 1) := by decide +kernel
theorem dX2_isEnd_7 : decode cX2_isEnd 7 = .ok (.bipush 9, 2) := by decide +kernel
theorem dX2_isEnd_9 : decode cX2_isEnd 9 = .ok (.irem, 1) := by decide +kernel
theorem dX2_isEnd_10 : decode cX2_isEnd 10 = .ok (.ifCond .eq 12, 3) := by decide +kernel
theorem dX2_isEnd_13 : decode cX2_isEnd 13 = .ok (.iload_n 0, 1) := by decide +kernel
theorem dX2_isEnd_14 : decode cX2_isEnd 14 = .ok (.bipush 9, 2) := by decide +kernel
theorem dX2_isEnd_16 : decode cX2_isEnd 16 = .ok (.irem, 1) := by decide +kernel
theorem dX2_isEnd_17 : decode cX2_isEnd 17 = .ok (.bipush 8, 2) := by decide +kernel
theorem dX2_isEnd_19 : decode cX2_isEnd 19 = .ok (.if_icmp .ne 7, 3) := by decide +kernel
theorem dX2_isEnd_22 : decode cX2_isEnd 22 = .ok (.iconst 1, 1) := by decide +kernel
theorem dX2_isEnd_23 : decode cX2_isEnd 23 = .ok (.goto 4, 3) := by decide +kernel
theorem dX2_isEnd_26 : decode cX2_isEnd 26 = .ok (.iconst 0, 1) := by decide +kernel
theorem dX2_isEnd_27 : decode cX2_isEnd 27 = .ok (.ireturn, 1) := by decide +kernel
set_option maxRecDepth 20000 in
theorem ggX2_isOuter_X2_isEnd : GoodIn wsX2_isOuter wsX2_isEnd := goodIn_r _ [4] (by decide +kernel) (by decide +kernel)
set_option maxRecDepth 20000 in
theorem gX2_isOuter_X2_isEnd : GoodIn wsX2_isOuter (va_wsS RX2 61 yX2_isEnd wsX2_isEnd) := goodIn_app (goodIn_of _ (by decide +kernel)) ggX2_isOuter_X2_isEnd
theorem dX2_isOuter_0 : decode cX2_isOuter 0 = .ok (.iload_n 0, 1) := by decide +kernel
theorem dX2_isOuter_1 : decode cX2_isOuter 1 = .ok (.bipush 27, 2) := by decide +kernel
theorem dX2_isOuter_3 : decode cX2_isOuter 3 = .ok (.if_icmp .ge 10, 3) := by decide +kernel
theorem dX2_isOuter_6 : decode cX2_isOuter 6 = .ok (.iload_n 0, 1) := by decide +kernel
theorem dX2_isOuter_7 : decode cX2_isOuter 7 = .ok (.invokestatic 61, 3) := by decide +kernel
theorem dX2_isOuter_10 : decode cX2_isOuter 10 = .ok (.ifCond .eq 7, 3) := by decide +kernel
theorem dX2_isOuter_13 : decode cX2_isOuter 13 = .ok (.iconst 1, 1) := by decide +kernel
theorem dX2_isOuter_14 : decode cX2_isOuter 14 = .ok (.goto 4, 3) := by decide +kernel
theorem dX2_isOuter_17 : decode cX2_isOuter 17 = .ok (.iconst 0, 1) := by decide +kernel
theorem dX2_isOuter_18 : decode cX2_isOuter 18 = .ok (.ireturn, 1) := by decide +kernel
theorem dX2_beginsRow_0 : decode cX2_beginsRow 0 = .ok (.iload_n 0, 1) := by decide +kernel
theorem dX2_beginsRow_1 : decode cX2_beginsRow 1 = .ok (.bipush 27, 2) := by decide +kernel
theorem dX2_beginsRow_3 : decode cX2_beginsRow 3 = .ok (.if_icmp .ge 16, 3) := by decide +kernel
theorem dX2_beginsRow_6 : decode cX2_beginsRow 6 = .ok (.iload_n 0, 1) := by decide +kernel
theorem dX2_beginsRow_7 : decode cX2_beginsRow 7 = .ok (.bipush 9, 2) := by decide +kernel
theorem dX2_beginsRow_9 : decode cX2_beginsRow 9 = .ok (.irem, 1) := by decide +kernel
theorem dX2_beginsRow_10 : decode cX2_beginsRow 10 = .ok (.bipush 7, 2) := by decide +kernel
theorem dX2_beginsRow_12 : decode cX2_beginsRow 12 = .ok (.if_icmp .ge 7, 3) := by decide +kernel
theorem dX2_beginsRow_15 : decode cX2_beginsRow 15 = .ok (.iconst 1, 1) := by decide +kernel
theorem dX2_beginsRow_16 : decode cX2_beginsRow 16 = .ok (.goto 4, 3) := by decide +kernel
theorem dX2_beginsRow_19 : decode cX2_beginsRow 19 = .ok (.iconst 0, 1) := by decide +kernel
theorem dX2_beginsRow_20 : decode cX2_beginsRow 20 = .ok (.ireturn, 1) := by decide +kernel
theorem dX2_tiles_0 : decode cX2_tiles 0 = .ok (.iconst 0, 1) := by decide +kernel
theorem dX2_tiles_1 : decode cX2_tiles 1 = .ok (.istore_n 1, 1) := by decide +kernel
theorem dX2_tiles_2 : decode cX2_tiles 2 = .ok (.aload_n 0, 1) := by decide +kernel
theorem dX2_tiles_3 : decode cX2_tiles 3 = .ok (.getfield 9, 3) := by decide +kernel
theorem dX2_tiles_6 : decode cX2_tiles 6 = .ok (.astore_n 2, 1) := by decide +kernel
theorem dX2_tiles_7 : decode cX2_tiles 7 = .ok (.aload_n 2, 1) := by decide +kernel
theorem dX2_tiles_8 : decode cX2_tiles 8 = .ok (.arraylength, 1) := by decide +kernel
theorem dX2_tiles_9 : decode cX2_tiles 9 = .ok (.istore_n 3, 1) := by decide +kernel
theorem dX2_tiles_10 : decode cX2_tiles 10 = .ok (.iconst 0, 1) := by decide +kernel
theorem dX2_tiles_11 : decode cX2_tiles 11 = .ok (.istore 4, 2) := by decide +kernel
theorem dX2_tiles_13 : decode cX2_tiles 13 = .ok (.iload 4, 2) := by decide +kernel
theorem dX2_tiles_15 : decode cX2_tiles 15 = .ok (.iload_n 3, 1) := by decide +kernel
theorem dX2_tiles_16 : decode cX2_tiles 16 = .ok (.if_icmp .ge 20, 3) := by decide +kernel
theorem dX2_tiles_19 : decode cX2_tiles 19 = .ok (.aload_n 2, 1) := by decide +kernel
theorem dX2_tiles_20 : decode cX2_tiles 20 = .ok (.iload 4, 2) := by decide +kernel
theorem dX2_tiles_22 : decode cX2_tiles 22 = .ok (.iaload, 1) := by decide +kernel
theorem dX2_tiles_23 : decode cX2_tiles 23 = .ok (.istore 5, 2) := by decide +kernel
theorem dX2_tiles_25 : decode cX2_tiles 25 = .ok (.iload_n 1, 1) := by decide +kernel
theorem dX2_tiles_26 : decode cX2_tiles 26 = .ok (.iload 5, 2) := by decide +kernel
theorem dX2_tiles_28 : decode cX2_tiles 28 = .ok (.iadd, 1) := by decide +kernel
theorem dX2_tiles_29 : decode cX2_tiles 29 = .ok (.istore_n 1, 1) := by decide +kernel
theorem dX2_tiles_30 : decode cX2_tiles 30 = .ok (.iinc 4 1, 3) := by decide +kernel
theorem dX2_tiles_33 : decode cX2_tiles 33 = .ok (.goto (-20), 3) := by decide +kernel
theorem dX2_tiles_36 : decode cX2_tiles 36 = .ok (.iload_n 1, 1) := by decide +kernel
theorem dX2_tiles_37 : decode cX2_tiles 37 = .ok (.ireturn, 1) := by decide +kernel
set_option maxRecDepth 20000 in
theorem ggX2_sizeOf_X2_tiles : GoodIn wsX2_sizeOf wsX2_tiles := goodIn_r _ [6, 7, 8, 9, 10, 11, 12, 13, 14, 15, 16, 17, 18, 19, 20, 21, 22, 23] (by decide +kernel) (by decide +kernel)
set_option maxRecDepth 20000 in
theorem gX2_sizeOf_X2_tiles : GoodIn wsX2_sizeOf (wsV RX2 65 RX2 yX2_tiles wsX2_tiles) := goodIn_app (goodIn_of _ (by decide +kernel)) ggX2_sizeOf_X2_tiles
theorem dX2_sizeOf_0 : decode cX2_sizeOf 0 = .ok (.aload_n 0, 1) := by decide +kernel
theorem dX2_sizeOf_1 : decode cX2_sizeOf 1 = .ok (.invokevirtual 65, 3) := by decide +kernel
theorem dX2_sizeOf_4 : decode cX2_sizeOf 4 = .ok (.iconst 3, 1) := by decide +kernel
theorem dX2_sizeOf_5 : decode cX2_sizeOf 5 = .ok (.aload_n 0, 1) := by decide +kernel
theorem dX2_sizeOf_6 : decode cX2_sizeOf 6 = .ok (.getfield 69, 3) := by decide +kernel
theorem dX2_sizeOf_9 : decode cX2_sizeOf 9 = .ok (.imul, 1) := by decide +kernel
theorem dX2_sizeOf_10 : decode cX2_sizeOf 10 = .ok (.iadd, 1) := by decide +kernel
theorem dX2_sizeOf_11 : decode cX2_sizeOf 11 = .ok (.ireturn, 1) := by decide +kernel
theorem dX2_left_0 : decode cX2_left 0 = .ok (.iconst 4, 1) := by decide +kernel
theorem dX2_left_1 : decode cX2_left 1 = .ok (.aload_n 0, 1) := by decide +kernel
theorem dX2_left_2 : decode cX2_left 2 = .ok (.getfield 9, 3) := by decide +kernel
theorem dX2_left_5 : decode cX2_left 5 = .ok (.iload_n 1, 1) := by decide +kernel
theorem dX2_left_6 : decode cX2_left 6 = .ok (.iaload, 1) := by decide +kernel
theorem dX2_left_7 : decode cX2_left 7 = .ok (.isub, 1) := by decide +kernel
theorem dX2_left_8 : decode cX2_left 8 = .ok (.aload_n 0, 1) := by decide +kernel
theorem dX2_left_9 : decode cX2_left 9 = .ok (.getfield 16, 3) := by decide +kernel
theorem dX2_left_12 : decode cX2_left 12 = .ok (.iload_n 1, 1) := by decide +kernel
theorem dX2_left_13 : decode cX2_left 13 = .ok (.iaload, 1) := by decide +kernel
theorem dX2_left_14 : decode cX2_left 14 = .ok (.isub, 1) := by decide +kernel
theorem dX2_left_15 : decode cX2_left 15 = .ok (.aload_n 0, 1) := by decide +kernel
theorem dX2_left_16 : decode cX2_left 16 = .ok (.getfield 13, 3) := by decide +kernel
theorem dX2_left_19 : decode cX2_left 19 = .ok (.iload_n 1, 1) := by decide +kernel
theorem dX2_left_20 : decode cX2_left 20 = .ok (.iaload, 1) := by decide +kernel
theorem dX2_left_21 : decode cX2_left 21 = .ok (.isub, 1) := by decide +kernel
theorem dX2_left_22 : decode cX2_left 22 = .ok (.ireturn, 1) := by decide +kernel
set_option maxRecDepth 20000 in
theorem ggX2_draw_X2_isKind : GoodIn wsX2_draw wsX2_isKind := goodIn_r _ [6, 7, 8, 5, 9] (by decide +kernel) (by decide +kernel)
set_option maxRecDepth 20000 in
theorem gX2_draw_X2_isKind : GoodIn wsX2_draw (va_wsS RX2 72 yX2_isKind wsX2_isKind) := goodIn_app (goodIn_of _ (by decide +kernel)) ggX2_draw_X2_isKind
set_option maxRecDepth 20000 in
theorem ggX2_draw_X2_fail : GoodIn wsX2_draw wsX2_fail := goodIn_r _ [13, 1, 29, 30, 31, 32, 33, 34, 35, 36, 37, 38, 39, 40, 41, 42, 43, 44] (by decide +kernel) (by decide +kernel)
set_option maxRecDepth 20000 in
theorem gX2_draw_X2_fail : GoodIn wsX2_draw (wsV RX2 75 RX2 yX2_fail wsX2_fail) := goodIn_app (goodIn_of _ (by decide +kernel)) ggX2_draw_X2_fail
set_option maxRecDepth 20000 in
theorem ggX2_draw_X2_sizeOf : GoodIn wsX2_draw wsX2_sizeOf := goodIn_r _ [17, 18, 19, 20, 21, 5, 22, 2, 29, 30, 31, 32, 33, 34, 35, 36, 37, 38, 39, 40, 41, 42, 43, 44] (by decide +kernel) (by decide +kernel)
set_option maxRecDepth 20000 in
theorem gX2_draw_X2_sizeOf : GoodIn wsX2_draw (wsV RX2 79 RX2 yX2_sizeOf wsX2_sizeOf) := goodIn_app (goodIn_of _ (by decide +kernel)) ggX2_draw_X2_sizeOf
set_option maxRecDepth 20000 in
theorem ggX2_draw_X2_left : GoodIn wsX2_draw wsX2_left := goodIn_r _ [26, 2, 27, 28, 29, 30, 31, 32, 33, 34, 35, 36, 37, 38, 39, 40, 41, 42, 43, 44] (by decide +kernel) (by decide +kernel)
set_option maxRecDepth 20000 in
theorem gX2_draw_X2_left : GoodIn wsX2_draw (wsV RX2 82 RX2 yX2_left wsX2_left) := goodIn_app (goodIn_of _ (by decide +kernel)) ggX2_draw_X2_left
theorem dX2_draw_0 : decode cX2_draw 0 = .ok (.aload_n 0, 1) := by decide +kernel
theorem dX2_draw_1 : decode cX2_draw 1 = .ok (.iconst 0, 1) := by decide +kernel
theorem dX2_draw_2 : decode cX2_draw 2 = .ok (.putfield 54, 3) := by decide +kernel
theorem dX2_draw_5 : decode cX2_draw 5 = .ok (.iload_n 1, 1) := by decide +kernel
theorem dX2_draw_6 : decode cX2_draw 6 = .ok (.invokestatic 72, 3) := by decide +kernel
theorem dX2_draw_9 : decode cX2_draw 9 = .ok (.ifCond .ne 9, 3) := by decide +kernel
theorem dX2_draw_12 : decode cX2_draw 12 = .ok (.aload_n 0, 1) := by decide +kernel
theorem dX2_draw_13 : decode cX2_draw 13 = .ok (.iconst 1, 1) := by decide +kernel
theorem dX2_draw_14 : decode cX2_draw 14 = .ok (.invokevirtual 75, 3) := by decide +kernel
theorem dX2_draw_17 : decode cX2_draw 17 = .ok (.ireturn, 1) := by decide +kernel
theorem dX2_draw_18 : decode cX2_draw 18 = .ok (.aload_n 0, 1) := by decide +kernel
theorem dX2_draw_19 : decode cX2_draw 19 = .ok (.invokevirtual 79, 3) := by decide +kernel
theorem dX2_draw_22 : decode cX2_draw 22 = .ok (.bipush 14, 2) := by decide +kernel
theorem dX2_draw_24 : decode cX2_draw 24 = .ok (.if_icmp .eq 11, 3) := by decide +kernel
theorem dX2_draw_27 : decode cX2_draw 27 = .ok (.aload_n 0, 1) := by decide +kernel
theorem dX2_draw_28 : decode cX2_draw 28 = .ok (.iload_n 1, 1) := by decide +kernel
theorem dX2_draw_29 : decode cX2_draw 29 = .ok (.invokevirtual 82, 3) := by decide +kernel
theorem dX2_draw_32 : decode cX2_draw 32 = .ok (.ifCond .ne 9, 3) := by decide +kernel
theorem dX2_draw_35 : decode cX2_draw 35 = .ok (.aload_n 0, 1) := by decide +kernel
theorem dX2_draw_36 : decode cX2_draw 36 = .ok (.iconst 2, 1) := by decide +kernel
theorem dX2_draw_37 : decode cX2_draw 37 = .ok (.invokevirtual 75, 3) := by decide +kernel
theorem dX2_draw_40 : decode cX2_draw 40 = .ok (.ireturn, 1) := by decide +kernel
theorem dX2_draw_41 : decode cX2_draw 41 = .ok (.aload_n 0, 1) := by decide +kernel
theorem dX2_draw_42 : decode cX2_draw 42 = .ok (.getfield 9, 3) := by decide +kernel
theorem dX2_draw_45 : decode cX2_draw 45 = .ok (.iload_n 1, 1) := by decide +kernel
theorem dX2_draw_46 : decode cX2_draw 46 = .ok (.dup2, 1) := by decide +kernel
theorem dX2_draw_47 : decode cX2_draw 47 = .ok (.iaload, 1) := by decide +kernel
theorem dX2_draw_48 : decode cX2_draw 48 = .ok (.iconst 1, 1) := by decide +kernel
theorem dX2_draw_49 : decode cX2_draw 49 = .ok (.iadd, 1) := by decide +kernel
theorem dX2_draw_50 : decode cX2_draw 50 = .ok (.iastore, 1) := by decide +kernel
theorem dX2_draw_51 : decode cX2_draw 51 = .ok (.aload_n 0, 1) := by decide +kernel
theorem dX2_draw_52 : decode cX2_draw 52 = .ok (.invokevirtual 79, 3) := by decide +kernel
theorem dX2_draw_55 : decode cX2_draw 55 = .ok (.ireturn, 1) := by decide +kernel
set_option maxRecDepth 20000 in
theorem ggX2_drop_X2_isKind : GoodIn wsX2_drop wsX2_isKind := goodIn_r _ [7, 8, 9, 6, 10] (by decide +kernel) (by decide +kernel)
set_option maxRecDepth 20000 in
theorem gX2_drop_X2_isKind : GoodIn wsX2_drop (va_wsS RX2 72 yX2_isKind wsX2_isKind) := goodIn_app (goodIn_of _ (by decide +kernel)) ggX2_drop_X2_isKind
set_option maxRecDepth 20000 in
theorem ggX2_drop_X2_fail : GoodIn wsX2_drop wsX2_fail := goodIn_r _ [14, 1, 24, 25, 26, 27, 28, 29, 30, 31, 32, 33, 34, 35, 36, 37, 38, 39] (by decide +kernel) (by decide +kernel)
set_option maxRecDepth 20000 in
theorem gX2_drop_X2_fail : GoodIn wsX2_drop (wsV RX2 75 RX2 yX2_fail wsX2_fail) := goodIn_app (goodIn_of _ (by decide +kernel)) ggX2_drop_X2_fail
set_option maxRecDepth 20000 in
theorem ggX2_drop_X2_sizeOf : GoodIn wsX2_drop wsX2_sizeOf := goodIn_r _ [18, 19, 20, 21, 22, 6, 23, 2, 24, 25, 26, 27, 28, 29, 30, 31, 32, 33, 34, 35, 36, 37, 38, 39] (by decide +kernel) (by decide +kernel)
set_option maxRecDepth 20000 in
theorem gX2_drop_X2_sizeOf : GoodIn wsX2_drop (wsV RX2 79 RX2 yX2_sizeOf wsX2_sizeOf) := goodIn_app (goodIn_of _ (by decide +kernel)) ggX2_drop_X2_sizeOf
theorem dX2_drop_0 : decode cX2_drop 0 = .ok (.aload_n 0, 1) := by decide +kernel
theorem dX2_drop_1 : decode cX2_drop 1 = .ok (.iconst 0, 1) := by decide +kernel
theorem dX2_drop_2 : decode cX2_drop 2 = .ok (.putfield 54, 3) := by decide +kernel
theorem dX2_drop_5 : decode cX2_drop 5 = .ok (.iload_n 1, 1) := by decide +kernel
theorem dX2_drop_6 : decode cX2_drop 6 = .ok (.invokestatic 72, 3) := by decide +kernel
theorem dX2_drop_9 : decode cX2_drop 9 = .ok (.ifCond .ne 9, 3) := by decide +kernel
theorem dX2_drop_12 : decode cX2_drop 12 = .ok (.aload_n 0, 1) := by decide +kernel
theorem dX2_drop_13 : decode cX2_drop 13 = .ok (.iconst 1, 1) := by decide +kernel
theorem dX2_drop_14 : decode cX2_drop 14 = .ok (.invokevirtual 75, 3) := by decide +kernel
theorem dX2_drop_17 : decode cX2_drop 17 = .ok (.ireturn, 1) := by decide +kernel
theorem dX2_drop_18 : decode cX2_drop 18 = .ok (.aload_n 0, 1) := by decide +kernel
theorem dX2_drop_19 : decode cX2_drop 19 = .ok (.getfield 9, 3) := by decide +kernel
theorem dX2_drop_22 : decode cX2_drop 22 = .ok (.iload_n 1, 1) := by decide +kernel
theorem dX2_drop_23 : decode cX2_drop 23 = .ok (.iaload, 1) := by decide +kernel
theorem dX2_drop_24 : decode cX2_drop 24 = .ok (.ifCond .ne 9, 3) := by decide +kernel
theorem dX2_drop_27 : decode cX2_drop 27 = .ok (.aload_n 0, 1) := by decide +kernel
theorem dX2_drop_28 : decode cX2_drop 28 = .ok (.iconst 2, 1) := by decide +kernel
theorem dX2_drop_29 : decode cX2_drop 29 = .ok (.invokevirtual 75, 3) := by decide +kernel
theorem dX2_drop_32 : decode cX2_drop 32 = .ok (.ireturn, 1) := by decide +kernel
theorem dX2_drop_33 : decode cX2_drop 33 = .ok (.aload_n 0, 1) := by decide +kernel
theorem dX2_drop_34 : decode cX2_drop 34 = .ok (.getfield 9, 3) := by decide +kernel
theorem dX2_drop_37 : decode cX2_drop 37 = .ok (.iload_n 1, 1) := by decide +kernel
theorem dX2_drop_38 : decode cX2_drop 38 = .ok (.dup2, 1) := by decide +kernel
theorem dX2_drop_39 : decode cX2_drop 39 = .ok (.iaload, 1) := by decide +kernel
theorem dX2_drop_40 : decode cX2_drop 40 = .ok (.iconst 1, 1) := by decide +kernel
theorem dX2_drop_41 : decode cX2_drop 41 = .ok (.isub, 1) := by decide +kernel
theorem dX2_drop_42 : decode cX2_drop 42 = .ok (.iastore, 1) := by decide +kernel
theorem dX2_drop_43 : decode cX2_drop 43 = .ok (.aload_n 0, 1) := by decide +kernel
theorem dX2_drop_44 : decode cX2_drop 44 = .ok (.getfield 13, 3) := by decide +kernel
theorem dX2_drop_47 : decode cX2_drop 47 = .ok (.iload_n 1, 1) := by decide +kernel
theorem dX2_drop_48 : decode cX2_drop 48 = .ok (.dup2, 1) := by decide +kernel
theorem dX2_drop_49 : decode cX2_drop 49 = .ok (.iaload, 1) := by decide +kernel
theorem dX2_drop_50 : decode cX2_drop 50 = .ok (.iconst 1, 1) := by decide +kernel
theorem dX2_drop_51 : decode cX2_drop 51 = .ok (.iadd, 1) := by decide +kernel
theorem dX2_drop_52 : decode cX2_drop 52 = .ok (.iastore, 1) := by decide +kernel
theorem dX2_drop_53 : decode cX2_drop 53 = .ok (.aload_n 0, 1) := by decide +kernel
theorem dX2_drop_54 : decode cX2_drop 54 = .ok (.invokevirtual 79, 3) := by decide +kernel
theorem dX2_drop_57 : decode cX2_drop 57 = .ok (.ireturn, 1) := by decide +kernel
set_option maxRecDepth 20000 in
theorem ggX2_see_X2_isKind : GoodIn wsX2_see wsX2_isKind := goodIn_r _ [6, 7, 8, 5, 9] (by decide +kernel) (by decide +kernel)
set_option maxRecDepth 20000 in
theorem gX2_see_X2_isKind : GoodIn wsX2_see (va_wsS RX2 72 yX2_isKind wsX2_isKind) := goodIn_app (goodIn_of _ (by decide +kernel)) ggX2_see_X2_isKind
set_option maxRecDepth 20000 in
theorem ggX2_see_X2_fail : GoodIn wsX2_see wsX2_fail := goodIn_r _ [13, 1, 20, 21, 22, 23, 24, 25, 26, 27, 28, 29, 30, 31, 32, 33, 34, 35] (by decide +kernel) (by decide +kernel)
set_option maxRecDepth 20000 in
theorem gX2_see_X2_fail : GoodIn wsX2_see (wsV RX2 75 RX2 yX2_fail wsX2_fail) := goodIn_app (goodIn_of _ (by decide +kernel)) ggX2_see_X2_fail
set_option maxRecDepth 20000 in
theorem ggX2_see_X2_left : GoodIn wsX2_see wsX2_left := goodIn_r _ [17, 18, 19, 2, 20, 21, 22, 23, 24, 25, 26, 27, 28, 29, 30, 31, 32, 33, 34, 35] (by decide +kernel) (by decide +kernel)
set_option maxRecDepth 20000 in
theorem gX2_see_X2_left : GoodIn wsX2_see (wsV RX2 82 RX2 yX2_left wsX2_left) := goodIn_app (goodIn_of _ (by decide +kernel)) ggX2_see_X2_left
theorem dX2_see_0 : decode cX2_see 0 = .ok (.aload_n 0, 1) := by decide +kernel
theorem dX2_see_1 : decode cX2_see 1 = .ok (.iconst 0, 1) := by decide +kernel
theorem dX2_see_2 : decode cX2_see 2 = .ok (.putfield 54, 3) := by decide +kernel
theorem dX2_see_5 : decode cX2_see 5 = .ok (.iload_n 1, 1) := by decide +kernel
theorem dX2_see_6 : decode cX2_see 6 = .ok (.invokestatic 72, 3) := by decide +kernel
theorem dX2_see_9 : decode cX2_see 9 = .ok (.ifCond .ne 9, 3) := by decide +kernel
theorem dX2_see_12 : decode cX2_see 12 = .ok (.aload_n 0, 1) := by decide +kernel
theorem dX2_see_13 : decode cX2_see 13 = .ok (.iconst 1, 1) := by decide +kernel
theorem dX2_see_14 : decode cX2_see 14 = .ok (.invokevirtual 75, 3) := by decide +kernel
theorem dX2_see_17 : decode cX2_see 17 = .ok (.ireturn, 1) := by decide +kernel
theorem dX2_see_18 : decode cX2_see 18 = .ok (.aload_n 0, 1) := by decide +kernel
theorem dX2_see_19 : decode cX2_see 19 = .ok (.iload_n 1, 1) := by decide +kernel
theorem dX2_see_20 : decode cX2_see 20 = .ok (.invokevirtual 82, 3) := by decide +kernel
theorem dX2_see_23 : decode cX2_see 23 = .ok (.ifCond .ne 9, 3) := by decide +kernel
theorem dX2_see_26 : decode cX2_see 26 = .ok (.aload_n 0, 1) := by decide +kernel
theorem dX2_see_27 : decode cX2_see 27 = .ok (.iconst 2, 1) := by decide +kernel
theorem dX2_see_28 : decode cX2_see 28 = .ok (.invokevirtual 75, 3) := by decide +kernel
theorem dX2_see_31 : decode cX2_see 31 = .ok (.ireturn, 1) := by decide +kernel
theorem dX2_see_32 : decode cX2_see 32 = .ok (.aload_n 0, 1) := by decide +kernel
theorem dX2_see_33 : decode cX2_see 33 = .ok (.getfield 13, 3) := by decide +kernel
theorem dX2_see_36 : decode cX2_see 36 = .ok (.iload_n 1, 1) := by decide +kernel
theorem dX2_see_37 : decode cX2_see 37 = .ok (.dup2, 1) := by decide +kernel
theorem dX2_see_38 : decode cX2_see 38 = .ok (.iaload, 1) := by decide +kernel
theorem dX2_see_39 : decode cX2_see 39 = .ok (.iconst 1, 1) := by decide +kernel
theorem dX2_see_40 : decode cX2_see 40 = .ok (.iadd, 1) := by decide +kernel
theorem dX2_see_41 : decode cX2_see 41 = .ok (.iastore, 1) := by decide +kernel
theorem dX2_see_42 : decode cX2_see 42 = .ok (.aload_n 0, 1) := by decide +kernel
theorem dX2_see_43 : decode cX2_see 43 = .ok (.iload_n 1, 1) := by decide +kernel
theorem dX2_see_44 : decode cX2_see 44 = .ok (.invokevirtual 82, 3) := by decide +kernel
theorem dX2_see_47 : decode cX2_see 47 = .ok (.ireturn, 1) := by decide +kernel
theorem dX2_lay_0 : decode cX2_lay 0 = .ok (.aload_n 0, 1) := by decide +kernel
theorem dX2_lay_1 : decode cX2_lay 1 = .ok (.getfield 9, 3) := by decide +kernel
theorem dX2_lay_4 : decode cX2_lay 4 = .ok (.iload_n 1, 1) := by decide +kernel
theorem dX2_lay_5 : decode cX2_lay 5 = .ok (.dup2, 1) := by decide +kernel
theorem dX2_lay_6 : decode cX2_lay 6 = .ok (.iaload, 1) := by decide +kernel
theorem dX2_lay_7 : decode cX2_lay 7 = .ok (.iload_n 2, 1) := by decide +kernel
theorem dX2_lay_8 : decode cX2_lay 8 = .ok (.isub, 1) := by decide +kernel
theorem dX2_lay_9 : decode cX2_lay 9 = .ok (.iastore, 1) := by decide +kernel
theorem dX2_lay_10 : decode cX2_lay 10 = .ok (.aload_n 0, 1) := by decide +kernel
theorem dX2_lay_11 : decode cX2_lay 11 = .ok (.getfield 16, 3) := by decide +kernel
theorem dX2_lay_14 : decode cX2_lay 14 = .ok (.iload_n 1, 1) := by decide +kernel
theorem dX2_lay_15 : decode cX2_lay 15 = .ok (.dup2, 1) := by decide +kernel
theorem dX2_lay_16 : decode cX2_lay 16 = .ok (.iaload, 1) := by decide +kernel
theorem dX2_lay_17 : decode cX2_lay 17 = .ok (.iload_n 2, 1) := by decide +kernel
theorem dX2_lay_18 : decode cX2_lay 18 = .ok (.iadd, 1) := by decide +kernel
theorem dX2_lay_19 : decode cX2_lay 19 = .ok (.iastore, 1) := by decide +kernel
theorem dX2_lay_20 : decode cX2_lay 20 = .ok (.return_, 1) := by decide +kernel
set_option maxRecDepth 20000 in
theorem ggX2_meld_X2_isKind : GoodIn wsX2_meld wsX2_isKind := goodIn_r _ [10, 11, 12, 9, 13] (by decide +kernel) (by decide +kernel)
set_option maxRecDepth 20000 in
theorem gX2_meld_X2_isKind : GoodIn wsX2_meld (va_wsS RX2 72 yX2_isKind wsX2_isKind) := goodIn_app (goodIn_of _ (by decide +kernel)) ggX2_meld_X2_isKind
set_option maxRecDepth 20000 in
theorem ggX2_meld_X2_fail : GoodIn wsX2_meld wsX2_fail := goodIn_r _ [17, 1, 34, 35, 36, 37, 38, 39, 40, 41, 42, 43, 44, 45, 46, 47, 48, 49] (by decide +kernel) (by decide +kernel)
set_option maxRecDepth 20000 in
theorem gX2_meld_X2_fail : GoodIn wsX2_meld (wsV RX2 75 RX2 yX2_fail wsX2_fail) := goodIn_app (goodIn_of _ (by decide +kernel)) ggX2_meld_X2_fail
set_option maxRecDepth 20000 in
theorem ggX2_meld_X2_isIn : GoodIn wsX2_meld wsX2_isIn := goodIn_r _ [13] (by decide +kernel) (by decide +kernel)
set_option maxRecDepth 20000 in
theorem gX2_meld_X2_isIn : GoodIn wsX2_meld (va_wsS RX2 57 yX2_isIn wsX2_isIn) := goodIn_app (goodIn_of _ (by decide +kernel)) ggX2_meld_X2_isIn
set_option maxRecDepth 20000 in
theorem ggX2_meld_X2_beginsRow : GoodIn wsX2_meld wsX2_beginsRow := goodIn_r _ [20] (by decide +kernel) (by decide +kernel)
set_option maxRecDepth 20000 in
theorem gX2_meld_X2_beginsRow : GoodIn wsX2_meld (va_wsS RX2 85 yX2_beginsRow wsX2_beginsRow) := goodIn_app (goodIn_of _ (by decide +kernel)) ggX2_meld_X2_beginsRow
set_option maxRecDepth 20000 in
theorem ggX2_meld_X2_lay : GoodIn wsX2_meld wsX2_lay := goodIn_r _ [24, 2, 25, 34, 35, 36, 37, 38, 39, 40, 41, 42, 43, 44, 45, 46, 47, 48, 49] (by decide +kernel) (by decide +kernel)
set_option maxRecDepth 20000 in
theorem gX2_meld_X2_lay : GoodIn wsX2_meld (wsV RX2 88 RX2 yX2_lay wsX2_lay) := goodIn_app (goodIn_of _ (by decide +kernel)) ggX2_meld_X2_lay
set_option maxRecDepth 20000 in
theorem ggX2_meld_X2_sizeOf : GoodIn wsX2_meld wsX2_sizeOf := goodIn_r _ [29, 3, 30, 31, 32, 9, 33, 2, 34, 35, 36, 37, 38, 39, 40, 41, 42, 43, 44, 45, 46, 47, 48, 49] (by decide +kernel) (by decide +kernel)
set_option maxRecDepth 20000 in
theorem gX2_meld_X2_sizeOf : GoodIn wsX2_meld (wsV RX2 79 RX2 yX2_sizeOf wsX2_sizeOf) := goodIn_app (goodIn_of _ (by decide +kernel)) ggX2_meld_X2_sizeOf
theorem dX2_meld_0 : decode cX2_meld 0 = .ok (.aload_n 0, 1) := by decide +kernel
theorem dX2_meld_1 : decode cX2_meld 1 = .ok (.iconst 0, 1) := by decide +kernel
theorem dX2_meld_2 : decode cX2_meld 2 = .ok (.putfield 54, 3) := by decide +kernel
theorem dX2_meld_5 : decode cX2_meld 5 = .ok (.iload_n 2, 1) := by decide +kernel
theorem dX2_meld_6 : decode cX2_meld 6 = .ok (.invokestatic 72, 3) := by decide +kernel
theorem dX2_meld_9 : decode cX2_meld 9 = .ok (.ifCond .ne 9, 3) := by decide +kernel
theorem dX2_meld_12 : decode cX2_meld 12 = .ok (.aload_n 0, 1) := by decide +kernel
theorem dX2_meld_13 : decode cX2_meld 13 = .ok (.iconst 1, 1) := by decide +kernel
theorem dX2_meld_14 : decode cX2_meld 14 = .ok (.invokevirtual 75, 3) := by decide +kernel
theorem dX2_meld_17 : decode cX2_meld 17 = .ok (.ireturn, 1) := by decide +kernel
theorem dX2_meld_18 : decode cX2_meld 18 = .ok (.iload_n 1, 1) := by decide +kernel
theorem dX2_meld_19 : decode cX2_meld 19 = .ok (.iconst 0, 1) := by decide +kernel
theorem dX2_meld_20 : decode cX2_meld 20 = .ok (.iconst 2, 1) := by decide +kernel
theorem dX2_meld_21 : decode cX2_meld 21 = .ok (.invokestatic 57, 3) := by decide +kernel
theorem dX2_meld_24 : decode cX2_meld 24 = .ok (.ifCond .eq 14, 3) := by decide +kernel
theorem dX2_meld_27 : decode cX2_meld 27 = .ok (.iload_n 1, 1) := by decide +kernel
theorem dX2_meld_28 : decode cX2_meld 28 = .ok (.ifCond .ne 16, 3) := by decide +kernel
theorem dX2_meld_31 : decode cX2_meld 31 = .ok (.iload_n 2, 1) := by decide +kernel
theorem dX2_meld_32 : decode cX2_meld 32 = .ok (.invokestatic 85, 3) := by decide +kernel
theorem dX2_meld_35 : decode cX2_meld 35 = .ok (.ifCond .ne 9, 3) := by decide +kernel
theorem dX2_meld_38 : decode cX2_meld 38 = .ok (.aload_n 0, 1) := by decide +kernel
theorem dX2_meld_39 : decode cX2_meld 39 = .ok (.iconst 2, 1) := by decide +kernel
theorem dX2_meld_40 : decode cX2_meld 40 = .ok (.invokevirtual 75, 3) := by decide +kernel
theorem dX2_meld_43 : decode cX2_meld 43 = .ok (.ireturn, 1) := by decide +kernel
theorem dX2_meld_44 : decode cX2_meld 44 = .ok (.iload_n 1, 1) := by decide +kernel
theorem dX2_meld_45 : decode cX2_meld 45 = .ok (.ifCond .ne 42, 3) := by decide +kernel
theorem dX2_meld_48 : decode cX2_meld 48 = .ok (.aload_n 0, 1) := by decide +kernel
theorem dX2_meld_49 : decode cX2_meld 49 = .ok (.getfield 9, 3) := by decide +kernel
theorem dX2_meld_52 : decode cX2_meld 52 = .ok (.iload_n 2, 1) := by decide +kernel
theorem dX2_meld_53 : decode cX2_meld 53 = .ok (.iaload, 1) := by decide +kernel
theorem dX2_meld_54 : decode cX2_meld 54 = .ok (.ifCond .le 29, 3) := by decide +kernel
theorem dX2_meld_57 : decode cX2_meld 57 = .ok (.aload_n 0, 1) := by decide +kernel
theorem dX2_meld_58 : decode cX2_meld 58 = .ok (.getfield 9, 3) := by decide +kernel
theorem dX2_meld_61 : decode cX2_meld 61 = .ok (.iload_n 2, 1) := by decide +kernel
theorem dX2_meld_62 : decode cX2_meld 62 = .ok (.iconst 1, 1) := by decide +kernel
theorem dX2_meld_63 : decode cX2_meld 63 = .ok (.iadd, 1) := by decide +kernel
theorem dX2_meld_64 : decode cX2_meld 64 = .ok (.iaload, 1) := by decide +kernel
theorem dX2_meld_65 : decode cX2_meld 65 = .ok (.ifCond .le 18, 3) := by decide +kernel
theorem dX2_meld_68 : decode cX2_meld 68 = .ok (.aload_n 0, 1) := by decide +kernel
theorem dX2_meld_69 : decode cX2_meld 69 = .ok (.getfield 9, 3) := by decide +kernel
theorem dX2_meld_72 : decode cX2_meld 72 = .ok (.iload_n 2, 1) := by decide +kernel
theorem dX2_meld_73 : decode cX2_meld 73 = .ok (.iconst 2, 1) := by decide +kernel
theorem dX2_meld_74 : decode cX2_meld 74 = .ok (.iadd, 1) := by decide +kernel
theorem dX2_meld_75 : decode cX2_meld 75 = .ok (.iaload, 1) := by decide +kernel
theorem dX2_meld_76 : decode cX2_meld 76 = .ok (.ifCond .le 7, 3) := by decide +kernel
theorem dX2_meld_79 : decode cX2_meld 79 = .ok (.iconst 1, 1) := by decide +kernel
theorem dX2_meld_80 : decode cX2_meld 80 = .ok (.goto 24, 3) := by decide +kernel
theorem dX2_meld_83 : decode cX2_meld 83 = .ok (.iconst 0, 1) := by decide +kernel
theorem dX2_meld_84 : decode cX2_meld 84 = .ok (.goto 20, 3) := by decide +kernel
theorem dX2_meld_87 : decode cX2_meld 87 = .ok (.aload_n 0, 1) := by decide +kernel
theorem dX2_meld_88 : decode cX2_meld 88 = .ok (.getfield 9, 3) := by decide +kernel
theorem dX2_meld_91 : decode cX2_meld 91 = .ok (.iload_n 2, 1) := by decide +kernel
theorem dX2_meld_92 : decode cX2_meld 92 = .ok (.iaload, 1) := by decide +kernel
theorem dX2_meld_93 : decode cX2_meld 93 = .ok (.iload_n 1, 1) := by decide +kernel
theorem dX2_meld_94 : decode cX2_meld 94 = .ok (.iconst 2, 1) := by decide +kernel
theorem dX2_meld_95 : decode cX2_meld 95 = .ok (.iadd, 1) := by decide +kernel
theorem dX2_meld_96 : decode cX2_meld 96 = .ok (.if_icmp .lt 7, 3) := by decide +kernel
theorem dX2_meld_99 : decode cX2_meld 99 = .ok (.iconst 1, 1) := by decide +kernel
theorem dX2_meld_100 : decode cX2_meld 100 = .ok (.goto 4, 3) := by decide +kernel
theorem dX2_meld_103 : decode cX2_meld 103 = .ok (.iconst 0, 1) := by decide +kernel
theorem dX2_meld_104 : decode cX2_meld 104 = .ok (.istore 4, 2) := by decide +kernel
theorem dX2_meld_106 : decode cX2_meld 106 = .ok (.iload 4, 2) := by decide +kernel
theorem dX2_meld_108 : decode cX2_meld 108 = .ok (.ifCond .eq 11, 3) := by decide +kernel
theorem dX2_meld_111 : decode cX2_meld 111 = .ok (.aload_n 0, 1) := by decide +kernel
theorem dX2_meld_112 : decode cX2_meld 112 = .ok (.getfield 69, 3) := by decide +kernel
theorem dX2_meld_115 : decode cX2_meld 115 = .ok (.iconst 4, 1) := by decide +kernel
theorem dX2_meld_116 : decode cX2_meld 116 = .ok (.if_icmp .ne 9, 3) := by decide +kernel
theorem dX2_meld_119 : decode cX2_meld 119 = .ok (.aload_n 0, 1) := by decide +kernel
theorem dX2_meld_120 : decode cX2_meld 120 = .ok (.iconst 3, 1) := by decide +kernel
theorem dX2_meld_121 : decode cX2_meld 121 = .ok (.invokevirtual 75, 3) := by decide +kernel
theorem dX2_meld_124 : decode cX2_meld 124 = .ok (.ireturn, 1) := by decide +kernel
theorem dX2_meld_125 : decode cX2_meld 125 = .ok (.iload_n 1, 1) := by decide +kernel
theorem dX2_meld_126 : decode cX2_meld 126 = .ok (.ifCond .ne 30, 3) := by decide +kernel
theorem dX2_meld_129 : decode cX2_meld 129 = .ok (.iload_n 2, 1) := by decide +kernel
theorem dX2_meld_130 : decode cX2_meld 130 = .ok (.istore 5, 2) := by decide +kernel
theorem dX2_meld_132 : decode cX2_meld 132 = .ok (.iload 5, 2) := by decide +kernel
theorem dX2_meld_134 : decode cX2_meld 134 = .ok (.iload_n 2, 1) := by decide +kernel
theorem dX2_meld_135 : decode cX2_meld 135 = .ok (.iconst 3, 1) := by decide +kernel
theorem dX2_meld_136 : decode cX2_meld 136 = .ok (.iadd, 1) := by decide +kernel
theorem dX2_meld_137 : decode cX2_meld 137 = .ok (.if_icmp .ge 16, 3) := by decide +kernel
theorem dX2_meld_140 : decode cX2_meld 140 = .ok (.aload_n 0, 1) := by decide +kernel
theorem dX2_meld_141 : decode cX2_meld 141 = .ok (.iload 5, 2) := by decide +kernel
theorem dX2_meld_143 : decode cX2_meld 143 = .ok (.iconst 1, 1) := by decide +kernel
theorem dX2_meld_144 : decode cX2_meld 144 = .ok (.invokevirtual 88, 3) := by decide +kernel
theorem dX2_meld_147 : decode cX2_meld 147 = .ok (.iinc 5 1, 3) := by decide +kernel
theorem dX2_meld_150 : decode cX2_meld 150 = .ok (.goto (-18), 3) := by decide +kernel
theorem dX2_meld_153 : decode cX2_meld 153 = .ok (.goto 11, 3) := by decide +kernel
theorem dX2_meld_156 : decode cX2_meld 156 = .ok (.aload_n 0, 1) := by decide +kernel
theorem dX2_meld_157 : decode cX2_meld 157 = .ok (.iload_n 2, 1) := by decide +kernel
theorem dX2_meld_158 : decode cX2_meld 158 = .ok (.iload_n 1, 1) := by decide +kernel
theorem dX2_meld_159 : decode cX2_meld 159 = .ok (.iconst 2, 1) := by decide +kernel
theorem dX2_meld_160 : decode cX2_meld 160 = .ok (.iadd, 1) := by decide +kernel
theorem dX2_meld_161 : decode cX2_meld 161 = .ok (.invokevirtual 88, 3) := by decide +kernel
theorem dX2_meld_164 : decode cX2_meld 164 = .ok (.aload_n 0, 1) := by decide +kernel
theorem dX2_meld_165 : decode cX2_meld 165 = .ok (.getfield 19, 3) := by decide +kernel
theorem dX2_meld_168 : decode cX2_meld 168 = .ok (.aload_n 0, 1) := by decide +kernel
theorem dX2_meld_169 : decode cX2_meld 169 = .ok (.getfield 69, 3) := by decide +kernel
theorem dX2_meld_172 : decode cX2_meld 172 = .ok (.iload_n 1, 1) := by decide +kernel
theorem dX2_meld_173 : decode cX2_meld 173 = .ok (.iastore, 1) := by decide +kernel
theorem dX2_meld_174 : decode cX2_meld 174 = .ok (.aload_n 0, 1) := by decide +kernel
theorem dX2_meld_175 : decode cX2_meld 175 = .ok (.getfield 22, 3) := by decide +kernel
theorem dX2_meld_178 : decode cX2_meld 178 = .ok (.aload_n 0, 1) := by decide +kernel
theorem dX2_meld_179 : decode cX2_meld 179 = .ok (.getfield 69, 3) := by decide +kernel
theorem dX2_meld_182 : decode cX2_meld 182 = .ok (.iload_n 2, 1) := by decide +kernel
theorem dX2_meld_183 : decode cX2_meld 183 = .ok (.iastore, 1) := by decide +kernel
theorem dX2_meld_184 : decode cX2_meld 184 = .ok (.aload_n 0, 1) := by decide +kernel
theorem dX2_meld_185 : decode cX2_meld 185 = .ok (.getfield 25, 3) := by decide +kernel
theorem dX2_meld_188 : decode cX2_meld 188 = .ok (.aload_n 0, 1) := by decide +kernel
theorem dX2_meld_189 : decode cX2_meld 189 = .ok (.getfield 69, 3) := by decide +kernel
theorem dX2_meld_192 : decode cX2_meld 192 = .ok (.iload_n 3, 1) := by decide +kernel
theorem dX2_meld_193 : decode cX2_meld 193 = .ok (.bastore, 1) := by decide +kernel
theorem dX2_meld_194 : decode cX2_meld 194 = .ok (.aload_n 0, 1) := by decide +kernel
theorem dX2_meld_195 : decode cX2_meld 195 = .ok (.dup, 1) := by decide +kernel
theorem dX2_meld_196 : decode cX2_meld 196 = .ok (.getfield 69, 3) := by decide +kernel
theorem dX2_meld_199 : decode cX2_meld 199 = .ok (.iconst 1, 1) := by decide +kernel
theorem dX2_meld_200 : decode cX2_meld 200 = .ok (.iadd, 1) := by decide +kernel
theorem dX2_meld_201 : decode cX2_meld 201 = .ok (.putfield 69, 3) := by decide +kernel
theorem dX2_meld_204 : decode cX2_meld 204 = .ok (.aload_n 0, 1) := by decide +kernel
theorem dX2_meld_205 : decode cX2_meld 205 = .ok (.invokevirtual 79, 3) := by decide +kernel
theorem dX2_meld_208 : decode cX2_meld 208 = .ok (.ireturn, 1) := by decide +kernel
set_option maxRecDepth 20000 in
theorem ggX2_grow_X2_isKind : GoodIn wsX2_grow wsX2_isKind := goodIn_r _ [9, 10, 11, 8, 12] (by decide +kernel) (by decide +kernel)
set_option maxRecDepth 20000 in
theorem gX2_grow_X2_isKind : GoodIn wsX2_grow (va_wsS RX2 72 yX2_isKind wsX2_isKind) := goodIn_app (goodIn_of _ (by decide +kernel)) ggX2_grow_X2_isKind
set_option maxRecDepth 20000 in
theorem ggX2_grow_X2_fail : GoodIn wsX2_grow wsX2_fail := goodIn_r _ [16, 1, 30, 31, 32, 33, 34, 35, 36, 37, 38, 39, 40, 41, 42, 43, 44, 45] (by decide +kernel) (by decide +kernel)
set_option maxRecDepth 20000 in
theorem gX2_grow_X2_fail : GoodIn wsX2_grow (wsV RX2 75 RX2 yX2_fail wsX2_fail) := goodIn_app (goodIn_of _ (by decide +kernel)) ggX2_grow_X2_fail
set_option maxRecDepth 20000 in
theorem ggX2_grow_X2_lay : GoodIn wsX2_grow wsX2_lay := goodIn_r _ [20, 5, 21, 30, 31, 32, 33, 34, 35, 36, 37, 38, 39, 40, 41, 42, 43, 44, 45] (by decide +kernel) (by decide +kernel)
set_option maxRecDepth 20000 in
theorem gX2_grow_X2_lay : GoodIn wsX2_grow (wsV RX2 88 RX2 yX2_lay wsX2_lay) := goodIn_app (goodIn_of _ (by decide +kernel)) ggX2_grow_X2_lay
set_option maxRecDepth 20000 in
theorem ggX2_grow_X2_sizeOf : GoodIn wsX2_grow wsX2_sizeOf := goodIn_r _ [25, 2, 26, 27, 28, 8, 29, 5, 30, 31, 32, 33, 34, 35, 36, 37, 38, 39, 40, 41, 42, 43, 44, 45] (by decide +kernel) (by decide +kernel)
set_option maxRecDepth 20000 in
theorem gX2_grow_X2_sizeOf : GoodIn wsX2_grow (wsV RX2 79 RX2 yX2_sizeOf wsX2_sizeOf) := goodIn_app (goodIn_of _ (by decide +kernel)) ggX2_grow_X2_sizeOf
theorem dX2_grow_0 : decode cX2_grow 0 = .ok (.aload_n 0, 1) := by decide +kernel
theorem dX2_grow_1 : decode cX2_grow 1 = .ok (.iconst 0, 1) := by decide +kernel
theorem dX2_grow_2 : decode cX2_grow 2 = .ok (.putfield 54, 3) := by decide +kernel
theorem dX2_grow_5 : decode cX2_grow 5 = .ok (.iload_n 1, 1) := by decide +kernel
theorem dX2_grow_6 : decode cX2_grow 6 = .ok (.invokestatic 72, 3) := by decide +kernel
theorem dX2_grow_9 : decode cX2_grow 9 = .ok (.ifCond .ne 9, 3) := by decide +kernel
theorem dX2_grow_12 : decode cX2_grow 12 = .ok (.aload_n 0, 1) := by decide +kernel
theorem dX2_grow_13 : decode cX2_grow 13 = .ok (.iconst 1, 1) := by decide +kernel
theorem dX2_grow_14 : decode cX2_grow 14 = .ok (.invokevirtual 75, 3) := by decide +kernel
theorem dX2_grow_17 : decode cX2_grow 17 = .ok (.ireturn, 1) := by decide +kernel
theorem dX2_grow_18 : decode cX2_grow 18 = .ok (.iconst (-1), 1) := by decide +kernel
theorem dX2_grow_19 : decode cX2_grow 19 = .ok (.istore_n 2, 1) := by decide +kernel
theorem dX2_grow_20 : decode cX2_grow 20 = .ok (.iconst 0, 1) := by decide +kernel
theorem dX2_grow_21 : decode cX2_grow 21 = .ok (.istore_n 3, 1) := by decide +kernel
theorem dX2_grow_22 : decode cX2_grow 22 = .ok (.iload_n 3, 1) := by decide +kernel
theorem dX2_grow_23 : decode cX2_grow 23 = .ok (.aload_n 0, 1) := by decide +kernel
theorem dX2_grow_24 : decode cX2_grow 24 = .ok (.getfield 69, 3) := by decide +kernel
theorem dX2_grow_27 : decode cX2_grow 27 = .ok (.if_icmp .ge 31, 3) := by decide +kernel
theorem dX2_grow_30 : decode cX2_grow 30 = .ok (.aload_n 0, 1) := by decide +kernel
theorem dX2_grow_31 : decode cX2_grow 31 = .ok (.getfield 19, 3) := by decide +kernel
theorem dX2_grow_34 : decode cX2_grow 34 = .ok (.iload_n 3, 1) := by decide +kernel
theorem dX2_grow_35 : decode cX2_grow 35 = .ok (.iaload, 1) := by decide +kernel
theorem dX2_grow_36 : decode cX2_grow 36 = .ok (.iconst 1, 1) := by decide +kernel
theorem dX2_grow_37 : decode cX2_grow 37 = .ok (.if_icmp .ne 15, 3) := by decide +kernel
theorem dX2_grow_40 : decode cX2_grow 40 = .ok (.aload_n 0, 1) := by decide +kernel
theorem dX2_grow_41 : decode cX2_grow 41 = .ok (.getfield 22, 3) := by decide +kernel
theorem dX2_grow_44 : decode cX2_grow 44 = .ok (.iload_n 3, 1) := by decide +kernel
theorem dX2_grow_45 : decode cX2_grow 45 = .ok (.iaload, 1) := by decide +kernel
theorem dX2_grow_46 : decode cX2_grow 46 = .ok (.iload_n 1, 1) := by decide +kernel
theorem dX2_grow_47 : decode cX2_grow 47 = .ok (.if_icmp .ne 5, 3) := by decide +kernel
theorem dX2_grow_50 : decode cX2_grow 50 = .ok (.iload_n 3, 1) := by decide +kernel
theorem dX2_grow_51 : decode cX2_grow 51 = .ok (.istore_n 2, 1) := by decide +kernel
theorem dX2_grow_52 : decode cX2_grow 52 = .ok (.iinc 3 1, 3) := by decide +kernel
theorem dX2_grow_55 : decode cX2_grow 55 = .ok (.goto (-33), 3) := by decide +kernel
theorem dX2_grow_58 : decode cX2_grow 58 = .ok (.iload_n 2, 1) := by decide +kernel
theorem dX2_grow_59 : decode cX2_grow 59 = .ok (.iconst (-1), 1) := by decide +kernel
theorem dX2_grow_60 : decode cX2_grow 60 = .ok (.if_icmp .eq 12, 3) := by decide +kernel
theorem dX2_grow_63 : decode cX2_grow 63 = .ok (.aload_n 0, 1) := by decide +kernel
theorem dX2_grow_64 : decode cX2_grow 64 = .ok (.getfield 9, 3) := by decide +kernel
theorem dX2_grow_67 : decode cX2_grow 67 = .ok (.iload_n 1, 1) := by decide +kernel
theorem dX2_grow_68 : decode cX2_grow 68 = .ok (.iaload, 1) := by decide +kernel
theorem dX2_grow_69 : decode cX2_grow 69 = .ok (.ifCond .ne 9, 3) := by decide +kernel
theorem dX2_grow_72 : decode cX2_grow 72 = .ok (.aload_n 0, 1) := by decide +kernel
theorem dX2_grow_73 : decode cX2_grow 73 = .ok (.iconst 2, 1) := by decide +kernel
theorem dX2_grow_74 : decode cX2_grow 74 = .ok (.invokevirtual 75, 3) := by decide +kernel
theorem dX2_grow_77 : decode cX2_grow 77 = .ok (.ireturn, 1) := by decide +kernel
theorem dX2_grow_78 : decode cX2_grow 78 = .ok (.aload_n 0, 1) := by decide +kernel
theorem dX2_grow_79 : decode cX2_grow 79 = .ok (.iload_n 1, 1) := by decide +kernel
theorem dX2_grow_80 : decode cX2_grow 80 = .ok (.iconst 1, 1) := by decide +kernel
theorem dX2_grow_81 : decode cX2_grow 81 = .ok (.invokevirtual 88, 3) := by decide +kernel
theorem dX2_grow_84 : decode cX2_grow 84 = .ok (.aload_n 0, 1) := by decide +kernel
theorem dX2_grow_85 : decode cX2_grow 85 = .ok (.getfield 19, 3) := by decide +kernel
theorem dX2_grow_88 : decode cX2_grow 88 = .ok (.iload_n 2, 1) := by decide +kernel
theorem dX2_grow_89 : decode cX2_grow 89 = .ok (.iconst 2, 1) := by decide +kernel
theorem dX2_grow_90 : decode cX2_grow 90 = .ok (.iastore, 1) := by decide +kernel
theorem dX2_grow_91 : decode cX2_grow 91 = .ok (.aload_n 0, 1) := by decide +kernel
theorem dX2_grow_92 : decode cX2_grow 92 = .ok (.invokevirtual 79, 3) := by decide +kernel
theorem dX2_grow_95 : decode cX2_grow 95 = .ok (.ireturn, 1) := by decide +kernel
set_option maxRecDepth 20000 in
theorem ggX2_begin_X2_sizeOf : GoodIn wsX2_begin wsX2_sizeOf := goodIn_r _ [10, 5, 11, 12, 13, 9, 14, 2, 15, 16, 17, 18, 19, 20, 21, 22, 23, 24, 25, 26, 27, 28, 29, 30] (by decide +kernel) (by decide +kernel)
set_option maxRecDepth 20000 in
theorem gX2_begin_X2_sizeOf : GoodIn wsX2_begin (wsV RX2 79 RX2 yX2_sizeOf wsX2_sizeOf) := goodIn_app (goodIn_of _ (by decide +kernel)) ggX2_begin_X2_sizeOf
theorem dX2_begin_0 : decode cX2_begin 0 = .ok (.aload_n 0, 1) := by decide +kernel
theorem dX2_begin_1 : decode cX2_begin 1 = .ok (.iconst 0, 1) := by decide +kernel
theorem dX2_begin_2 : decode cX2_begin 2 = .ok (.putfield 54, 3) := by decide +kernel
theorem dX2_begin_5 : decode cX2_begin 5 = .ok (.aload_n 0, 1) := by decide +kernel
theorem dX2_begin_6 : decode cX2_begin 6 = .ok (.invokevirtual 79, 3) := by decide +kernel
theorem dX2_begin_9 : decode cX2_begin 9 = .ok (.istore_n 1, 1) := by decide +kernel
theorem dX2_begin_10 : decode cX2_begin 10 = .ok (.iconst 0, 1) := by decide +kernel
theorem dX2_begin_11 : decode cX2_begin 11 = .ok (.istore_n 2, 1) := by decide +kernel
theorem dX2_begin_12 : decode cX2_begin 12 = .ok (.iload_n 2, 1) := by decide +kernel
theorem dX2_begin_13 : decode cX2_begin 13 = .ok (.bipush 34, 2) := by decide +kernel
theorem dX2_begin_15 : decode cX2_begin 15 = .ok (.if_icmp .ge 30, 3) := by decide +kernel
theorem dX2_begin_18 : decode cX2_begin 18 = .ok (.aload_n 0, 1) := by decide +kernel
theorem dX2_begin_19 : decode cX2_begin 19 = .ok (.getfield 9, 3) := by decide +kernel
theorem dX2_begin_22 : decode cX2_begin 22 = .ok (.iload_n 2, 1) := by decide +kernel
theorem dX2_begin_23 : decode cX2_begin 23 = .ok (.iconst 0, 1) := by decide +kernel
theorem dX2_begin_24 : decode cX2_begin 24 = .ok (.iastore, 1) := by decide +kernel
theorem dX2_begin_25 : decode cX2_begin 25 = .ok (.aload_n 0, 1) := by decide +kernel
theorem dX2_begin_26 : decode cX2_begin 26 = .ok (.getfield 13, 3) := by decide +kernel
theorem dX2_begin_29 : decode cX2_begin 29 = .ok (.iload_n 2, 1) := by decide +kernel
theorem dX2_begin_30 : decode cX2_begin 30 = .ok (.iconst 0, 1) := by decide +kernel
theorem dX2_begin_31 : decode cX2_begin 31 = .ok (.iastore, 1) := by decide +kernel
theorem dX2_begin_32 : decode cX2_begin 32 = .ok (.aload_n 0, 1) := by decide +kernel
theorem dX2_begin_33 : decode cX2_begin 33 = .ok (.getfield 16, 3) := by decide +kernel
theorem dX2_begin_36 : decode cX2_begin 36 = .ok (.iload_n 2, 1) := by decide +kernel
theorem dX2_begin_37 : decode cX2_begin 37 = .ok (.iconst 0, 1) := by decide +kernel
theorem dX2_begin_38 : decode cX2_begin 38 = .ok (.iastore, 1) := by decide +kernel
theorem dX2_begin_39 : decode cX2_begin 39 = .ok (.iinc 2 1, 3) := by decide +kernel
theorem dX2_begin_42 : decode cX2_begin 42 = .ok (.goto (-30), 3) := by decide +kernel
theorem dX2_begin_45 : decode cX2_begin 45 = .ok (.aload_n 0, 1) := by decide +kernel
theorem dX2_begin_46 : decode cX2_begin 46 = .ok (.iconst 0, 1) := by decide +kernel
theorem dX2_begin_47 : decode cX2_begin 47 = .ok (.putfield 69, 3) := by decide +kernel
theorem dX2_begin_50 : decode cX2_begin 50 = .ok (.iload_n 1, 1) := by decide +kernel
theorem dX2_begin_51 : decode cX2_begin 51 = .ok (.ireturn, 1) := by decide +kernel
set_option maxRecDepth 20000 in
theorem ggX2_size_X2_sizeOf : GoodIn wsX2_size wsX2_sizeOf := goodIn_r _ [6, 7, 8, 9, 10, 5, 11, 12, 13, 14, 15, 16, 17, 18, 19, 20, 21, 22, 23, 24, 25, 26, 27, 28] (by decide +kernel) (by decide +kernel)
set_option maxRecDepth 20000 in
theorem gX2_size_X2_sizeOf : GoodIn wsX2_size (wsV RX2 79 RX2 yX2_sizeOf wsX2_sizeOf) := goodIn_app (goodIn_of _ (by decide +kernel)) ggX2_size_X2_sizeOf
theorem dX2_size_0 : decode cX2_size 0 = .ok (.aload_n 0, 1) := by decide +kernel
theorem dX2_size_1 : decode cX2_size 1 = .ok (.iconst 0, 1) := by decide +kernel
theorem dX2_size_2 : decode cX2_size 2 = .ok (.putfield 54, 3) := by decide +kernel
theorem dX2_size_5 : decode cX2_size 5 = .ok (.aload_n 0, 1) := by decide +kernel
theorem dX2_size_6 : decode cX2_size 6 = .ok (.invokevirtual 79, 3) := by decide +kernel
theorem dX2_size_9 : decode cX2_size 9 = .ok (.ireturn, 1) := by decide +kernel
set_option maxRecDepth 20000 in
theorem ggX2_count_X2_isKind : GoodIn wsX2_count wsX2_isKind := goodIn_r _ [7, 8, 9, 6, 10] (by decide +kernel) (by decide +kernel)
set_option maxRecDepth 20000 in
theorem gX2_count_X2_isKind : GoodIn wsX2_count (va_wsS RX2 72 yX2_isKind wsX2_isKind) := goodIn_app (goodIn_of _ (by decide +kernel)) ggX2_count_X2_isKind
set_option maxRecDepth 20000 in
theorem ggX2_count_X2_fail : GoodIn wsX2_count wsX2_fail := goodIn_r _ [14, 1, 15, 16, 17, 18, 19, 20, 21, 22, 23, 24, 25, 26, 27, 28, 29, 30] (by decide +kernel) (by decide +kernel)
set_option maxRecDepth 20000 in
theorem gX2_count_X2_fail : GoodIn wsX2_count (wsV RX2 75 RX2 yX2_fail wsX2_fail) := goodIn_app (goodIn_of _ (by decide +kernel)) ggX2_count_X2_fail
theorem dX2_count_0 : decode cX2_count 0 = .ok (.aload_n 0, 1) := by decide +kernel
theorem dX2_count_1 : decode cX2_count 1 = .ok (.iconst 0, 1) := by decide +kernel
theorem dX2_count_2 : decode cX2_count 2 = .ok (.putfield 54, 3) := by decide +kernel
theorem dX2_count_5 : decode cX2_count 5 = .ok (.iload_n 1, 1) := by decide +kernel
theorem dX2_count_6 : decode cX2_count 6 = .ok (.invokestatic 72, 3) := by decide +kernel
theorem dX2_count_9 : decode cX2_count 9 = .ok (.ifCond .ne 9, 3) := by decide +kernel
theorem dX2_count_12 : decode cX2_count 12 = .ok (.aload_n 0, 1) := by decide +kernel
theorem dX2_count_13 : decode cX2_count 13 = .ok (.iconst 1, 1) := by decide +kernel
theorem dX2_count_14 : decode cX2_count 14 = .ok (.invokevirtual 75, 3) := by decide +kernel
theorem dX2_count_17 : decode cX2_count 17 = .ok (.ireturn, 1) := by decide +kernel
theorem dX2_count_18 : decode cX2_count 18 = .ok (.iload_n 2, 1) := by decide +kernel
theorem dX2_count_19 : decode cX2_count 19 = .ok (.ifCond .eq 12, 3) := by decide +kernel
theorem dX2_count_22 : decode cX2_count 22 = .ok (.aload_n 0, 1) := by decide +kernel
theorem dX2_count_23 : decode cX2_count 23 = .ok (.getfield 13, 3) := by decide +kernel
theorem dX2_count_26 : decode cX2_count 26 = .ok (.iload_n 1, 1) := by decide +kernel
theorem dX2_count_27 : decode cX2_count 27 = .ok (.iaload, 1) := by decide +kernel
theorem dX2_count_28 : decode cX2_count 28 = .ok (.goto 9, 3) := by decide +kernel
theorem dX2_count_31 : decode cX2_count 31 = .ok (.aload_n 0, 1) := by decide +kernel
theorem dX2_count_32 : decode cX2_count 32 = .ok (.getfield 9, 3) := by decide +kernel
theorem dX2_count_35 : decode cX2_count 35 = .ok (.iload_n 1, 1) := by decide +kernel
theorem dX2_count_36 : decode cX2_count 36 = .ok (.iaload, 1) := by decide +kernel
theorem dX2_count_37 : decode cX2_count 37 = .ok (.ireturn, 1) := by decide +kernel
theorem dX2_melds_0 : decode cX2_melds 0 = .ok (.aload_n 0, 1) := by decide +kernel
theorem dX2_melds_1 : decode cX2_melds 1 = .ok (.iconst 0, 1) := by decide +kernel
theorem dX2_melds_2 : decode cX2_melds 2 = .ok (.putfield 54, 3) := by decide +kernel
theorem dX2_melds_5 : decode cX2_melds 5 = .ok (.aload_n 0, 1) := by decide +kernel
theorem dX2_melds_6 : decode cX2_melds 6 = .ok (.getfield 69, 3) := by decide +kernel
theorem dX2_melds_9 : decode cX2_melds 9 = .ok (.ireturn, 1) := by decide +kernel
theorem dX2_told_0 : decode cX2_told 0 = .ok (.iload_n 2, 1) := by decide +kernel
theorem dX2_told_1 : decode cX2_told 1 = .ok (.ifCond .ne 12, 3) := by decide +kernel
theorem dX2_told_4 : decode cX2_told 4 = .ok (.aload_n 0, 1) := by decide +kernel
theorem dX2_told_5 : decode cX2_told 5 = .ok (.getfield 19, 3) := by decide +kernel
theorem dX2_told_8 : decode cX2_told 8 = .ok (.iload_n 1, 1) := by decide +kernel
theorem dX2_told_9 : decode cX2_told 9 = .ok (.iaload, 1) := by decide +kernel
theorem dX2_told_10 : decode cX2_told 10 = .ok (.goto 31, 3) := by decide +kernel
theorem dX2_told_13 : decode cX2_told 13 = .ok (.iload_n 2, 1) := by decide +kernel
theorem dX2_told_14 : decode cX2_told 14 = .ok (.iconst 1, 1) := by decide +kernel
theorem dX2_told_15 : decode cX2_told 15 = .ok (.if_icmp .ne 12, 3) := by decide +kernel
theorem dX2_told_18 : decode cX2_told 18 = .ok (.aload_n 0, 1) := by decide +kernel
theorem dX2_told_19 : decode cX2_told 19 = .ok (.getfield 22, 3) := by decide +kernel
theorem dX2_told_22 : decode cX2_told 22 = .ok (.iload_n 1, 1) := by decide +kernel
theorem dX2_told_23 : decode cX2_told 23 = .ok (.iaload, 1) := by decide +kernel
theorem dX2_told_24 : decode cX2_told 24 = .ok (.goto 17, 3) := by decide +kernel
theorem dX2_told_27 : decode cX2_told 27 = .ok (.aload_n 0, 1) := by decide +kernel
theorem dX2_told_28 : decode cX2_told 28 = .ok (.getfield 25, 3) := by decide +kernel
theorem dX2_told_31 : decode cX2_told 31 = .ok (.iload_n 1, 1) := by decide +kernel
theorem dX2_told_32 : decode cX2_told 32 = .ok (.baload, 1) := by decide +kernel
theorem dX2_told_33 : decode cX2_told 33 = .ok (.ifCond .eq 7, 3) := by decide +kernel
theorem dX2_told_36 : decode cX2_told 36 = .ok (.iconst 1, 1) := by decide +kernel
theorem dX2_told_37 : decode cX2_told 37 = .ok (.goto 4, 3) := by decide +kernel
theorem dX2_told_40 : decode cX2_told 40 = .ok (.iconst 0, 1) := by decide +kernel
theorem dX2_told_41 : decode cX2_told 41 = .ok (.ireturn, 1) := by decide +kernel
set_option maxRecDepth 20000 in
theorem ggX2_meldAt_X2_isIn : GoodIn wsX2_meldAt wsX2_isIn := goodIn_r _ [6] (by decide +kernel) (by decide +kernel)
set_option maxRecDepth 20000 in
theorem gX2_meldAt_X2_isIn : GoodIn wsX2_meldAt (va_wsS RX2 57 yX2_isIn wsX2_isIn) := goodIn_app (goodIn_of _ (by decide +kernel)) ggX2_meldAt_X2_isIn
set_option maxRecDepth 20000 in
theorem ggX2_meldAt_X2_told : GoodIn wsX2_meldAt wsX2_told := goodIn_r _ [10, 11, 12, 13, 18, 19, 20, 21, 22, 23, 24, 25, 26, 27, 28, 29, 30, 31, 32, 33] (by decide +kernel) (by decide +kernel)
set_option maxRecDepth 20000 in
theorem gX2_meldAt_X2_told : GoodIn wsX2_meldAt (wsV RX2 92 RX2 yX2_told wsX2_told) := goodIn_app (goodIn_of _ (by decide +kernel)) ggX2_meldAt_X2_told
set_option maxRecDepth 20000 in
theorem ggX2_meldAt_X2_fail : GoodIn wsX2_meldAt wsX2_fail := goodIn_r _ [17, 1, 18, 19, 20, 21, 22, 23, 24, 25, 26, 27, 28, 29, 30, 31, 32, 33] (by decide +kernel) (by decide +kernel)
set_option maxRecDepth 20000 in
theorem gX2_meldAt_X2_fail : GoodIn wsX2_meldAt (wsV RX2 75 RX2 yX2_fail wsX2_fail) := goodIn_app (goodIn_of _ (by decide +kernel)) ggX2_meldAt_X2_fail
theorem dX2_meldAt_0 : decode cX2_meldAt 0 = .ok (.aload_n 0, 1) := by decide +kernel
theorem dX2_meldAt_1 : decode cX2_meldAt 1 = .ok (.iconst 0, 1) := by decide +kernel
theorem dX2_meldAt_2 : decode cX2_meldAt 2 = .ok (.putfield 54, 3) := by decide +kernel
theorem dX2_meldAt_5 : decode cX2_meldAt 5 = .ok (.iload_n 1, 1) := by decide +kernel
theorem dX2_meldAt_6 : decode cX2_meldAt 6 = .ok (.iconst 0, 1) := by decide +kernel
theorem dX2_meldAt_7 : decode cX2_meldAt 7 = .ok (.aload_n 0, 1) := by decide +kernel
theorem dX2_meldAt_8 : decode cX2_meldAt 8 = .ok (.getfield 69, 3) := by decide +kernel
theorem dX2_meldAt_11 : decode cX2_meldAt 11 = .ok (.iconst 1, 1) := by decide +kernel
theorem dX2_meldAt_12 : decode cX2_meldAt 12 = .ok (.isub, 1) := by decide +kernel
theorem dX2_meldAt_13 : decode cX2_meldAt 13 = .ok (.invokestatic 57, 3) := by decide +kernel
theorem dX2_meldAt_16 : decode cX2_meldAt 16 = .ok (.ifCond .eq 21, 3) := by decide +kernel
theorem dX2_meldAt_19 : decode cX2_meldAt 19 = .ok (.iload_n 2, 1) := by decide +kernel
theorem dX2_meldAt_20 : decode cX2_meldAt 20 = .ok (.iconst 0, 1) := by decide +kernel
theorem dX2_meldAt_21 : decode cX2_meldAt 21 = .ok (.iconst 2, 1) := by decide +kernel
theorem dX2_meldAt_22 : decode cX2_meldAt 22 = .ok (.invokestatic 57, 3) := by decide +kernel
theorem dX2_meldAt_25 : decode cX2_meldAt 25 = .ok (.ifCond .eq 12, 3) := by decide +kernel
theorem dX2_meldAt_28 : decode cX2_meldAt 28 = .ok (.aload_n 0, 1) := by decide +kernel
theorem dX2_meldAt_29 : decode cX2_meldAt 29 = .ok (.iload_n 1, 1) := by decide +kernel
theorem dX2_meldAt_30 : decode cX2_meldAt 30 = .ok (.iload_n 2, 1) := by decide +kernel
theorem dX2_meldAt_31 : decode cX2_meldAt 31 = .ok (.invokevirtual 92, 3) := by decide +kernel
theorem dX2_meldAt_34 : decode cX2_meldAt 34 = .ok (.goto 8, 3) := by decide +kernel
theorem dX2_meldAt_37 : decode cX2_meldAt 37 = .ok (.aload_n 0, 1) := by decide +kernel
theorem dX2_meldAt_38 : decode cX2_meldAt 38 = .ok (.iconst 1, 1) := by decide +kernel
theorem dX2_meldAt_39 : decode cX2_meldAt 39 = .ok (.invokevirtual 75, 3) := by decide +kernel
theorem dX2_meldAt_42 : decode cX2_meldAt 42 = .ok (.ireturn, 1) := by decide +kernel
set_option maxRecDepth 20000 in
theorem ggX2_cut_X2_beginsRow : GoodIn wsX2_cut wsX2_beginsRow := goodIn_r _ [12] (by decide +kernel) (by decide +kernel)
set_option maxRecDepth 20000 in
theorem gX2_cut_X2_beginsRow : GoodIn wsX2_cut (va_wsS RX2 85 yX2_beginsRow wsX2_beginsRow) := goodIn_app (goodIn_of _ (by decide +kernel)) ggX2_cut_X2_beginsRow
theorem dX2_cut_0 : decode cX2_cut 0 = .ok (.aload_n 0, 1) := by decide +kernel
theorem dX2_cut_1 : decode cX2_cut 1 = .ok (.getfield 9, 3) := by decide +kernel
theorem dX2_cut_4 : decode cX2_cut 4 = .ok (.iconst 0, 1) := by decide +kernel
theorem dX2_cut_5 : decode cX2_cut 5 = .ok (.aload_n 0, 1) := by decide +kernel
theorem dX2_cut_6 : decode cX2_cut 6 = .ok (.getfield 42, 3) := by decide +kernel
theorem dX2_cut_9 : decode cX2_cut 9 = .ok (.iconst 0, 1) := by decide +kernel
theorem dX2_cut_10 : decode cX2_cut 10 = .ok (.bipush 34, 2) := by decide +kernel
theorem dX2_cut_12 : decode cX2_cut 12 = .ok (.invokestatic 96, 3) := by decide +kernel
theorem dX2_cut_15 : decode cX2_cut 15 = .ok (.aload_n 0, 1) := by decide +kernel
theorem dX2_cut_16 : decode cX2_cut 16 = .ok (.getfield 42, 3) := by decide +kernel
theorem dX2_cut_19 : decode cX2_cut 19 = .ok (.iload_n 1, 1) := by decide +kernel
theorem dX2_cut_20 : decode cX2_cut 20 = .ok (.dup2, 1) := by decide +kernel
theorem dX2_cut_21 : decode cX2_cut 21 = .ok (.iaload, 1) := by decide +kernel
theorem dX2_cut_22 : decode cX2_cut 22 = .ok (.iconst 2, 1) := by decide +kernel
theorem dX2_cut_23 : decode cX2_cut 23 = .ok (.isub, 1) := by decide +kernel
theorem dX2_cut_24 : decode cX2_cut 24 = .ok (.iastore, 1) := by decide +kernel
theorem dX2_cut_25 : decode cX2_cut 25 = .ok (.iconst 0, 1) := by decide +kernel
theorem dX2_cut_26 : decode cX2_cut 26 = .ok (.istore_n 3, 1) := by decide +kernel
theorem dX2_cut_27 : decode cX2_cut 27 = .ok (.iconst 0, 1) := by decide +kernel
theorem dX2_cut_28 : decode cX2_cut 28 = .ok (.istore 4, 2) := by decide +kernel
theorem dX2_cut_30 : decode cX2_cut 30 = .ok (.iload_n 3, 1) := by decide +kernel
theorem dX2_cut_31 : decode cX2_cut 31 = .ok (.bipush 34, 2) := by decide +kernel
theorem dX2_cut_33 : decode cX2_cut 33 = .ok (.if_icmp .ge 171, 3) := by decide +kernel
theorem dX2_cut_36 : decode cX2_cut 36 = .ok (.aload_n 0, 1) := by decide +kernel
theorem dX2_cut_37 : decode cX2_cut 37 = .ok (.getfield 42, 3) := by decide +kernel
theorem dX2_cut_40 : decode cX2_cut 40 = .ok (.iload_n 3, 1) := by decide +kernel
theorem dX2_cut_41 : decode cX2_cut 41 = .ok (.iaload, 1) := by decide +kernel
theorem dX2_cut_42 : decode cX2_cut 42 = .ok (.ifCond .ne 9, 3) := by decide +kernel
theorem dX2_cut_45 : decode cX2_cut 45 = .ok (.iinc 3 1, 3) := by decide +kernel
theorem dX2_cut_48 : decode cX2_cut 48 = .ok (.goto (-18), 3) := by decide +kernel
theorem dX2_cut_51 : decode cX2_cut 51 = .ok (.iload 4, 2) := by decide +kernel
theorem dX2_cut_53 : decode cX2_cut 53 = .ok (.iconst 4, 1) := by decide +kernel
theorem dX2_cut_54 : decode cX2_cut 54 = .ok (.aload_n 0, 1) := by decide +kernel
theorem dX2_cut_55 : decode cX2_cut 55 = .ok (.getfield 69, 3) := by decide +kernel
theorem dX2_cut_58 : decode cX2_cut 58 = .ok (.isub, 1) := by decide +kernel
theorem dX2_cut_59 : decode cX2_cut 59 = .ok (.if_icmp .ne 5, 3) := by decide +kernel
theorem dX2_cut_62 : decode cX2_cut 62 = .ok (.iconst 0, 1) := by decide +kernel
theorem dX2_cut_63 : decode cX2_cut 63 = .ok (.ireturn, 1) := by decide +kernel
theorem dX2_cut_64 : decode cX2_cut 64 = .ok (.iload_n 2, 1) := by decide +kernel
theorem dX2_cut_65 : decode cX2_cut 65 = .ok (.iload 4, 2) := by decide +kernel
theorem dX2_cut_67 : decode cX2_cut 67 = .ok (.ishr, 1) := by decide +kernel
theorem dX2_cut_68 : decode cX2_cut 68 = .ok (.iconst 1, 1) := by decide +kernel
theorem dX2_cut_69 : decode cX2_cut 69 = .ok (.iand, 1) := by decide +kernel
theorem dX2_cut_70 : decode cX2_cut 70 = .ok (.iconst 1, 1) := by decide +kernel
theorem dX2_cut_71 : decode cX2_cut 71 = .ok (.if_icmp .ne 7, 3) := by decide +kernel
theorem dX2_cut_74 : decode cX2_cut 74 = .ok (.iconst 1, 1) := by decide +kernel
theorem dX2_cut_75 : decode cX2_cut 75 = .ok (.goto 4, 3) := by decide +kernel
theorem dX2_cut_78 : decode cX2_cut 78 = .ok (.iconst 0, 1) := by decide +kernel
theorem dX2_cut_79 : decode cX2_cut 79 = .ok (.istore 5, 2) := by decide +kernel
theorem dX2_cut_81 : decode cX2_cut 81 = .ok (.iload 5, 2) := by decide +kernel
theorem dX2_cut_83 : decode cX2_cut 83 = .ok (.ifCond .eq 35, 3) := by decide +kernel
theorem dX2_cut_86 : decode cX2_cut 86 = .ok (.iload_n 3, 1) := by decide +kernel
theorem dX2_cut_87 : decode cX2_cut 87 = .ok (.invokestatic 85, 3) := by decide +kernel
theorem dX2_cut_90 : decode cX2_cut 90 = .ok (.ifCond .eq 38, 3) := by decide +kernel
theorem dX2_cut_93 : decode cX2_cut 93 = .ok (.aload_n 0, 1) := by decide +kernel
theorem dX2_cut_94 : decode cX2_cut 94 = .ok (.getfield 42, 3) := by decide +kernel
theorem dX2_cut_97 : decode cX2_cut 97 = .ok (.iload_n 3, 1) := by decide +kernel
theorem dX2_cut_98 : decode cX2_cut 98 = .ok (.iconst 1, 1) := by decide +kernel
theorem dX2_cut_99 : decode cX2_cut 99 = .ok (.iadd, 1) := by decide +kernel
theorem dX2_cut_100 : decode cX2_cut 100 = .ok (.iaload, 1) := by decide +kernel
theorem dX2_cut_101 : decode cX2_cut 101 = .ok (.ifCond .eq 27, 3) := by decide +kernel
theorem dX2_cut_104 : decode cX2_cut 104 = .ok (.aload_n 0, 1) := by decide +kernel
theorem dX2_cut_105 : decode cX2_cut 105 = .ok (.getfield 42, 3) := by decide +kernel
theorem dX2_cut_108 : decode cX2_cut 108 = .ok (.iload_n 3, 1) := by decide +kernel
theorem dX2_cut_109 : decode cX2_cut 109 = .ok (.iconst 2, 1) := by decide +kernel
theorem dX2_cut_110 : decode cX2_cut 110 = .ok (.iadd, 1) := by decide +kernel
theorem dX2_cut_111 : decode cX2_cut 111 = .ok (.iaload, 1) := by decide +kernel
theorem dX2_cut_112 : decode cX2_cut 112 = .ok (.ifCond .ne 18, 3) := by decide +kernel
theorem dX2_cut_115 : decode cX2_cut 115 = .ok (.goto 13, 3) := by decide +kernel
theorem dX2_cut_118 : decode cX2_cut 118 = .ok (.aload_n 0, 1) := by decide +kernel
theorem dX2_cut_119 : decode cX2_cut 119 = .ok (.getfield 42, 3) := by decide +kernel
theorem dX2_cut_122 : decode cX2_cut 122 = .ok (.iload_n 3, 1) := by decide +kernel
theorem dX2_cut_123 : decode cX2_cut 123 = .ok (.iaload, 1) := by decide +kernel
theorem dX2_cut_124 : decode cX2_cut 124 = .ok (.iconst 3, 1) := by decide +kernel
theorem dX2_cut_125 : decode cX2_cut 125 = .ok (.if_icmp .ge 5, 3) := by decide +kernel
theorem dX2_cut_128 : decode cX2_cut 128 = .ok (.iconst 0, 1) := by decide +kernel
theorem dX2_cut_129 : decode cX2_cut 129 = .ok (.ireturn, 1) := by decide +kernel
theorem dX2_cut_130 : decode cX2_cut 130 = .ok (.aload_n 0, 1) := by decide +kernel
theorem dX2_cut_131 : decode cX2_cut 131 = .ok (.getfield 42, 3) := by decide +kernel
theorem dX2_cut_134 : decode cX2_cut 134 = .ok (.iload_n 3, 1) := by decide +kernel
theorem dX2_cut_135 : decode cX2_cut 135 = .ok (.dup2, 1) := by decide +kernel
theorem dX2_cut_136 : decode cX2_cut 136 = .ok (.iaload, 1) := by decide +kernel
theorem dX2_cut_137 : decode cX2_cut 137 = .ok (.iload 5, 2) := by decide +kernel
theorem dX2_cut_139 : decode cX2_cut 139 = .ok (.ifCond .eq 7, 3) := by decide +kernel
theorem dX2_cut_142 : decode cX2_cut 142 = .ok (.iconst 1, 1) := by decide +kernel
theorem dX2_cut_143 : decode cX2_cut 143 = .ok (.goto 4, 3) := by decide +kernel
theorem dX2_cut_146 : decode cX2_cut 146 = .ok (.iconst 3, 1) := by decide +kernel
theorem dX2_cut_147 : decode cX2_cut 147 = .ok (.isub, 1) := by decide +kernel
theorem dX2_cut_148 : decode cX2_cut 148 = .ok (.iastore, 1) := by decide +kernel
theorem dX2_cut_149 : decode cX2_cut 149 = .ok (.iload 5, 2) := by decide +kernel
theorem dX2_cut_151 : decode cX2_cut 151 = .ok (.ifCond .eq 27, 3) := by decide +kernel
theorem dX2_cut_154 : decode cX2_cut 154 = .ok (.aload_n 0, 1) := by decide +kernel
theorem dX2_cut_155 : decode cX2_cut 155 = .ok (.getfield 42, 3) := by decide +kernel
theorem dX2_cut_158 : decode cX2_cut 158 = .ok (.iload_n 3, 1) := by decide +kernel
theorem dX2_cut_159 : decode cX2_cut 159 = .ok (.iconst 1, 1) := by decide +kernel
theorem dX2_cut_160 : decode cX2_cut 160 = .ok (.iadd, 1) := by decide +kernel
theorem dX2_cut_161 : decode cX2_cut 161 = .ok (.dup2, 1) := by decide +kernel
theorem dX2_cut_162 : decode cX2_cut 162 = .ok (.iaload, 1) := by decide +kernel
theorem dX2_cut_163 : decode cX2_cut 163 = .ok (.iconst 1, 1) := by decide +kernel
theorem dX2_cut_164 : decode cX2_cut 164 = .ok (.isub, 1) := by decide +kernel
theorem dX2_cut_165 : decode cX2_cut 165 = .ok (.iastore, 1) := by decide +kernel
theorem dX2_cut_166 : decode cX2_cut 166 = .ok (.aload_n 0, 1) := by decide +kernel
theorem dX2_cut_167 : decode cX2_cut 167 = .ok (.getfield 42, 3) := by decide +kernel
theorem dX2_cut_170 : decode cX2_cut 170 = .ok (.iload_n 3, 1) := by decide +kernel
theorem dX2_cut_171 : decode cX2_cut 171 = .ok (.iconst 2, 1) := by decide +kernel
theorem dX2_cut_172 : decode cX2_cut 172 = .ok (.iadd, 1) := by decide +kernel
theorem dX2_cut_173 : decode cX2_cut 173 = .ok (.dup2, 1) := by decide +kernel
theorem dX2_cut_174 : decode cX2_cut 174 = .ok (.iaload, 1) := by decide +kernel
theorem dX2_cut_175 : decode cX2_cut 175 = .ok (.iconst 1, 1) := by decide +kernel
theorem dX2_cut_176 : decode cX2_cut 176 = .ok (.isub, 1) := by decide +kernel
theorem dX2_cut_177 : decode cX2_cut 177 = .ok (.iastore, 1) := by decide +kernel
theorem dX2_cut_178 : decode cX2_cut 178 = .ok (.aload_n 0, 1) := by decide +kernel
theorem dX2_cut_179 : decode cX2_cut 179 = .ok (.getfield 45, 3) := by decide +kernel
theorem dX2_cut_182 : decode cX2_cut 182 = .ok (.iload 4, 2) := by decide +kernel
theorem dX2_cut_184 : decode cX2_cut 184 = .ok (.iload 5, 2) := by decide +kernel
theorem dX2_cut_186 : decode cX2_cut 186 = .ok (.ifCond .eq 7, 3) := by decide +kernel
theorem dX2_cut_189 : decode cX2_cut 189 = .ok (.iload_n 3, 1) := by decide +kernel
theorem dX2_cut_190 : decode cX2_cut 190 = .ok (.goto 7, 3) := by decide +kernel
theorem dX2_cut_193 : decode cX2_cut 193 = .ok (.bipush 100, 2) := by decide +kernel
theorem dX2_cut_195 : decode cX2_cut 195 = .ok (.iload_n 3, 1) := by decide +kernel
theorem dX2_cut_196 : decode cX2_cut 196 = .ok (.iadd, 1) := by decide +kernel
theorem dX2_cut_197 : decode cX2_cut 197 = .ok (.iastore, 1) := by decide +kernel
theorem dX2_cut_198 : decode cX2_cut 198 = .ok (.iinc 4 1, 3) := by decide +kernel
theorem dX2_cut_201 : decode cX2_cut 201 = .ok (.goto (-171), 3) := by decide +kernel
theorem dX2_cut_204 : decode cX2_cut 204 = .ok (.iload 4, 2) := by decide +kernel
theorem dX2_cut_206 : decode cX2_cut 206 = .ok (.iconst 4, 1) := by decide +kernel
theorem dX2_cut_207 : decode cX2_cut 207 = .ok (.aload_n 0, 1) := by decide +kernel
theorem dX2_cut_208 : decode cX2_cut 208 = .ok (.getfield 69, 3) := by decide +kernel
theorem dX2_cut_211 : decode cX2_cut 211 = .ok (.isub, 1) := by decide +kernel
theorem dX2_cut_212 : decode cX2_cut 212 = .ok (.if_icmp .ne 7, 3) := by decide +kernel
theorem dX2_cut_215 : decode cX2_cut 215 = .ok (.iconst 1, 1) := by decide +kernel
theorem dX2_cut_216 : decode cX2_cut 216 = .ok (.goto 4, 3) := by decide +kernel
theorem dX2_cut_219 : decode cX2_cut 219 = .ok (.iconst 0, 1) := by decide +kernel
theorem dX2_cut_220 : decode cX2_cut 220 = .ok (.ireturn, 1) := by decide +kernel
set_option maxRecDepth 20000 in
theorem ggX2_areSevenPairs_X2_tiles : GoodIn wsX2_areSevenPairs wsX2_tiles := goodIn_r _ [7, 1, 8, 9, 10, 11, 12, 13, 14, 15, 16, 17, 18, 19, 20, 21, 22, 23] (by decide +kernel) (by decide +kernel)
set_option maxRecDepth 20000 in
theorem gX2_areSevenPairs_X2_tiles : GoodIn wsX2_areSevenPairs (wsV RX2 65 RX2 yX2_tiles wsX2_tiles) := goodIn_app (goodIn_of _ (by decide +kernel)) ggX2_areSevenPairs_X2_tiles
theorem dX2_areSevenPairs_0 : decode cX2_areSevenPairs 0 = .ok (.iconst 0, 1) := by decide +kernel
theorem dX2_areSevenPairs_1 : decode cX2_areSevenPairs 1 = .ok (.istore_n 1, 1) := by decide +kernel
theorem dX2_areSevenPairs_2 : decode cX2_areSevenPairs 2 = .ok (.aload_n 0, 1) := by decide +kernel
theorem dX2_areSevenPairs_3 : decode cX2_areSevenPairs 3 = .ok (.getfield 9, 3) := by decide +kernel
theorem dX2_areSevenPairs_6 : decode cX2_areSevenPairs 6 = .ok (.astore_n 2, 1) := by decide +kernel
theorem dX2_areSevenPairs_7 : decode cX2_areSevenPairs 7 = .ok (.aload_n 2, 1) := by decide +kernel
theorem dX2_areSevenPairs_8 : decode cX2_areSevenPairs 8 = .ok (.arraylength, 1) := by decide +kernel
theorem dX2_areSevenPairs_9 : decode cX2_areSevenPairs 9 = .ok (.istore_n 3, 1) := by decide +kernel
theorem dX2_areSevenPairs_10 : decode cX2_areSevenPairs 10 = .ok (.iconst 0, 1) := by decide +kernel
theorem dX2_areSevenPairs_11 : decode cX2_areSevenPairs 11 = .ok (.istore 4, 2) := by decide +kernel
theorem dX2_areSevenPairs_13 : decode cX2_areSevenPairs 13 = .ok (.iload 4, 2) := by decide +kernel
theorem dX2_areSevenPairs_15 : decode cX2_areSevenPairs 15 = .ok (.iload_n 3, 1) := by decide +kernel
theorem dX2_areSevenPairs_16 : decode cX2_areSevenPairs 16 = .ok (.if_icmp .ge 29, 3) := by decide +kernel
theorem dX2_areSevenPairs_19 : decode cX2_areSevenPairs 19 = .ok (.aload_n 2, 1) := by decide +kernel
theorem dX2_areSevenPairs_20 : decode cX2_areSevenPairs 20 = .ok (.iload 4, 2) := by decide +kernel
theorem dX2_areSevenPairs_22 : decode cX2_areSevenPairs 22 = .ok (.iaload, 1) := by decide +kernel
theorem dX2_areSevenPairs_23 : decode cX2_areSevenPairs 23 = .ok (.istore 5, 2) := by decide +kernel
theorem dX2_areSevenPairs_25 : decode cX2_areSevenPairs 25 = .ok (.iload_n 1, 1) := by decide +kernel
theorem dX2_areSevenPairs_26 : decode cX2_areSevenPairs 26 = .ok (.iload 5, 2) := by decide +kernel
theorem dX2_areSevenPairs_28 : decode cX2_areSevenPairs 28 = .ok (.iconst 2, 1) := by decide +kernel
theorem dX2_areSevenPairs_29 : decode cX2_areSevenPairs 29 = .ok (.if_icmp .ne 7, 3) := by decide +kernel
theorem dX2_areSevenPairs_32 : decode cX2_areSevenPairs 32 = .ok (.iconst 1, 1) := by decide +kernel
theorem dX2_areSevenPairs_33 : decode cX2_areSevenPairs 33 = .ok (.goto 4, 3) := by decide +kernel
theorem dX2_areSevenPairs_36 : decode cX2_areSevenPairs 36 = .ok (.iconst 0, 1) := by decide +kernel
theorem dX2_areSevenPairs_37 : decode cX2_areSevenPairs 37 = .ok (.iadd, 1) := by decide +kernel
theorem dX2_areSevenPairs_38 : decode cX2_areSevenPairs 38 = .ok (.istore_n 1, 1) := by decide +kernel
theorem dX2_areSevenPairs_39 : decode cX2_areSevenPairs 39 = .ok (.iinc 4 1, 3) := by decide +kernel
theorem dX2_areSevenPairs_42 : decode cX2_areSevenPairs 42 = .ok (.goto (-29), 3) := by decide +kernel
theorem dX2_areSevenPairs_45 : decode cX2_areSevenPairs 45 = .ok (.aload_n 0, 1) := by decide +kernel
theorem dX2_areSevenPairs_46 : decode cX2_areSevenPairs 46 = .ok (.getfield 69, 3) := by decide +kernel
theorem dX2_areSevenPairs_49 : decode cX2_areSevenPairs 49 = .ok (.ifCond .ne 22, 3) := by decide +kernel
theorem dX2_areSevenPairs_52 : decode cX2_areSevenPairs 52 = .ok (.iload_n 1, 1) := by decide +kernel
theorem dX2_areSevenPairs_53 : decode cX2_areSevenPairs 53 = .ok (.bipush 7, 2) := by decide +kernel
theorem dX2_areSevenPairs_55 : decode cX2_areSevenPairs 55 = .ok (.if_icmp .ne 16, 3) := by decide +kernel
theorem dX2_areSevenPairs_58 : decode cX2_areSevenPairs 58 = .ok (.aload_n 0, 1) := by decide +kernel
theorem dX2_areSevenPairs_59 : decode cX2_areSevenPairs 59 = .ok (.invokevirtual 65, 3) := by decide +kernel
theorem dX2_areSevenPairs_62 : decode cX2_areSevenPairs 62 = .ok (.bipush 14, 2) := by decide +kernel
theorem dX2_areSevenPairs_64 : decode cX2_areSevenPairs 64 = .ok (.if_icmp .ne 7, 3) := by decide +kernel
theorem dX2_areSevenPairs_67 : decode cX2_areSevenPairs 67 = .ok (.iconst 1, 1) := by decide +kernel
theorem dX2_areSevenPairs_68 : decode cX2_areSevenPairs 68 = .ok (.goto 4, 3) := by decide +kernel
theorem dX2_areSevenPairs_71 : decode cX2_areSevenPairs 71 = .ok (.iconst 0, 1) := by decide +kernel
theorem dX2_areSevenPairs_72 : decode cX2_areSevenPairs 72 = .ok (.ireturn, 1) := by decide +kernel
set_option maxRecDepth 20000 in
theorem ggX2_areOrphans_X2_isOuter : GoodIn wsX2_areOrphans wsX2_isOuter := goodIn_r _ [6, 7, 8, 5, 9] (by decide +kernel) (by decide +kernel)
set_option maxRecDepth 20000 in
theorem gX2_areOrphans_X2_isOuter : GoodIn wsX2_areOrphans (va_wsS RX2 102 yX2_isOuter wsX2_isOuter) := goodIn_app (goodIn_of _ (by decide +kernel)) ggX2_areOrphans_X2_isOuter
set_option maxRecDepth 20000 in
theorem ggX2_areOrphans_X2_tiles : GoodIn wsX2_areOrphans wsX2_tiles := goodIn_r _ [13, 1, 14, 15, 16, 17, 18, 19, 20, 21, 22, 23, 24, 25, 26, 27, 28, 29] (by decide +kernel) (by decide +kernel)
set_option maxRecDepth 20000 in
theorem gX2_areOrphans_X2_tiles : GoodIn wsX2_areOrphans (wsV RX2 65 RX2 yX2_tiles wsX2_tiles) := goodIn_app (goodIn_of _ (by decide +kernel)) ggX2_areOrphans_X2_tiles
theorem dX2_areOrphans_0 : decode cX2_areOrphans 0 = .ok (.iconst 0, 1) := by decide +kernel
theorem dX2_areOrphans_1 : decode cX2_areOrphans 1 = .ok (.istore_n 1, 1) := by decide +kernel
theorem dX2_areOrphans_2 : decode cX2_areOrphans 2 = .ok (.iconst 0, 1) := by decide +kernel
theorem dX2_areOrphans_3 : decode cX2_areOrphans 3 = .ok (.istore_n 2, 1) := by decide +kernel
theorem dX2_areOrphans_4 : decode cX2_areOrphans 4 = .ok (.iload_n 2, 1) := by decide +kernel
theorem dX2_areOrphans_5 : decode cX2_areOrphans 5 = .ok (.bipush 34, 2) := by decide +kernel
theorem dX2_areOrphans_7 : decode cX2_areOrphans 7 = .ok (.if_icmp .ge 44, 3) := by decide +kernel
theorem dX2_areOrphans_10 : decode cX2_areOrphans 10 = .ok (.aload_n 0, 1) := by decide +kernel
theorem dX2_areOrphans_11 : decode cX2_areOrphans 11 = .ok (.getfield 9, 3) := by decide +kernel
theorem dX2_areOrphans_14 : decode cX2_areOrphans 14 = .ok (.iload_n 2, 1) := by decide +kernel
theorem dX2_areOrphans_15 : decode cX2_areOrphans 15 = .ok (.iaload, 1) := by decide +kernel
theorem dX2_areOrphans_16 : decode cX2_areOrphans 16 = .ok (.ifCond .le 12, 3) := by decide +kernel
theorem dX2_areOrphans_19 : decode cX2_areOrphans 19 = .ok (.iload_n 2, 1) := by decide +kernel
theorem dX2_areOrphans_20 : decode cX2_areOrphans 20 = .ok (.invokestatic 102, 3) := by decide +kernel
theorem dX2_areOrphans_23 : decode cX2_areOrphans 23 = .ok (.ifCond .ne 5, 3) := by decide +kernel
theorem dX2_areOrphans_26 : decode cX2_areOrphans 26 = .ok (.iconst 0, 1) := by decide +kernel
theorem dX2_areOrphans_27 : decode cX2_areOrphans 27 = .ok (.ireturn, 1) := by decide +kernel
theorem dX2_areOrphans_28 : decode cX2_areOrphans 28 = .ok (.iload_n 1, 1) := by decide +kernel
theorem dX2_areOrphans_29 : decode cX2_areOrphans 29 = .ok (.aload_n 0, 1) := by decide +kernel
theorem dX2_areOrphans_30 : decode cX2_areOrphans 30 = .ok (.getfield 9, 3) := by decide +kernel
theorem dX2_areOrphans_33 : decode cX2_areOrphans 33 = .ok (.iload_n 2, 1) := by decide +kernel
theorem dX2_areOrphans_34 : decode cX2_areOrphans 34 = .ok (.iaload, 1) := by decide +kernel
theorem dX2_areOrphans_35 : decode cX2_areOrphans 35 = .ok (.ifCond .le 7, 3) := by decide +kernel
theorem dX2_areOrphans_38 : decode cX2_areOrphans 38 = .ok (.iconst 1, 1) := by decide +kernel
theorem dX2_areOrphans_39 : decode cX2_areOrphans 39 = .ok (.goto 4, 3) := by decide +kernel
theorem dX2_areOrphans_42 : decode cX2_areOrphans 42 = .ok (.iconst 0, 1) := by decide +kernel
theorem dX2_areOrphans_43 : decode cX2_areOrphans 43 = .ok (.iadd, 1) := by decide +kernel
theorem dX2_areOrphans_44 : decode cX2_areOrphans 44 = .ok (.istore_n 1, 1) := by decide +kernel
theorem dX2_areOrphans_45 : decode cX2_areOrphans 45 = .ok (.iinc 2 1, 3) := by decide +kernel
theorem dX2_areOrphans_48 : decode cX2_areOrphans 48 = .ok (.goto (-44), 3) := by decide +kernel
theorem dX2_areOrphans_51 : decode cX2_areOrphans 51 = .ok (.aload_n 0, 1) := by decide +kernel
theorem dX2_areOrphans_52 : decode cX2_areOrphans 52 = .ok (.getfield 69, 3) := by decide +kernel
theorem dX2_areOrphans_55 : decode cX2_areOrphans 55 = .ok (.ifCond .ne 22, 3) := by decide +kernel
theorem dX2_areOrphans_58 : decode cX2_areOrphans 58 = .ok (.iload_n 1, 1) := by decide +kernel
theorem dX2_areOrphans_59 : decode cX2_areOrphans 59 = .ok (.bipush 13, 2) := by decide +kernel
theorem dX2_areOrphans_61 : decode cX2_areOrphans 61 = .ok (.if_icmp .ne 16, 3) := by decide +kernel
theorem dX2_areOrphans_64 : decode cX2_areOrphans 64 = .ok (.aload_n 0, 1) := by decide +kernel
theorem dX2_areOrphans_65 : decode cX2_areOrphans 65 = .ok (.invokevirtual 65, 3) := by decide +kernel
theorem dX2_areOrphans_68 : decode cX2_areOrphans 68 = .ok (.bipush 14, 2) := by decide +kernel
theorem dX2_areOrphans_70 : decode cX2_areOrphans 70 = .ok (.if_icmp .ne 7, 3) := by decide +kernel
theorem dX2_areOrphans_73 : decode cX2_areOrphans 73 = .ok (.iconst 1, 1) := by decide +kernel
theorem dX2_areOrphans_74 : decode cX2_areOrphans 74 = .ok (.goto 4, 3) := by decide +kernel
theorem dX2_areOrphans_77 : decode cX2_areOrphans 77 = .ok (.iconst 0, 1) := by decide +kernel
theorem dX2_areOrphans_78 : decode cX2_areOrphans 78 = .ok (.ireturn, 1) := by decide +kernel
set_option maxRecDepth 20000 in
theorem ggX2_completes_X2_sizeOf : GoodIn wsX2_completes wsX2_sizeOf := goodIn_r _ [6, 7, 8, 9, 10, 5, 11, 1, 39, 40, 41, 42, 43, 44, 45, 46, 47, 48, 49, 50, 51, 52, 53, 54] (by decide +kernel) (by decide +kernel)
set_option maxRecDepth 20000 in
theorem gX2_completes_X2_sizeOf : GoodIn wsX2_completes (wsV RX2 79 RX2 yX2_sizeOf wsX2_sizeOf) := goodIn_app (goodIn_of _ (by decide +kernel)) ggX2_completes_X2_sizeOf
set_option maxRecDepth 20000 in
theorem ggX2_completes_X2_areSevenPairs : GoodIn wsX2_completes wsX2_areSevenPairs := goodIn_r _ [15, 1, 7, 8, 9, 10, 5, 11, 39, 40, 41, 42, 43, 44, 45, 46, 47, 48, 49, 50, 51, 52, 53, 54] (by decide +kernel) (by decide +kernel)
set_option maxRecDepth 20000 in
theorem gX2_completes_X2_areSevenPairs : GoodIn wsX2_completes (wsV RX2 105 RX2 yX2_areSevenPairs wsX2_areSevenPairs) := goodIn_app (goodIn_of _ (by decide +kernel)) ggX2_completes_X2_areSevenPairs
set_option maxRecDepth 20000 in
theorem ggX2_completes_X2_areOrphans : GoodIn wsX2_completes wsX2_areOrphans := goodIn_r _ [19, 1, 7, 20, 21, 5, 22, 23, 24, 25, 8, 9, 10, 11, 39, 40, 41, 42, 43, 44, 45, 46, 47, 48, 49, 50, 51, 52, 53, 54] (by decide +kernel) (by decide +kernel)
set_option maxRecDepth 20000 in
theorem gX2_completes_X2_areOrphans : GoodIn wsX2_completes (wsV RX2 109 RX2 yX2_areOrphans wsX2_areOrphans) := goodIn_app (goodIn_of _ (by decide +kernel)) ggX2_completes_X2_areOrphans
set_option maxRecDepth 20000 in
theorem ggX2_completes_X2_cut : GoodIn wsX2_completes wsX2_cut := goodIn_r _ [29, 1, 30, 31, 32, 33, 34, 7, 35, 36, 37, 5, 38, 39, 40, 41, 42, 43, 44, 45, 46, 47, 48, 49, 50, 51, 52, 53, 54] (by decide +kernel) (by decide +kernel)
set_option maxRecDepth 20000 in
theorem gX2_completes_X2_cut : GoodIn wsX2_completes (wsV RX2 112 RX2 yX2_cut wsX2_cut) := goodIn_app (goodIn_of _ (by decide +kernel)) ggX2_completes_X2_cut
theorem dX2_completes_0 : decode cX2_completes 0 = .ok (.aload_n 0, 1) := by decide +kernel
theorem dX2_completes_1 : decode cX2_completes 1 = .ok (.invokevirtual 79, 3) := by decide +kernel
theorem dX2_completes_4 : decode cX2_completes 4 = .ok (.bipush 14, 2) := by decide +kernel
theorem dX2_completes_6 : decode cX2_completes 6 = .ok (.if_icmp .eq 5, 3) := by decide +kernel
theorem dX2_completes_9 : decode cX2_completes 9 = .ok (.iconst 0, 1) := by decide +kernel
theorem dX2_completes_10 : decode cX2_completes 10 = .ok (.ireturn, 1) := by decide +kernel
theorem dX2_completes_11 : decode cX2_completes 11 = .ok (.aload_n 0, 1) := by decide +kernel
theorem dX2_completes_12 : decode cX2_completes 12 = .ok (.invokevirtual 105, 3) := by decide +kernel
theorem dX2_completes_15 : decode cX2_completes 15 = .ok (.ifCond .ne 10, 3) := by decide +kernel
theorem dX2_completes_18 : decode cX2_completes 18 = .ok (.aload_n 0, 1) := by decide +kernel
theorem dX2_completes_19 : decode cX2_completes 19 = .ok (.invokevirtual 109, 3) := by decide +kernel
theorem dX2_completes_22 : decode cX2_completes 22 = .ok (.ifCond .eq 5, 3) := by decide +kernel
theorem dX2_completes_25 : decode cX2_completes 25 = .ok (.iconst 1, 1) := by decide +kernel
theorem dX2_completes_26 : decode cX2_completes 26 = .ok (.ireturn, 1) := by decide +kernel
theorem dX2_completes_27 : decode cX2_completes 27 = .ok (.iconst 0, 1) := by decide +kernel
theorem dX2_completes_28 : decode cX2_completes 28 = .ok (.istore_n 1, 1) := by decide +kernel
theorem dX2_completes_29 : decode cX2_completes 29 = .ok (.iload_n 1, 1) := by decide +kernel
theorem dX2_completes_30 : decode cX2_completes 30 = .ok (.bipush 34, 2) := by decide +kernel
theorem dX2_completes_32 : decode cX2_completes 32 = .ok (.if_icmp .ge 44, 3) := by decide +kernel
theorem dX2_completes_35 : decode cX2_completes 35 = .ok (.iconst 0, 1) := by decide +kernel
theorem dX2_completes_36 : decode cX2_completes 36 = .ok (.istore_n 2, 1) := by decide +kernel
theorem dX2_completes_37 : decode cX2_completes 37 = .ok (.iload_n 2, 1) := by decide +kernel
theorem dX2_completes_38 : decode cX2_completes 38 = .ok (.bipush 16, 2) := by decide +kernel
theorem dX2_completes_40 : decode cX2_completes 40 = .ok (.if_icmp .ge 30, 3) := by decide +kernel
theorem dX2_completes_43 : decode cX2_completes 43 = .ok (.aload_n 0, 1) := by decide +kernel
theorem dX2_completes_44 : decode cX2_completes 44 = .ok (.getfield 9, 3) := by decide +kernel
theorem dX2_completes_47 : decode cX2_completes 47 = .ok (.iload_n 1, 1) := by decide +kernel
theorem dX2_completes_48 : decode cX2_completes 48 = .ok (.iaload, 1) := by decide +kernel
theorem dX2_completes_49 : decode cX2_completes 49 = .ok (.iconst 1, 1) := by decide +kernel
theorem dX2_completes_50 : decode cX2_completes 50 = .ok (.if_icmp .le 20, 3) := by decide +kernel
theorem dX2_completes_53 : decode cX2_completes 53 = .ok (.aload_n 0, 1) := by decide +kernel
theorem dX2_completes_54 : decode cX2_completes 54 = .ok (.iload_n 1, 1) := by decide +kernel
theorem dX2_completes_55 : decode cX2_completes 55 = .ok (.iload_n 2, 1) := by decide +kernel
theorem dX2_completes_56 : decode cX2_completes 56 = .ok (.invokevirtual 112, 3) := by decide +kernel
theorem dX2_completes_59 : decode cX2_completes 59 = .ok (.ifCond .eq 5, 3) := by decide +kernel
theorem dX2_completes_62 : decode cX2_completes 62 = .ok (.iconst 1, 1) := by decide +kernel
theorem dX2_completes_63 : decode cX2_completes 63 = .ok (.ireturn, 1) := by decide +kernel
theorem dX2_completes_64 : decode cX2_completes 64 = .ok (.iinc 2 1, 3) := by decide +kernel
theorem dX2_completes_67 : decode cX2_completes 67 = .ok (.goto (-30), 3) := by decide +kernel
theorem dX2_completes_70 : decode cX2_completes 70 = .ok (.iinc 1 1, 3) := by decide +kernel
theorem dX2_completes_73 : decode cX2_completes 73 = .ok (.goto (-44), 3) := by decide +kernel
theorem dX2_completes_76 : decode cX2_completes 76 = .ok (.iconst 0, 1) := by decide +kernel
theorem dX2_completes_77 : decode cX2_completes 77 = .ok (.ireturn, 1) := by decide +kernel
set_option maxRecDepth 20000 in
theorem ggX2_isComplete_X2_completes : GoodIn wsX2_isComplete wsX2_completes := goodIn_r _ [6, 7, 8, 9, 10, 5, 11, 12, 13, 14, 15, 16, 17, 18, 19, 20, 21, 22, 23, 24, 25, 26, 27, 28, 29, 30, 31, 32, 33, 34, 35, 36, 37, 38, 39, 40, 41, 42, 43, 44, 45, 46, 47, 48, 49, 50, 51, 52, 53, 54, 55, 56, 57, 58, 59] (by decide +kernel) (by decide +kernel)
set_option maxRecDepth 20000 in
theorem gX2_isComplete_X2_completes : GoodIn wsX2_isComplete (wsV RX2 116 RX2 yX2_completes wsX2_completes) := goodIn_app (goodIn_of _ (by decide +kernel)) ggX2_isComplete_X2_completes
theorem dX2_isComplete_0 : decode cX2_isComplete 0 = .ok (.aload_n 0, 1) := by decide +kernel
theorem dX2_isComplete_1 : decode cX2_isComplete 1 = .ok (.iconst 0, 1) := by decide +kernel
theorem dX2_isComplete_2 : decode cX2_isComplete 2 = .ok (.putfield 54, 3) := by decide +kernel
theorem dX2_isComplete_5 : decode cX2_isComplete 5 = .ok (.aload_n 0, 1) := by decide +kernel
theorem dX2_isComplete_6 : decode cX2_isComplete 6 = .ok (.invokevirtual 116, 3) := by decide +kernel
theorem dX2_isComplete_9 : decode cX2_isComplete 9 = .ok (.ireturn, 1) := by decide +kernel
set_option maxRecDepth 20000 in
theorem ggX2_waitsFor_X2_sizeOf : GoodIn wsX2_waitsFor wsX2_sizeOf := goodIn_r _ [7, 8, 9, 10, 11, 6, 12, 1, 44, 45, 46, 47, 48, 49, 50, 51, 52, 53, 54, 55, 56, 57, 58, 59] (by decide +kernel) (by decide +kernel)
set_option maxRecDepth 20000 in
theorem gX2_waitsFor_X2_sizeOf : GoodIn wsX2_waitsFor (wsV RX2 79 RX2 yX2_sizeOf wsX2_sizeOf) := goodIn_app (goodIn_of _ (by decide +kernel)) ggX2_waitsFor_X2_sizeOf
set_option maxRecDepth 20000 in
theorem ggX2_waitsFor_X2_completes : GoodIn wsX2_waitsFor wsX2_completes := goodIn_r _ [16, 1, 3, 4, 5, 6, 7, 8, 9, 10, 11, 12, 17, 18, 19, 20, 21, 22, 23, 24, 25, 26, 27, 28, 29, 30, 31, 32, 33, 34, 35, 36, 37, 38, 39, 40, 41, 42, 43, 44, 45, 46, 47, 48, 49, 50, 51, 52, 53, 54, 55, 56, 57, 58, 59] (by decide +kernel) (by decide +kernel)
set_option maxRecDepth 20000 in
theorem gX2_waitsFor_X2_completes : GoodIn wsX2_waitsFor (wsV RX2 116 RX2 yX2_completes wsX2_completes) := goodIn_app (goodIn_of _ (by decide +kernel)) ggX2_waitsFor_X2_completes
theorem dX2_waitsFor_0 : decode cX2_waitsFor 0 = .ok (.aload_n 0, 1) := by decide +kernel
theorem dX2_waitsFor_1 : decode cX2_waitsFor 1 = .ok (.invokevirtual 79, 3) := by decide +kernel
theorem dX2_waitsFor_4 : decode cX2_waitsFor 4 = .ok (.bipush 13, 2) := by decide +kernel
theorem dX2_waitsFor_6 : decode cX2_waitsFor 6 = .ok (.if_icmp .ne 20, 3) := by decide +kernel
theorem dX2_waitsFor_9 : decode cX2_waitsFor 9 = .ok (.aload_n 0, 1) := by decide +kernel
theorem dX2_waitsFor_10 : decode cX2_waitsFor 10 = .ok (.getfield 9, 3) := by decide +kernel
theorem dX2_waitsFor_13 : decode cX2_waitsFor 13 = .ok (.iload_n 1, 1) := by decide +kernel
theorem dX2_waitsFor_14 : decode cX2_waitsFor 14 = .ok (.iaload, 1) := by decide +kernel
theorem dX2_waitsFor_15 : decode cX2_waitsFor 15 = .ok (.aload_n 0, 1) := by decide +kernel
theorem dX2_waitsFor_16 : decode cX2_waitsFor 16 = .ok (.getfield 16, 3) := by decide +kernel
theorem dX2_waitsFor_19 : decode cX2_waitsFor 19 = .ok (.iload_n 1, 1) := by decide +kernel
theorem dX2_waitsFor_20 : decode cX2_waitsFor 20 = .ok (.iaload, 1) := by decide +kernel
theorem dX2_waitsFor_21 : decode cX2_waitsFor 21 = .ok (.iadd, 1) := by decide +kernel
theorem dX2_waitsFor_22 : decode cX2_waitsFor 22 = .ok (.iconst 4, 1) := by decide +kernel
theorem dX2_waitsFor_23 : decode cX2_waitsFor 23 = .ok (.if_icmp .ne 5, 3) := by decide +kernel
theorem dX2_waitsFor_26 : decode cX2_waitsFor 26 = .ok (.iconst 0, 1) := by decide +kernel
theorem dX2_waitsFor_27 : decode cX2_waitsFor 27 = .ok (.ireturn, 1) := by decide +kernel
theorem dX2_waitsFor_28 : decode cX2_waitsFor 28 = .ok (.aload_n 0, 1) := by decide +kernel
theorem dX2_waitsFor_29 : decode cX2_waitsFor 29 = .ok (.getfield 9, 3) := by decide +kernel
theorem dX2_waitsFor_32 : decode cX2_waitsFor 32 = .ok (.iload_n 1, 1) := by decide +kernel
theorem dX2_waitsFor_33 : decode cX2_waitsFor 33 = .ok (.dup2, 1) := by decide +kernel
theorem dX2_waitsFor_34 : decode cX2_waitsFor 34 = .ok (.iaload, 1) := by decide +kernel
theorem dX2_waitsFor_35 : decode cX2_waitsFor 35 = .ok (.iconst 1, 1) := by decide +kernel
theorem dX2_waitsFor_36 : decode cX2_waitsFor 36 = .ok (.iadd, 1) := by decide +kernel
theorem dX2_waitsFor_37 : decode cX2_waitsFor 37 = .ok (.iastore, 1) := by decide +kernel
theorem dX2_waitsFor_38 : decode cX2_waitsFor 38 = .ok (.aload_n 0, 1) := by decide +kernel
theorem dX2_waitsFor_39 : decode cX2_waitsFor 39 = .ok (.invokevirtual 116, 3) := by decide +kernel
theorem dX2_waitsFor_42 : decode cX2_waitsFor 42 = .ok (.istore_n 2, 1) := by decide +kernel
theorem dX2_waitsFor_43 : decode cX2_waitsFor 43 = .ok (.aload_n 0, 1) := by decide +kernel
theorem dX2_waitsFor_44 : decode cX2_waitsFor 44 = .ok (.getfield 9, 3) := by decide +kernel
theorem dX2_waitsFor_47 : decode cX2_waitsFor 47 = .ok (.iload_n 1, 1) := by decide +kernel
theorem dX2_waitsFor_48 : decode cX2_waitsFor 48 = .ok (.dup2, 1) := by decide +kernel
theorem dX2_waitsFor_49 : decode cX2_waitsFor 49 = .ok (.iaload, 1) := by decide +kernel
theorem dX2_waitsFor_50 : decode cX2_waitsFor 50 = .ok (.iconst 1, 1) := by decide +kernel
theorem dX2_waitsFor_51 : decode cX2_waitsFor 51 = .ok (.isub, 1) := by decide +kernel
theorem dX2_waitsFor_52 : decode cX2_waitsFor 52 = .ok (.iastore, 1) := by decide +kernel
theorem dX2_waitsFor_53 : decode cX2_waitsFor 53 = .ok (.iload_n 2, 1) := by decide +kernel
theorem dX2_waitsFor_54 : decode cX2_waitsFor 54 = .ok (.ireturn, 1) := by decide +kernel
set_option maxRecDepth 20000 in
theorem ggX2_waitingSet_X2_waitsFor : GoodIn wsX2_waitingSet wsX2_waitsFor := goodIn_r _ [5, 6, 7, 8, 9, 10, 4, 11, 12, 13, 14, 15, 16, 17, 18, 19, 20, 21, 22, 23, 24, 25, 26, 27, 28, 29, 30, 31, 32, 33, 34, 35, 36, 37, 38, 39, 40, 41, 42, 43, 44, 45, 46, 47, 48, 49, 50, 51, 52, 53, 54, 55, 56, 57, 58, 59, 60, 61, 62, 63] (by decide +kernel) (by decide +kernel)
set_option maxRecDepth 20000 in
theorem gX2_waitingSet_X2_waitsFor : GoodIn wsX2_waitingSet (wsV RX2 119 RX2 yX2_waitsFor wsX2_waitsFor) := goodIn_app (goodIn_of _ (by decide +kernel)) ggX2_waitingSet_X2_waitsFor
theorem dX2_waitingSet_0 : decode cX2_waitingSet 0 = .ok (.lconst 0, 1) := by decide +kernel
theorem dX2_waitingSet_1 : decode cX2_waitingSet 1 = .ok (.lstore_n 1, 1) := by decide +kernel
theorem dX2_waitingSet_2 : decode cX2_waitingSet 2 = .ok (.iconst 0, 1) := by decide +kernel
theorem dX2_waitingSet_3 : decode cX2_waitingSet 3 = .ok (.istore_n 3, 1) := by decide +kernel
theorem dX2_waitingSet_4 : decode cX2_waitingSet 4 = .ok (.iload_n 3, 1) := by decide +kernel
theorem dX2_waitingSet_5 : decode cX2_waitingSet 5 = .ok (.bipush 34, 2) := by decide +kernel
theorem dX2_waitingSet_7 : decode cX2_waitingSet 7 = .ok (.if_icmp .ge 23, 3) := by decide +kernel
theorem dX2_waitingSet_10 : decode cX2_waitingSet 10 = .ok (.aload_n 0, 1) := by decide +kernel
theorem dX2_waitingSet_11 : decode cX2_waitingSet 11 = .ok (.iload_n 3, 1) := by decide +kernel
theorem dX2_waitingSet_12 : decode cX2_waitingSet 12 = .ok (.invokevirtual 119, 3) := by decide +kernel
theorem dX2_waitingSet_15 : decode cX2_waitingSet 15 = .ok (.ifCond .eq 9, 3) := by decide +kernel
theorem dX2_waitingSet_18 : decode cX2_waitingSet 18 = .ok (.lload_n 1, 1) := by decide +kernel
theorem dX2_waitingSet_19 : decode cX2_waitingSet 19 = .ok (.lconst 1, 1) := by decide +kernel
theorem dX2_waitingSet_20 : decode cX2_waitingSet 20 = .ok (.iload_n 3, 1) := by decide +kernel
theorem dX2_waitingSet_21 : decode cX2_waitingSet 21 = .ok (.lshl, 1) := by decide +kernel
theorem dX2_waitingSet_22 : decode cX2_waitingSet 22 = .ok (.lor, 1) := by decide +kernel
theorem dX2_waitingSet_23 : decode cX2_waitingSet 23 = .ok (.lstore_n 1, 1) := by decide +kernel
theorem dX2_waitingSet_24 : decode cX2_waitingSet 24 = .ok (.iinc 3 1, 3) := by decide +kernel
theorem dX2_waitingSet_27 : decode cX2_waitingSet 27 = .ok (.goto (-23), 3) := by decide +kernel
theorem dX2_waitingSet_30 : decode cX2_waitingSet 30 = .ok (.lload_n 1, 1) := by decide +kernel
theorem dX2_waitingSet_31 : decode cX2_waitingSet 31 = .ok (.lreturn, 1) := by decide +kernel
set_option maxRecDepth 20000 in
theorem ggX2_waits_X2_waitingSet : GoodIn wsX2_waits wsX2_waitingSet := goodIn_r _ [6, 7, 8, 9, 5, 10, 11, 12, 13, 14, 15, 16, 17, 18, 19, 20, 21, 22, 23, 24, 25, 26, 27, 28, 29, 30, 31, 32, 33, 34, 35, 36, 37, 38, 39, 40, 41, 42, 43, 44, 45, 46, 47, 48, 49, 50, 51, 52, 53, 54, 55, 56, 57, 58, 59, 60, 61, 62, 63, 64, 65, 66, 67, 68] (by decide +kernel) (by decide +kernel)
set_option maxRecDepth 20000 in
theorem gX2_waits_X2_waitingSet : GoodIn wsX2_waits (wsV RX2 122 RX2 yX2_waitingSet wsX2_waitingSet) := goodIn_app (goodIn_of _ (by decide +kernel)) ggX2_waits_X2_waitingSet
theorem dX2_waits_0 : decode cX2_waits 0 = .ok (.aload_n 0, 1) := by decide +kernel
theorem dX2_waits_1 : decode cX2_waits 1 = .ok (.iconst 0, 1) := by decide +kernel
theorem dX2_waits_2 : decode cX2_waits 2 = .ok (.putfield 54, 3) := by decide +kernel
theorem dX2_waits_5 : decode cX2_waits 5 = .ok (.aload_n 0, 1) := by decide +kernel
theorem dX2_waits_6 : decode cX2_waits 6 = .ok (.invokevirtual 122, 3) := by decide +kernel
theorem dX2_waits_9 : decode cX2_waits 9 = .ok (.lreturn, 1) := by decide +kernel
set_option maxRecDepth 20000 in
theorem ggX2_outsOf_X2_left : GoodIn wsX2_outsOf wsX2_left := goodIn_r _ [5, 6, 7, 8, 9, 10, 11, 12, 13, 14, 15, 16, 17, 18, 19, 20, 21, 22, 23, 24] (by decide +kernel) (by decide +kernel)
set_option maxRecDepth 20000 in
theorem gX2_outsOf_X2_left : GoodIn wsX2_outsOf (wsV RX2 82 RX2 yX2_left wsX2_left) := goodIn_app (goodIn_of _ (by decide +kernel)) ggX2_outsOf_X2_left
theorem dX2_outsOf_0 : decode cX2_outsOf 0 = .ok (.iconst 0, 1) := by decide +kernel
theorem dX2_outsOf_1 : decode cX2_outsOf 1 = .ok (.istore_n 3, 1) := by decide +kernel
theorem dX2_outsOf_2 : decode cX2_outsOf 2 = .ok (.iconst 0, 1) := by decide +kernel
theorem dX2_outsOf_3 : decode cX2_outsOf 3 = .ok (.istore 4, 2) := by decide +kernel
theorem dX2_outsOf_5 : decode cX2_outsOf 5 = .ok (.iload 4, 2) := by decide +kernel
theorem dX2_outsOf_7 : decode cX2_outsOf 7 = .ok (.bipush 34, 2) := by decide +kernel
theorem dX2_outsOf_9 : decode cX2_outsOf 9 = .ok (.if_icmp .ge 33, 3) := by decide +kernel
theorem dX2_outsOf_12 : decode cX2_outsOf 12 = .ok (.iload_n 3, 1) := by decide +kernel
theorem dX2_outsOf_13 : decode cX2_outsOf 13 = .ok (.lload_n 1, 1) := by decide +kernel
theorem dX2_outsOf_14 : decode cX2_outsOf 14 = .ok (.iload 4, 2) := by decide +kernel
theorem dX2_outsOf_16 : decode cX2_outsOf 16 = .ok (.lshr, 1) := by decide +kernel
theorem dX2_outsOf_17 : decode cX2_outsOf 17 = .ok (.lconst 1, 1) := by decide +kernel
theorem dX2_outsOf_18 : decode cX2_outsOf 18 = .ok (.land, 1) := by decide +kernel
theorem dX2_outsOf_19 : decode cX2_outsOf 19 = .ok (.lconst 1, 1) := by decide +kernel
theorem dX2_outsOf_20 : decode cX2_outsOf 20 = .ok (.lcmp, 1) := by decide +kernel
theorem dX2_outsOf_21 : decode cX2_outsOf 21 = .ok (.ifCond .ne 12, 3) := by decide +kernel
theorem dX2_outsOf_24 : decode cX2_outsOf 24 = .ok (.aload_n 0, 1) := by decide +kernel
theorem dX2_outsOf_25 : decode cX2_outsOf 25 = .ok (.iload 4, 2) := by decide +kernel
theorem dX2_outsOf_27 : decode cX2_outsOf 27 = .ok (.invokevirtual 82, 3) := by decide +kernel
theorem dX2_outsOf_30 : decode cX2_outsOf 30 = .ok (.goto 4, 3) := by decide +kernel
theorem dX2_outsOf_33 : decode cX2_outsOf 33 = .ok (.iconst 0, 1) := by decide +kernel
theorem dX2_outsOf_34 : decode cX2_outsOf 34 = .ok (.iadd, 1) := by decide +kernel
theorem dX2_outsOf_35 : decode cX2_outsOf 35 = .ok (.istore_n 3, 1) := by decide +kernel
theorem dX2_outsOf_36 : decode cX2_outsOf 36 = .ok (.iinc 4 1, 3) := by decide +kernel
theorem dX2_outsOf_39 : decode cX2_outsOf 39 = .ok (.goto (-34), 3) := by decide +kernel
theorem dX2_outsOf_42 : decode cX2_outsOf 42 = .ok (.iload_n 3, 1) := by decide +kernel
theorem dX2_outsOf_43 : decode cX2_outsOf 43 = .ok (.ireturn, 1) := by decide +kernel
set_option maxRecDepth 20000 in
theorem ggX2_outs_X2_waitingSet : GoodIn wsX2_outs wsX2_waitingSet := goodIn_r _ [6, 7, 8, 9, 5, 10, 11, 12, 13, 14, 15, 16, 17, 18, 19, 20, 21, 22, 23, 24, 25, 26, 27, 28, 29, 30, 31, 32, 33, 34, 35, 36, 37, 38, 39, 40, 41, 42, 43, 44, 45, 46, 47, 48, 49, 50, 51, 52, 62, 63, 64, 65, 66, 67, 68, 69, 70, 71, 72, 73, 74, 75, 76, 77] (by decide +kernel) (by decide +kernel)
set_option maxRecDepth 20000 in
theorem gX2_outs_X2_waitingSet : GoodIn wsX2_outs (wsV RX2 122 RX2 yX2_waitingSet wsX2_waitingSet) := goodIn_app (goodIn_of _ (by decide +kernel)) ggX2_outs_X2_waitingSet
set_option maxRecDepth 20000 in
theorem ggX2_outs_X2_outsOf : GoodIn wsX2_outs wsX2_outsOf := goodIn_r _ [56, 57, 58, 59, 5, 60, 11, 12, 61, 62, 63, 64, 65, 66, 67, 68, 69, 70, 71, 72, 73, 74, 75, 76, 77] (by decide +kernel) (by decide +kernel)
set_option maxRecDepth 20000 in
theorem gX2_outs_X2_outsOf : GoodIn wsX2_outs (wsV RX2 126 RX2 yX2_outsOf wsX2_outsOf) := goodIn_app (goodIn_of _ (by decide +kernel)) ggX2_outs_X2_outsOf
theorem dX2_outs_0 : decode cX2_outs 0 = .ok (.aload_n 0, 1) := by decide +kernel
theorem dX2_outs_1 : decode cX2_outs 1 = .ok (.iconst 0, 1) := by decide +kernel
theorem dX2_outs_2 : decode cX2_outs 2 = .ok (.putfield 54, 3) := by decide +kernel
theorem dX2_outs_5 : decode cX2_outs 5 = .ok (.aload_n 0, 1) := by decide +kernel
theorem dX2_outs_6 : decode cX2_outs 6 = .ok (.aload_n 0, 1) := by decide +kernel
theorem dX2_outs_7 : decode cX2_outs 7 = .ok (.invokevirtual 122, 3) := by decide +kernel
theorem dX2_outs_10 : decode cX2_outs 10 = .ok (.invokevirtual 126, 3) := by decide +kernel
theorem dX2_outs_13 : decode cX2_outs 13 = .ok (.ireturn, 1) := by decide +kernel
theorem dX2_state_0 : decode cX2_state 0 = .ok (.iload_n 0, 1) := by decide +kernel
theorem dX2_state_1 : decode cX2_state 1 = .ok (.iconst 5, 1) := by decide +kernel
theorem dX2_state_2 : decode cX2_state 2 = .ok (.imul, 1) := by decide +kernel
theorem dX2_state_3 : decode cX2_state 3 = .ok (.iload_n 1, 1) := by decide +kernel
theorem dX2_state_4 : decode cX2_state 4 = .ok (.iadd, 1) := by decide +kernel
theorem dX2_state_5 : decode cX2_state 5 = .ok (.iconst 5, 1) := by decide +kernel
theorem dX2_state_6 : decode cX2_state 6 = .ok (.imul, 1) := by decide +kernel
theorem dX2_state_7 : decode cX2_state 7 = .ok (.iload_n 2, 1) := by decide +kernel
theorem dX2_state_8 : decode cX2_state 8 = .ok (.iadd, 1) := by decide +kernel
theorem dX2_state_9 : decode cX2_state 9 = .ok (.iconst 2, 1) := by decide +kernel
theorem dX2_state_10 : decode cX2_state 10 = .ok (.imul, 1) := by decide +kernel
theorem dX2_state_11 : decode cX2_state 11 = .ok (.iload_n 3, 1) := by decide +kernel
theorem dX2_state_12 : decode cX2_state 12 = .ok (.iadd, 1) := by decide +kernel
theorem dX2_state_13 : decode cX2_state 13 = .ok (.ireturn, 1) := by decide +kernel
theorem dX2_clear_0 : decode cX2_clear 0 = .ok (.iconst 0, 1) := by decide +kernel
theorem dX2_clear_1 : decode cX2_clear 1 = .ok (.istore_n 1, 1) := by decide +kernel
theorem dX2_clear_2 : decode cX2_clear 2 = .ok (.iload_n 1, 1) := by decide +kernel
theorem dX2_clear_3 : decode cX2_clear 3 = .ok (.sipush 250, 3) := by decide +kernel
theorem dX2_clear_6 : decode cX2_clear 6 = .ok (.if_icmp .ge 14, 3) := by decide +kernel
theorem dX2_clear_9 : decode cX2_clear 9 = .ok (.aload_n 0, 1) := by decide +kernel
theorem dX2_clear_10 : decode cX2_clear 10 = .ok (.iload_n 1, 1) := by decide +kernel
theorem dX2_clear_11 : decode cX2_clear 11 = .ok (.bipush 99, 2) := by decide +kernel
theorem dX2_clear_13 : decode cX2_clear 13 = .ok (.iastore, 1) := by decide +kernel
theorem dX2_clear_14 : decode cX2_clear 14 = .ok (.iinc 1 1, 3) := by decide +kernel
theorem dX2_clear_17 : decode cX2_clear 17 = .ok (.goto (-15), 3) := by decide +kernel
theorem dX2_clear_20 : decode cX2_clear 20 = .ok (.return_, 1) := by decide +kernel
set_option maxRecDepth 20000 in
theorem ggX2_step_X2_state : GoodIn wsX2_step wsX2_state := goodIn_r _ [16] (by decide +kernel) (by decide +kernel)
set_option maxRecDepth 20000 in
theorem gX2_step_X2_state : GoodIn wsX2_step (va_wsS RX2 130 yX2_state wsX2_state) := goodIn_app (goodIn_of _ (by decide +kernel)) ggX2_step_X2_state
set_option maxRecDepth 20000 in
theorem ggX2_step_X2_beginsRow : GoodIn wsX2_step wsX2_beginsRow := goodIn_r _ [19] (by decide +kernel) (by decide +kernel)
set_option maxRecDepth 20000 in
theorem gX2_step_X2_beginsRow : GoodIn wsX2_step (va_wsS RX2 85 yX2_beginsRow wsX2_beginsRow) := goodIn_app (goodIn_of _ (by decide +kernel)) ggX2_step_X2_beginsRow
theorem dX2_step_0 : decode cX2_step 0 = .ok (.aload_n 0, 1) := by decide +kernel
theorem dX2_step_1 : decode cX2_step 1 = .ok (.getfield 48, 3) := by decide +kernel
theorem dX2_step_4 : decode cX2_step 4 = .ok (.iload_n 2, 1) := by decide +kernel
theorem dX2_step_5 : decode cX2_step 5 = .ok (.iload_n 3, 1) := by decide +kernel
theorem dX2_step_6 : decode cX2_step 6 = .ok (.iload 4, 2) := by decide +kernel
theorem dX2_step_8 : decode cX2_step 8 = .ok (.iload 5, 2) := by decide +kernel
theorem dX2_step_10 : decode cX2_step 10 = .ok (.invokestatic 130, 3) := by decide +kernel
theorem dX2_step_13 : decode cX2_step 13 = .ok (.iaload, 1) := by decide +kernel
theorem dX2_step_14 : decode cX2_step 14 = .ok (.istore 6, 2) := by decide +kernel
theorem dX2_step_16 : decode cX2_step 16 = .ok (.iconst 4, 1) := by decide +kernel
theorem dX2_step_17 : decode cX2_step 17 = .ok (.aload_n 0, 1) := by decide +kernel
theorem dX2_step_18 : decode cX2_step 18 = .ok (.getfield 69, 3) := by decide +kernel
theorem dX2_step_21 : decode cX2_step 21 = .ok (.isub, 1) := by decide +kernel
theorem dX2_step_22 : decode cX2_step 22 = .ok (.iload 4, 2) := by decide +kernel
theorem dX2_step_24 : decode cX2_step 24 = .ok (.isub, 1) := by decide +kernel
theorem dX2_step_25 : decode cX2_step 25 = .ok (.istore 7, 2) := by decide +kernel
theorem dX2_step_27 : decode cX2_step 27 = .ok (.iconst 0, 1) := by decide +kernel
theorem dX2_step_28 : decode cX2_step 28 = .ok (.istore 8, 2) := by decide +kernel
theorem dX2_step_30 : decode cX2_step 30 = .ok (.iload 8, 2) := by decide +kernel
theorem dX2_step_32 : decode cX2_step 32 = .ok (.iload_n 1, 1) := by decide +kernel
theorem dX2_step_33 : decode cX2_step 33 = .ok (.invokestatic 85, 3) := by decide +kernel
theorem dX2_step_36 : decode cX2_step 36 = .ok (.ifCond .eq 8, 3) := by decide +kernel
theorem dX2_step_39 : decode cX2_step 39 = .ok (.iload 7, 2) := by decide +kernel
theorem dX2_step_41 : decode cX2_step 41 = .ok (.goto 4, 3) := by decide +kernel
theorem dX2_step_44 : decode cX2_step 44 = .ok (.iconst 0, 1) := by decide +kernel
theorem dX2_step_45 : decode cX2_step 45 = .ok (.if_icmp .gt 140, 3) := by decide +kernel
theorem dX2_step_48 : decode cX2_step 48 = .ok (.iconst 0, 1) := by decide +kernel
theorem dX2_step_49 : decode cX2_step 49 = .ok (.istore 9, 2) := by decide +kernel
theorem dX2_step_51 : decode cX2_step 51 = .ok (.iload 9, 2) := by decide +kernel
theorem dX2_step_53 : decode cX2_step 53 = .ok (.iconst 2, 1) := by decide +kernel
theorem dX2_step_54 : decode cX2_step 54 = .ok (.if_icmp .ge 125, 3) := by decide +kernel
theorem dX2_step_57 : decode cX2_step 57 = .ok (.iload 8, 2) := by decide +kernel
theorem dX2_step_59 : decode cX2_step 59 = .ok (.iload 9, 2) := by decide +kernel
theorem dX2_step_61 : decode cX2_step 61 = .ok (.iadd, 1) := by decide +kernel
theorem dX2_step_62 : decode cX2_step 62 = .ok (.iload 7, 2) := by decide +kernel
theorem dX2_step_64 : decode cX2_step 64 = .ok (.if_icmp .gt 115, 3) := by decide +kernel
theorem dX2_step_67 : decode cX2_step 67 = .ok (.iconst 0, 1) := by decide +kernel
theorem dX2_step_68 : decode cX2_step 68 = .ok (.istore 10, 2) := by decide +kernel
theorem dX2_step_70 : decode cX2_step 70 = .ok (.iload 10, 2) := by decide +kernel
theorem dX2_step_72 : decode cX2_step 72 = .ok (.iload 5, 2) := by decide +kernel
theorem dX2_step_74 : decode cX2_step 74 = .ok (.iadd, 1) := by decide +kernel
theorem dX2_step_75 : decode cX2_step 75 = .ok (.iconst 2, 1) := by decide +kernel
theorem dX2_step_76 : decode cX2_step 76 = .ok (.if_icmp .ge 97, 3) := by decide +kernel
theorem dX2_step_79 : decode cX2_step 79 = .ok (.iload 8, 2) := by decide +kernel
theorem dX2_step_81 : decode cX2_step 81 = .ok (.iload_n 2, 1) := by decide +kernel
theorem dX2_step_82 : decode cX2_step 82 = .ok (.iadd, 1) := by decide +kernel
theorem dX2_step_83 : decode cX2_step 83 = .ok (.iload_n 3, 1) := by decide +kernel
theorem dX2_step_84 : decode cX2_step 84 = .ok (.iadd, 1) := by decide +kernel
theorem dX2_step_85 : decode cX2_step 85 = .ok (.iconst 3, 1) := by decide +kernel
theorem dX2_step_86 : decode cX2_step 86 = .ok (.iload 9, 2) := by decide +kernel
theorem dX2_step_88 : decode cX2_step 88 = .ok (.imul, 1) := by decide +kernel
theorem dX2_step_89 : decode cX2_step 89 = .ok (.iadd, 1) := by decide +kernel
theorem dX2_step_90 : decode cX2_step 90 = .ok (.iconst 2, 1) := by decide +kernel
theorem dX2_step_91 : decode cX2_step 91 = .ok (.iload 10, 2) := by decide +kernel
theorem dX2_step_93 : decode cX2_step 93 = .ok (.imul, 1) := by decide +kernel
theorem dX2_step_94 : decode cX2_step 94 = .ok (.iadd, 1) := by decide +kernel
theorem dX2_step_95 : decode cX2_step 95 = .ok (.istore 11, 2) := by decide +kernel
theorem dX2_step_97 : decode cX2_step 97 = .ok (.iload 11, 2) := by decide +kernel
theorem dX2_step_99 : decode cX2_step 99 = .ok (.aload_n 0, 1) := by decide +kernel
theorem dX2_step_100 : decode cX2_step 100 = .ok (.getfield 16, 3) := by decide +kernel
theorem dX2_step_103 : decode cX2_step 103 = .ok (.iload_n 1, 1) := by decide +kernel
theorem dX2_step_104 : decode cX2_step 104 = .ok (.iaload, 1) := by decide +kernel
theorem dX2_step_105 : decode cX2_step 105 = .ok (.iadd, 1) := by decide +kernel
theorem dX2_step_106 : decode cX2_step 106 = .ok (.iconst 4, 1) := by decide +kernel
theorem dX2_step_107 : decode cX2_step 107 = .ok (.if_icmp .le 6, 3) := by decide +kernel
theorem dX2_step_110 : decode cX2_step 110 = .ok (.goto 57, 3) := by decide +kernel
theorem dX2_step_113 : decode cX2_step 113 = .ok (.iload 8, 2) := by decide +kernel
theorem dX2_step_115 : decode cX2_step 115 = .ok (.iload_n 2, 1) := by decide +kernel
theorem dX2_step_116 : decode cX2_step 116 = .ok (.iload 4, 2) := by decide +kernel
theorem dX2_step_118 : decode cX2_step 118 = .ok (.iload 8, 2) := by decide +kernel
theorem dX2_step_120 : decode cX2_step 120 = .ok (.iadd, 1) := by decide +kernel
theorem dX2_step_121 : decode cX2_step 121 = .ok (.iload 9, 2) := by decide +kernel
theorem dX2_step_123 : decode cX2_step 123 = .ok (.iadd, 1) := by decide +kernel
theorem dX2_step_124 : decode cX2_step 124 = .ok (.iload 5, 2) := by decide +kernel
theorem dX2_step_126 : decode cX2_step 126 = .ok (.iload 10, 2) := by decide +kernel
theorem dX2_step_128 : decode cX2_step 128 = .ok (.iadd, 1) := by decide +kernel
theorem dX2_step_129 : decode cX2_step 129 = .ok (.invokestatic 130, 3) := by decide +kernel
theorem dX2_step_132 : decode cX2_step 132 = .ok (.istore 12, 2) := by decide +kernel
theorem dX2_step_134 : decode cX2_step 134 = .ok (.aload_n 0, 1) := by decide +kernel
theorem dX2_step_135 : decode cX2_step 135 = .ok (.getfield 51, 3) := by decide +kernel
theorem dX2_step_138 : decode cX2_step 138 = .ok (.iload 12, 2) := by decide +kernel
theorem dX2_step_140 : decode cX2_step 140 = .ok (.aload_n 0, 1) := by decide +kernel
theorem dX2_step_141 : decode cX2_step 141 = .ok (.getfield 51, 3) := by decide +kernel
theorem dX2_step_144 : decode cX2_step 144 = .ok (.iload 12, 2) := by decide +kernel
theorem dX2_step_146 : decode cX2_step 146 = .ok (.iaload, 1) := by decide +kernel
theorem dX2_step_147 : decode cX2_step 147 = .ok (.iload 6, 2) := by decide +kernel
theorem dX2_step_149 : decode cX2_step 149 = .ok (.iconst 0, 1) := by decide +kernel
theorem dX2_step_150 : decode cX2_step 150 = .ok (.iload 11, 2) := by decide +kernel
theorem dX2_step_152 : decode cX2_step 152 = .ok (.aload_n 0, 1) := by decide +kernel
theorem dX2_step_153 : decode cX2_step 153 = .ok (.getfield 9, 3) := by decide +kernel
theorem dX2_step_156 : decode cX2_step 156 = .ok (.iload_n 1, 1) := by decide +kernel
theorem dX2_step_157 : decode cX2_step 157 = .ok (.iaload, 1) := by decide +kernel
theorem dX2_step_158 : decode cX2_step 158 = .ok (.isub, 1) := by decide +kernel
theorem dX2_step_159 : decode cX2_step 159 = .ok (.invokestatic 134, 3) := by decide +kernel
theorem dX2_step_162 : decode cX2_step 162 = .ok (.iadd, 1) := by decide +kernel
theorem dX2_step_163 : decode cX2_step 163 = .ok (.invokestatic 139, 3) := by decide +kernel
theorem dX2_step_166 : decode cX2_step 166 = .ok (.iastore, 1) := by decide +kernel
theorem dX2_step_167 : decode cX2_step 167 = .ok (.iinc 10 1, 3) := by decide +kernel
theorem dX2_step_170 : decode cX2_step 170 = .ok (.goto (-100), 3) := by decide +kernel
theorem dX2_step_173 : decode cX2_step 173 = .ok (.iinc 9 1, 3) := by decide +kernel
theorem dX2_step_176 : decode cX2_step 176 = .ok (.goto (-125), 3) := by decide +kernel
theorem dX2_step_179 : decode cX2_step 179 = .ok (.iinc 8 1, 3) := by decide +kernel
theorem dX2_step_182 : decode cX2_step 182 = .ok (.goto (-152), 3) := by decide +kernel
theorem dX2_step_185 : decode cX2_step 185 = .ok (.return_, 1) := by decide +kernel
set_option maxRecDepth 20000 in
theorem ggX2_missingGroups_X2_clear : GoodIn wsX2_missingGroups wsX2_clear := goodIn_r _ [7] (by decide +kernel) (by decide +kernel)
set_option maxRecDepth 20000 in
theorem gX2_missingGroups_X2_clear : GoodIn wsX2_missingGroups (va_wsS RX2 142 yX2_clear wsX2_clear) := goodIn_app (goodIn_of _ (by decide +kernel)) ggX2_missingGroups_X2_clear
set_option maxRecDepth 20000 in
theorem ggX2_missingGroups_X2_state : GoodIn wsX2_missingGroups wsX2_state := goodIn_r _ [10] (by decide +kernel) (by decide +kernel)
set_option maxRecDepth 20000 in
theorem gX2_missingGroups_X2_state : GoodIn wsX2_missingGroups (va_wsS RX2 130 yX2_state wsX2_state) := goodIn_app (goodIn_of _ (by decide +kernel)) ggX2_missingGroups_X2_state
set_option maxRecDepth 20000 in
theorem ggX2_missingGroups_X2_step : GoodIn wsX2_missingGroups wsX2_step := goodIn_r _ [14, 1, 3, 15, 2, 16, 17, 18, 19, 20, 21, 22, 23, 8, 9, 6, 10, 24, 25, 26, 27, 28, 29, 30, 31, 32, 33, 34, 35, 36, 37, 38, 39, 40, 41, 42] (by decide +kernel) (by decide +kernel)
set_option maxRecDepth 20000 in
theorem gX2_missingGroups_X2_step : GoodIn wsX2_missingGroups (wsV RX2 146 RX2 yX2_step wsX2_step) := goodIn_app (goodIn_of _ (by decide +kernel)) ggX2_missingGroups_X2_step
theorem dX2_missingGroups_0 : decode cX2_missingGroups 0 = .ok (.aload_n 0, 1) := by decide +kernel
theorem dX2_missingGroups_1 : decode cX2_missingGroups 1 = .ok (.getfield 48, 3) := by decide +kernel
theorem dX2_missingGroups_4 : decode cX2_missingGroups 4 = .ok (.invokestatic 142, 3) := by decide +kernel
theorem dX2_missingGroups_7 : decode cX2_missingGroups 7 = .ok (.aload_n 0, 1) := by decide +kernel
theorem dX2_missingGroups_8 : decode cX2_missingGroups 8 = .ok (.getfield 48, 3) := by decide +kernel
theorem dX2_missingGroups_11 : decode cX2_missingGroups 11 = .ok (.iconst 0, 1) := by decide +kernel
theorem dX2_missingGroups_12 : decode cX2_missingGroups 12 = .ok (.iconst 0, 1) := by decide +kernel
theorem dX2_missingGroups_13 : decode cX2_missingGroups 13 = .ok (.iconst 0, 1) := by decide +kernel
theorem dX2_missingGroups_14 : decode cX2_missingGroups 14 = .ok (.iconst 0, 1) := by decide +kernel
theorem dX2_missingGroups_15 : decode cX2_missingGroups 15 = .ok (.invokestatic 130, 3) := by decide +kernel
theorem dX2_missingGroups_18 : decode cX2_missingGroups 18 = .ok (.iconst 0, 1) := by decide +kernel
theorem dX2_missingGroups_19 : decode cX2_missingGroups 19 = .ok (.iastore, 1) := by decide +kernel
theorem dX2_missingGroups_20 : decode cX2_missingGroups 20 = .ok (.iconst 0, 1) := by decide +kernel
theorem dX2_missingGroups_21 : decode cX2_missingGroups 21 = .ok (.istore_n 1, 1) := by decide +kernel
theorem dX2_missingGroups_22 : decode cX2_missingGroups 22 = .ok (.iload_n 1, 1) := by decide +kernel
theorem dX2_missingGroups_23 : decode cX2_missingGroups 23 = .ok (.bipush 34, 2) := by decide +kernel
theorem dX2_missingGroups_25 : decode cX2_missingGroups 25 = .ok (.if_icmp .ge 129, 3) := by decide +kernel
theorem dX2_missingGroups_28 : decode cX2_missingGroups 28 = .ok (.aload_n 0, 1) := by decide +kernel
theorem dX2_missingGroups_29 : decode cX2_missingGroups 29 = .ok (.getfield 51, 3) := by decide +kernel
theorem dX2_missingGroups_32 : decode cX2_missingGroups 32 = .ok (.invokestatic 142, 3) := by decide +kernel
theorem dX2_missingGroups_35 : decode cX2_missingGroups 35 = .ok (.iconst 0, 1) := by decide +kernel
theorem dX2_missingGroups_36 : decode cX2_missingGroups 36 = .ok (.istore_n 2, 1) := by decide +kernel
theorem dX2_missingGroups_37 : decode cX2_missingGroups 37 = .ok (.iload_n 2, 1) := by decide +kernel
theorem dX2_missingGroups_38 : decode cX2_missingGroups 38 = .ok (.iconst 5, 1) := by decide +kernel
theorem dX2_missingGroups_39 : decode cX2_missingGroups 39 = .ok (.if_icmp .ge 91, 3) := by decide +kernel
theorem dX2_missingGroups_42 : decode cX2_missingGroups 42 = .ok (.iconst 0, 1) := by decide +kernel
theorem dX2_missingGroups_43 : decode cX2_missingGroups 43 = .ok (.istore_n 3, 1) := by decide +kernel
theorem dX2_missingGroups_44 : decode cX2_missingGroups 44 = .ok (.iload_n 2, 1) := by decide +kernel
theorem dX2_missingGroups_45 : decode cX2_missingGroups 45 = .ok (.iload_n 3, 1) := by decide +kernel
theorem dX2_missingGroups_46 : decode cX2_missingGroups 46 = .ok (.iadd, 1) := by decide +kernel
theorem dX2_missingGroups_47 : decode cX2_missingGroups 47 = .ok (.iconst 5, 1) := by decide +kernel
theorem dX2_missingGroups_48 : decode cX2_missingGroups 48 = .ok (.if_icmp .ge 76, 3) := by decide +kernel
theorem dX2_missingGroups_51 : decode cX2_missingGroups 51 = .ok (.iload_n 2, 1) := by decide +kernel
theorem dX2_missingGroups_52 : decode cX2_missingGroups 52 = .ok (.iload_n 3, 1) := by decide +kernel
theorem dX2_missingGroups_53 : decode cX2_missingGroups 53 = .ok (.iadd, 1) := by decide +kernel
theorem dX2_missingGroups_54 : decode cX2_missingGroups 54 = .ok (.istore 4, 2) := by decide +kernel
theorem dX2_missingGroups_56 : decode cX2_missingGroups 56 = .ok (.iload 4, 2) := by decide +kernel
theorem dX2_missingGroups_58 : decode cX2_missingGroups 58 = .ok (.iconst 4, 1) := by decide +kernel
theorem dX2_missingGroups_59 : decode cX2_missingGroups 59 = .ok (.aload_n 0, 1) := by decide +kernel
theorem dX2_missingGroups_60 : decode cX2_missingGroups 60 = .ok (.getfield 69, 3) := by decide +kernel
theorem dX2_missingGroups_63 : decode cX2_missingGroups 63 = .ok (.isub, 1) := by decide +kernel
theorem dX2_missingGroups_64 : decode cX2_missingGroups 64 = .ok (.if_icmp .gt 54, 3) := by decide +kernel
theorem dX2_missingGroups_67 : decode cX2_missingGroups 67 = .ok (.iconst 0, 1) := by decide +kernel
theorem dX2_missingGroups_68 : decode cX2_missingGroups 68 = .ok (.istore 5, 2) := by decide +kernel
theorem dX2_missingGroups_70 : decode cX2_missingGroups 70 = .ok (.iload 5, 2) := by decide +kernel
theorem dX2_missingGroups_72 : decode cX2_missingGroups 72 = .ok (.iconst 2, 1) := by decide +kernel
theorem dX2_missingGroups_73 : decode cX2_missingGroups 73 = .ok (.if_icmp .ge 39, 3) := by decide +kernel
theorem dX2_missingGroups_76 : decode cX2_missingGroups 76 = .ok (.aload_n 0, 1) := by decide +kernel
theorem dX2_missingGroups_77 : decode cX2_missingGroups 77 = .ok (.getfield 48, 3) := by decide +kernel
theorem dX2_missingGroups_80 : decode cX2_missingGroups 80 = .ok (.iload_n 2, 1) := by decide +kernel
theorem dX2_missingGroups_81 : decode cX2_missingGroups 81 = .ok (.iload_n 3, 1) := by decide +kernel
theorem dX2_missingGroups_82 : decode cX2_missingGroups 82 = .ok (.iload 4, 2) := by decide +kernel
theorem dX2_missingGroups_84 : decode cX2_missingGroups 84 = .ok (.iload 5, 2) := by decide +kernel
theorem dX2_missingGroups_86 : decode cX2_missingGroups 86 = .ok (.invokestatic 130, 3) := by decide +kernel
theorem dX2_missingGroups_89 : decode cX2_missingGroups 89 = .ok (.iaload, 1) := by decide +kernel
theorem dX2_missingGroups_90 : decode cX2_missingGroups 90 = .ok (.bipush 99, 2) := by decide +kernel
theorem dX2_missingGroups_92 : decode cX2_missingGroups 92 = .ok (.if_icmp .ge 14, 3) := by decide +kernel
theorem dX2_missingGroups_95 : decode cX2_missingGroups 95 = .ok (.aload_n 0, 1) := by decide +kernel
theorem dX2_missingGroups_96 : decode cX2_missingGroups 96 = .ok (.iload_n 1, 1) := by decide +kernel
theorem dX2_missingGroups_97 : decode cX2_missingGroups 97 = .ok (.iload_n 2, 1) := by decide +kernel
theorem dX2_missingGroups_98 : decode cX2_missingGroups 98 = .ok (.iload_n 3, 1) := by decide +kernel
theorem dX2_missingGroups_99 : decode cX2_missingGroups 99 = .ok (.iload 4, 2) := by decide +kernel
theorem dX2_missingGroups_101 : decode cX2_missingGroups 101 = .ok (.iload 5, 2) := by decide +kernel
theorem dX2_missingGroups_103 : decode cX2_missingGroups 103 = .ok (.invokevirtual 146, 3) := by decide +kernel
theorem dX2_missingGroups_106 : decode cX2_missingGroups 106 = .ok (.iinc 5 1, 3) := by decide +kernel
theorem dX2_missingGroups_109 : decode cX2_missingGroups 109 = .ok (.goto (-39), 3) := by decide +kernel
theorem dX2_missingGroups_112 : decode cX2_missingGroups 112 = .ok (.iinc 4 1, 3) := by decide +kernel
theorem dX2_missingGroups_115 : decode cX2_missingGroups 115 = .ok (.goto (-59), 3) := by decide +kernel
theorem dX2_missingGroups_118 : decode cX2_missingGroups 118 = .ok (.iinc 3 1, 3) := by decide +kernel
theorem dX2_missingGroups_121 : decode cX2_missingGroups 121 = .ok (.goto (-77), 3) := by decide +kernel
theorem dX2_missingGroups_124 : decode cX2_missingGroups 124 = .ok (.iinc 2 1, 3) := by decide +kernel
theorem dX2_missingGroups_127 : decode cX2_missingGroups 127 = .ok (.goto (-90), 3) := by decide +kernel
theorem dX2_missingGroups_130 : decode cX2_missingGroups 130 = .ok (.aload_n 0, 1) := by decide +kernel
theorem dX2_missingGroups_131 : decode cX2_missingGroups 131 = .ok (.getfield 48, 3) := by decide +kernel
theorem dX2_missingGroups_134 : decode cX2_missingGroups 134 = .ok (.astore_n 2, 1) := by decide +kernel
theorem dX2_missingGroups_135 : decode cX2_missingGroups 135 = .ok (.aload_n 0, 1) := by decide +kernel
theorem dX2_missingGroups_136 : decode cX2_missingGroups 136 = .ok (.aload_n 0, 1) := by decide +kernel
theorem dX2_missingGroups_137 : decode cX2_missingGroups 137 = .ok (.getfield 51, 3) := by decide +kernel
theorem dX2_missingGroups_140 : decode cX2_missingGroups 140 = .ok (.putfield 48, 3) := by decide +kernel
theorem dX2_missingGroups_143 : decode cX2_missingGroups 143 = .ok (.aload_n 0, 1) := by decide +kernel
theorem dX2_missingGroups_144 : decode cX2_missingGroups 144 = .ok (.aload_n 2, 1) := by decide +kernel
theorem dX2_missingGroups_145 : decode cX2_missingGroups 145 = .ok (.putfield 51, 3) := by decide +kernel
theorem dX2_missingGroups_148 : decode cX2_missingGroups 148 = .ok (.iinc 1 1, 3) := by decide +kernel
theorem dX2_missingGroups_151 : decode cX2_missingGroups 151 = .ok (.goto (-129), 3) := by decide +kernel
theorem dX2_missingGroups_154 : decode cX2_missingGroups 154 = .ok (.aload_n 0, 1) := by decide +kernel
theorem dX2_missingGroups_155 : decode cX2_missingGroups 155 = .ok (.getfield 48, 3) := by decide +kernel
theorem dX2_missingGroups_158 : decode cX2_missingGroups 158 = .ok (.iconst 0, 1) := by decide +kernel
theorem dX2_missingGroups_159 : decode cX2_missingGroups 159 = .ok (.iconst 0, 1) := by decide +kernel
theorem dX2_missingGroups_160 : decode cX2_missingGroups 160 = .ok (.iconst 4, 1) := by decide +kernel
theorem dX2_missingGroups_161 : decode cX2_missingGroups 161 = .ok (.aload_n 0, 1) := by decide +kernel
theorem dX2_missingGroups_162 : decode cX2_missingGroups 162 = .ok (.getfield 69, 3) := by decide +kernel
theorem dX2_missingGroups_165 : decode cX2_missingGroups 165 = .ok (.isub, 1) := by decide +kernel
theorem dX2_missingGroups_166 : decode cX2_missingGroups 166 = .ok (.iconst 1, 1) := by decide +kernel
theorem dX2_missingGroups_167 : decode cX2_missingGroups 167 = .ok (.invokestatic 130, 3) := by decide +kernel
theorem dX2_missingGroups_170 : decode cX2_missingGroups 170 = .ok (.iaload, 1) := by decide +kernel
theorem dX2_missingGroups_171 : decode cX2_missingGroups 171 = .ok (.ireturn, 1) := by decide +kernel
theorem dX2_missingPairs_0 : decode cX2_missingPairs 0 = .ok (.iconst 0, 1) := by decide +kernel
theorem dX2_missingPairs_1 : decode cX2_missingPairs 1 = .ok (.istore_n 1, 1) := by decide +kernel
theorem dX2_missingPairs_2 : decode cX2_missingPairs 2 = .ok (.iconst 0, 1) := by decide +kernel
theorem dX2_missingPairs_3 : decode cX2_missingPairs 3 = .ok (.istore_n 2, 1) := by decide +kernel
theorem dX2_missingPairs_4 : decode cX2_missingPairs 4 = .ok (.aload_n 0, 1) := by decide +kernel
theorem dX2_missingPairs_5 : decode cX2_missingPairs 5 = .ok (.getfield 9, 3) := by decide +kernel
theorem dX2_missingPairs_8 : decode cX2_missingPairs 8 = .ok (.astore_n 3, 1) := by decide +kernel
theorem dX2_missingPairs_9 : decode cX2_missingPairs 9 = .ok (.aload_n 3, 1) := by decide +kernel
theorem dX2_missingPairs_10 : decode cX2_missingPairs 10 = .ok (.arraylength, 1) := by decide +kernel
theorem dX2_missingPairs_11 : decode cX2_missingPairs 11 = .ok (.istore 4, 2) := by decide +kernel
theorem dX2_missingPairs_13 : decode cX2_missingPairs 13 = .ok (.iconst 0, 1) := by decide +kernel
theorem dX2_missingPairs_14 : decode cX2_missingPairs 14 = .ok (.istore 5, 2) := by decide +kernel
theorem dX2_missingPairs_16 : decode cX2_missingPairs 16 = .ok (.iload 5, 2) := by decide +kernel
theorem dX2_missingPairs_18 : decode cX2_missingPairs 18 = .ok (.iload 4, 2) := by decide +kernel
theorem dX2_missingPairs_20 : decode cX2_missingPairs 20 = .ok (.if_icmp .ge 43, 3) := by decide +kernel
theorem dX2_missingPairs_23 : decode cX2_missingPairs 23 = .ok (.aload_n 3, 1) := by decide +kernel
theorem dX2_missingPairs_24 : decode cX2_missingPairs 24 = .ok (.iload 5, 2) := by decide +kernel
theorem dX2_missingPairs_26 : decode cX2_missingPairs 26 = .ok (.iaload, 1) := by decide +kernel
theorem dX2_missingPairs_27 : decode cX2_missingPairs 27 = .ok (.istore 6, 2) := by decide +kernel
theorem dX2_missingPairs_29 : decode cX2_missingPairs 29 = .ok (.iload_n 1, 1) := by decide +kernel
theorem dX2_missingPairs_30 : decode cX2_missingPairs 30 = .ok (.iload 6, 2) := by decide +kernel
theorem dX2_missingPairs_32 : decode cX2_missingPairs 32 = .ok (.iconst 1, 1) := by decide +kernel
theorem dX2_missingPairs_33 : decode cX2_missingPairs 33 = .ok (.if_icmp .le 7, 3) := by decide +kernel
theorem dX2_missingPairs_36 : decode cX2_missingPairs 36 = .ok (.iconst 1, 1) := by decide +kernel
theorem dX2_missingPairs_37 : decode cX2_missingPairs 37 = .ok (.goto 4, 3) := by decide +kernel
theorem dX2_missingPairs_40 : decode cX2_missingPairs 40 = .ok (.iconst 0, 1) := by decide +kernel
theorem dX2_missingPairs_41 : decode cX2_missingPairs 41 = .ok (.iadd, 1) := by decide +kernel
theorem dX2_missingPairs_42 : decode cX2_missingPairs 42 = .ok (.istore_n 1, 1) := by decide +kernel
theorem dX2_missingPairs_43 : decode cX2_missingPairs 43 = .ok (.iload_n 2, 1) := by decide +kernel
theorem dX2_missingPairs_44 : decode cX2_missingPairs 44 = .ok (.iload 6, 2) := by decide +kernel
theorem dX2_missingPairs_46 : decode cX2_missingPairs 46 = .ok (.iconst 1, 1) := by decide +kernel
theorem dX2_missingPairs_47 : decode cX2_missingPairs 47 = .ok (.if_icmp .ne 7, 3) := by decide +kernel
theorem dX2_missingPairs_50 : decode cX2_missingPairs 50 = .ok (.iconst 1, 1) := by decide +kernel
theorem dX2_missingPairs_51 : decode cX2_missingPairs 51 = .ok (.goto 4, 3) := by decide +kernel
theorem dX2_missingPairs_54 : decode cX2_missingPairs 54 = .ok (.iconst 0, 1) := by decide +kernel
theorem dX2_missingPairs_55 : decode cX2_missingPairs 55 = .ok (.iadd, 1) := by decide +kernel
theorem dX2_missingPairs_56 : decode cX2_missingPairs 56 = .ok (.istore_n 2, 1) := by decide +kernel
theorem dX2_missingPairs_57 : decode cX2_missingPairs 57 = .ok (.iinc 5 1, 3) := by decide +kernel
theorem dX2_missingPairs_60 : decode cX2_missingPairs 60 = .ok (.goto (-44), 3) := by decide +kernel
theorem dX2_missingPairs_63 : decode cX2_missingPairs 63 = .ok (.bipush 7, 2) := by decide +kernel
theorem dX2_missingPairs_65 : decode cX2_missingPairs 65 = .ok (.iload_n 1, 1) := by decide +kernel
theorem dX2_missingPairs_66 : decode cX2_missingPairs 66 = .ok (.invokestatic 139, 3) := by decide +kernel
theorem dX2_missingPairs_69 : decode cX2_missingPairs 69 = .ok (.istore_n 3, 1) := by decide +kernel
theorem dX2_missingPairs_70 : decode cX2_missingPairs 70 = .ok (.bipush 7, 2) := by decide +kernel
theorem dX2_missingPairs_72 : decode cX2_missingPairs 72 = .ok (.iload_n 3, 1) := by decide +kernel
theorem dX2_missingPairs_73 : decode cX2_missingPairs 73 = .ok (.isub, 1) := by decide +kernel
theorem dX2_missingPairs_74 : decode cX2_missingPairs 74 = .ok (.iload_n 2, 1) := by decide +kernel
theorem dX2_missingPairs_75 : decode cX2_missingPairs 75 = .ok (.invokestatic 139, 3) := by decide +kernel
theorem dX2_missingPairs_78 : decode cX2_missingPairs 78 = .ok (.istore 4, 2) := by decide +kernel
theorem dX2_missingPairs_80 : decode cX2_missingPairs 80 = .ok (.iconst 2, 1) := by decide +kernel
theorem dX2_missingPairs_81 : decode cX2_missingPairs 81 = .ok (.bipush 7, 2) := by decide +kernel
theorem dX2_missingPairs_83 : decode cX2_missingPairs 83 = .ok (.iload_n 3, 1) := by decide +kernel
theorem dX2_missingPairs_84 : decode cX2_missingPairs 84 = .ok (.isub, 1) := by decide +kernel
theorem dX2_missingPairs_85 : decode cX2_missingPairs 85 = .ok (.imul, 1) := by decide +kernel
theorem dX2_missingPairs_86 : decode cX2_missingPairs 86 = .ok (.iload 4, 2) := by decide +kernel
theorem dX2_missingPairs_88 : decode cX2_missingPairs 88 = .ok (.isub, 1) := by decide +kernel
theorem dX2_missingPairs_89 : decode cX2_missingPairs 89 = .ok (.ireturn, 1) := by decide +kernel
set_option maxRecDepth 20000 in
theorem ggX2_missingOrphans_X2_isOuter : GoodIn wsX2_missingOrphans wsX2_isOuter := goodIn_r _ [5, 6, 7, 4, 8] (by decide +kernel) (by decide +kernel)
set_option maxRecDepth 20000 in
theorem gX2_missingOrphans_X2_isOuter : GoodIn wsX2_missingOrphans (va_wsS RX2 102 yX2_isOuter wsX2_isOuter) := goodIn_app (goodIn_of _ (by decide +kernel)) ggX2_missingOrphans_X2_isOuter
theorem dX2_missingOrphans_0 : decode cX2_missingOrphans 0 = .ok (.bipush 13, 2) := by decide +kernel
theorem dX2_missingOrphans_2 : decode cX2_missingOrphans 2 = .ok (.istore_n 1, 1) := by decide +kernel
theorem dX2_missingOrphans_3 : decode cX2_missingOrphans 3 = .ok (.iconst 1, 1) := by decide +kernel
theorem dX2_missingOrphans_4 : decode cX2_missingOrphans 4 = .ok (.istore_n 2, 1) := by decide +kernel
theorem dX2_missingOrphans_5 : decode cX2_missingOrphans 5 = .ok (.iconst 0, 1) := by decide +kernel
theorem dX2_missingOrphans_6 : decode cX2_missingOrphans 6 = .ok (.istore_n 3, 1) := by decide +kernel
theorem dX2_missingOrphans_7 : decode cX2_missingOrphans 7 = .ok (.iload_n 3, 1) := by decide +kernel
theorem dX2_missingOrphans_8 : decode cX2_missingOrphans 8 = .ok (.bipush 34, 2) := by decide +kernel
theorem dX2_missingOrphans_10 : decode cX2_missingOrphans 10 = .ok (.if_icmp .ge 48, 3) := by decide +kernel
theorem dX2_missingOrphans_13 : decode cX2_missingOrphans 13 = .ok (.iload_n 3, 1) := by decide +kernel
theorem dX2_missingOrphans_14 : decode cX2_missingOrphans 14 = .ok (.invokestatic 102, 3) := by decide +kernel
theorem dX2_missingOrphans_17 : decode cX2_missingOrphans 17 = .ok (.ifCond .ne 6, 3) := by decide +kernel
theorem dX2_missingOrphans_20 : decode cX2_missingOrphans 20 = .ok (.goto 32, 3) := by decide +kernel
theorem dX2_missingOrphans_23 : decode cX2_missingOrphans 23 = .ok (.iload_n 1, 1) := by decide +kernel
theorem dX2_missingOrphans_24 : decode cX2_missingOrphans 24 = .ok (.aload_n 0, 1) := by decide +kernel
theorem dX2_missingOrphans_25 : decode cX2_missingOrphans 25 = .ok (.getfield 9, 3) := by decide +kernel
theorem dX2_missingOrphans_28 : decode cX2_missingOrphans 28 = .ok (.iload_n 3, 1) := by decide +kernel
theorem dX2_missingOrphans_29 : decode cX2_missingOrphans 29 = .ok (.iaload, 1) := by decide +kernel
theorem dX2_missingOrphans_30 : decode cX2_missingOrphans 30 = .ok (.ifCond .le 7, 3) := by decide +kernel
theorem dX2_missingOrphans_33 : decode cX2_missingOrphans 33 = .ok (.iconst 1, 1) := by decide +kernel
theorem dX2_missingOrphans_34 : decode cX2_missingOrphans 34 = .ok (.goto 4, 3) := by decide +kernel
theorem dX2_missingOrphans_37 : decode cX2_missingOrphans 37 = .ok (.iconst 0, 1) := by decide +kernel
theorem dX2_missingOrphans_38 : decode cX2_missingOrphans 38 = .ok (.isub, 1) := by decide +kernel
theorem dX2_missingOrphans_39 : decode cX2_missingOrphans 39 = .ok (.istore_n 1, 1) := by decide +kernel
theorem dX2_missingOrphans_40 : decode cX2_missingOrphans 40 = .ok (.aload_n 0, 1) := by decide +kernel
theorem dX2_missingOrphans_41 : decode cX2_missingOrphans 41 = .ok (.getfield 9, 3) := by decide +kernel
theorem dX2_missingOrphans_44 : decode cX2_missingOrphans 44 = .ok (.iload_n 3, 1) := by decide +kernel
theorem dX2_missingOrphans_45 : decode cX2_missingOrphans 45 = .ok (.iaload, 1) := by decide +kernel
theorem dX2_missingOrphans_46 : decode cX2_missingOrphans 46 = .ok (.iconst 1, 1) := by decide +kernel
theorem dX2_missingOrphans_47 : decode cX2_missingOrphans 47 = .ok (.if_icmp .le 5, 3) := by decide +kernel
theorem dX2_missingOrphans_50 : decode cX2_missingOrphans 50 = .ok (.iconst 0, 1) := by decide +kernel
theorem dX2_missingOrphans_51 : decode cX2_missingOrphans 51 = .ok (.istore_n 2, 1) := by decide +kernel
theorem dX2_missingOrphans_52 : decode cX2_missingOrphans 52 = .ok (.iinc 3 1, 3) := by decide +kernel
theorem dX2_missingOrphans_55 : decode cX2_missingOrphans 55 = .ok (.goto (-48), 3) := by decide +kernel
theorem dX2_missingOrphans_58 : decode cX2_missingOrphans 58 = .ok (.iload_n 1, 1) := by decide +kernel
theorem dX2_missingOrphans_59 : decode cX2_missingOrphans 59 = .ok (.iload_n 2, 1) := by decide +kernel
theorem dX2_missingOrphans_60 : decode cX2_missingOrphans 60 = .ok (.iadd, 1) := by decide +kernel
theorem dX2_missingOrphans_61 : decode cX2_missingOrphans 61 = .ok (.ireturn, 1) := by decide +kernel
set_option maxRecDepth 20000 in
theorem ggX2_missingTiles_X2_missingGroups : GoodIn wsX2_missingTiles wsX2_missingGroups := goodIn_r _ [10, 11, 12, 1, 13, 14, 9, 15, 16, 17, 18, 19, 20, 21, 22, 23, 24, 25, 26, 4, 27, 2, 3, 5, 28, 29, 30, 45, 46, 47, 48, 49, 50, 51, 52, 53, 54, 55, 56, 57, 58, 59, 60] (by decide +kernel) (by decide +kernel)
set_option maxRecDepth 20000 in
theorem gX2_missingTiles_X2_missingGroups : GoodIn wsX2_missingTiles (wsV RX2 150 RX2 yX2_missingGroups wsX2_missingGroups) := goodIn_app (goodIn_of _ (by decide +kernel)) ggX2_missingTiles_X2_missingGroups
set_option maxRecDepth 20000 in
theorem ggX2_missingTiles_X2_missingPairs : GoodIn wsX2_missingTiles wsX2_missingPairs := goodIn_r _ [34, 24, 2, 3, 4, 5, 45, 46, 47, 48, 49, 50, 51, 52, 53, 54, 55, 56, 57, 58, 59, 60] (by decide +kernel) (by decide +kernel)
set_option maxRecDepth 20000 in
theorem gX2_missingTiles_X2_missingPairs : GoodIn wsX2_missingTiles (wsV RX2 153 RX2 yX2_missingPairs wsX2_missingPairs) := goodIn_app (goodIn_of _ (by decide +kernel)) ggX2_missingTiles_X2_missingPairs
set_option maxRecDepth 20000 in
theorem ggX2_missingTiles_X2_missingOrphans : GoodIn wsX2_missingTiles wsX2_missingOrphans := goodIn_r _ [38, 24, 39, 40, 9, 41, 42, 43, 44, 45, 46, 47, 48, 49, 50, 51, 52, 53, 54, 55, 56, 57, 58, 59, 60] (by decide +kernel) (by decide +kernel)
set_option maxRecDepth 20000 in
theorem gX2_missingTiles_X2_missingOrphans : GoodIn wsX2_missingTiles (wsV RX2 156 RX2 yX2_missingOrphans wsX2_missingOrphans) := goodIn_app (goodIn_of _ (by decide +kernel)) ggX2_missingTiles_X2_missingOrphans
theorem dX2_missingTiles_0 : decode cX2_missingTiles 0 = .ok (.aload_n 0, 1) := by decide +kernel
theorem dX2_missingTiles_1 : decode cX2_missingTiles 1 = .ok (.invokevirtual 150, 3) := by decide +kernel
theorem dX2_missingTiles_4 : decode cX2_missingTiles 4 = .ok (.istore_n 1, 1) := by decide +kernel
theorem dX2_missingTiles_5 : decode cX2_missingTiles 5 = .ok (.aload_n 0, 1) := by decide +kernel
theorem dX2_missingTiles_6 : decode cX2_missingTiles 6 = .ok (.getfield 69, 3) := by decide +kernel
theorem dX2_missingTiles_9 : decode cX2_missingTiles 9 = .ok (.ifCond .le 7, 3) := by decide +kernel
theorem dX2_missingTiles_12 : decode cX2_missingTiles 12 = .ok (.iload_n 1, 1) := by decide +kernel
theorem dX2_missingTiles_13 : decode cX2_missingTiles 13 = .ok (.goto 18, 3) := by decide +kernel
theorem dX2_missingTiles_16 : decode cX2_missingTiles 16 = .ok (.iload_n 1, 1) := by decide +kernel
theorem dX2_missingTiles_17 : decode cX2_missingTiles 17 = .ok (.aload_n 0, 1) := by decide +kernel
theorem dX2_missingTiles_18 : decode cX2_missingTiles 18 = .ok (.invokevirtual 153, 3) := by decide +kernel
theorem dX2_missingTiles_21 : decode cX2_missingTiles 21 = .ok (.aload_n 0, 1) := by decide +kernel
theorem dX2_missingTiles_22 : decode cX2_missingTiles 22 = .ok (.invokevirtual 156, 3) := by decide +kernel
theorem dX2_missingTiles_25 : decode cX2_missingTiles 25 = .ok (.invokestatic 139, 3) := by decide +kernel
theorem dX2_missingTiles_28 : decode cX2_missingTiles 28 = .ok (.invokestatic 139, 3) := by decide +kernel
theorem dX2_missingTiles_31 : decode cX2_missingTiles 31 = .ok (.ireturn, 1) := by decide +kernel
set_option maxRecDepth 20000 in
theorem ggX2_missing_X2_missingTiles : GoodIn wsX2_missing wsX2_missingTiles := goodIn_r _ [6, 7, 8, 9, 10, 11, 12, 13, 14, 5, 15, 16, 17, 18, 19, 20, 21, 22, 23, 24, 25, 26, 27, 28, 29, 30, 31, 32, 33, 34, 35, 36, 37, 38, 39, 40, 41, 42, 43, 44, 45, 46, 47, 48, 49, 50, 51, 52, 53, 54, 55, 56, 57, 58, 59, 60, 61, 62, 63, 64, 65] (by decide +kernel) (by decide +kernel)
set_option maxRecDepth 20000 in
theorem gX2_missing_X2_missingTiles : GoodIn wsX2_missing (wsV RX2 159 RX2 yX2_missingTiles wsX2_missingTiles) := goodIn_app (goodIn_of _ (by decide +kernel)) ggX2_missing_X2_missingTiles
theorem dX2_missing_0 : decode cX2_missing 0 = .ok (.aload_n 0, 1) := by decide +kernel
theorem dX2_missing_1 : decode cX2_missing 1 = .ok (.iconst 0, 1) := by decide +kernel
theorem dX2_missing_2 : decode cX2_missing 2 = .ok (.putfield 54, 3) := by decide +kernel
theorem dX2_missing_5 : decode cX2_missing 5 = .ok (.aload_n 0, 1) := by decide +kernel
theorem dX2_missing_6 : decode cX2_missing 6 = .ok (.invokevirtual 159, 3) := by decide +kernel
theorem dX2_missing_9 : decode cX2_missing 9 = .ok (.ireturn, 1) := by decide +kernel
set_option maxRecDepth 20000 in
theorem ggX2_advice_X2_missingTiles : GoodIn wsX2_advice wsX2_missingTiles := goodIn_r _ [7, 8, 9, 10, 11, 12, 13, 14, 15, 6, 16, 17, 18, 19, 20, 21, 22, 23, 24, 25, 26, 27, 28, 29, 2, 30, 31, 32, 33, 34, 35, 36, 37, 38, 39, 40, 41, 42, 43, 44, 45, 46, 47, 48, 49, 54, 55, 56, 57, 58, 59, 60, 61, 62, 63, 64, 65, 66, 67, 68, 69] (by decide +kernel) (by decide +kernel)
set_option maxRecDepth 20000 in
theorem gX2_advice_X2_missingTiles : GoodIn wsX2_advice (wsV RX2 159 RX2 yX2_missingTiles wsX2_missingTiles) := goodIn_app (goodIn_of _ (by decide +kernel)) ggX2_advice_X2_missingTiles
set_option maxRecDepth 20000 in
theorem ggX2_advice_X2_fail : GoodIn wsX2_advice wsX2_fail := goodIn_r _ [53, 1, 54, 55, 56, 57, 58, 59, 60, 61, 62, 63, 64, 65, 66, 67, 68, 69] (by decide +kernel) (by decide +kernel)
set_option maxRecDepth 20000 in
theorem gX2_advice_X2_fail : GoodIn wsX2_advice (wsV RX2 75 RX2 yX2_fail wsX2_fail) := goodIn_app (goodIn_of _ (by decide +kernel)) ggX2_advice_X2_fail
theorem dX2_advice_0 : decode cX2_advice 0 = .ok (.aload_n 0, 1) := by decide +kernel
theorem dX2_advice_1 : decode cX2_advice 1 = .ok (.iconst 0, 1) := by decide +kernel
theorem dX2_advice_2 : decode cX2_advice 2 = .ok (.putfield 54, 3) := by decide +kernel
theorem dX2_advice_5 : decode cX2_advice 5 = .ok (.iconst (-1), 1) := by decide +kernel
theorem dX2_advice_6 : decode cX2_advice 6 = .ok (.istore_n 1, 1) := by decide +kernel
theorem dX2_advice_7 : decode cX2_advice 7 = .ok (.bipush 99, 2) := by decide +kernel
theorem dX2_advice_9 : decode cX2_advice 9 = .ok (.istore_n 2, 1) := by decide +kernel
theorem dX2_advice_10 : decode cX2_advice 10 = .ok (.iconst 0, 1) := by decide +kernel
theorem dX2_advice_11 : decode cX2_advice 11 = .ok (.istore_n 3, 1) := by decide +kernel
theorem dX2_advice_12 : decode cX2_advice 12 = .ok (.iload_n 3, 1) := by decide +kernel
theorem dX2_advice_13 : decode cX2_advice 13 = .ok (.bipush 34, 2) := by decide +kernel
theorem dX2_advice_15 : decode cX2_advice 15 = .ok (.if_icmp .ge 61, 3) := by decide +kernel
theorem dX2_advice_18 : decode cX2_advice 18 = .ok (.aload_n 0, 1) := by decide +kernel
theorem dX2_advice_19 : decode cX2_advice 19 = .ok (.getfield 9, 3) := by decide +kernel
theorem dX2_advice_22 : decode cX2_advice 22 = .ok (.iload_n 3, 1) := by decide +kernel
theorem dX2_advice_23 : decode cX2_advice 23 = .ok (.iaload, 1) := by decide +kernel
theorem dX2_advice_24 : decode cX2_advice 24 = .ok (.ifCond .ne 6, 3) := by decide +kernel
theorem dX2_advice_27 : decode cX2_advice 27 = .ok (.goto 43, 3) := by decide +kernel
theorem dX2_advice_30 : decode cX2_advice 30 = .ok (.aload_n 0, 1) := by decide +kernel
theorem dX2_advice_31 : decode cX2_advice 31 = .ok (.getfield 9, 3) := by decide +kernel
theorem dX2_advice_34 : decode cX2_advice 34 = .ok (.iload_n 3, 1) := by decide +kernel
theorem dX2_advice_35 : decode cX2_advice 35 = .ok (.dup2, 1) := by decide +kernel
theorem dX2_advice_36 : decode cX2_advice 36 = .ok (.iaload, 1) := by decide +kernel
theorem dX2_advice_37 : decode cX2_advice 37 = .ok (.iconst 1, 1) := by decide +kernel
theorem dX2_advice_38 : decode cX2_advice 38 = .ok (.isub, 1) := by decide +kernel
theorem dX2_advice_39 : decode cX2_advice 39 = .ok (.iastore, 1) := by decide +kernel
theorem dX2_advice_40 : decode cX2_advice 40 = .ok (.aload_n 0, 1) := by decide +kernel
theorem dX2_advice_41 : decode cX2_advice 41 = .ok (.invokevirtual 159, 3) := by decide +kernel
theorem dX2_advice_44 : decode cX2_advice 44 = .ok (.istore 4, 2) := by decide +kernel
theorem dX2_advice_46 : decode cX2_advice 46 = .ok (.aload_n 0, 1) := by decide +kernel
theorem dX2_advice_47 : decode cX2_advice 47 = .ok (.getfield 9, 3) := by decide +kernel
theorem dX2_advice_50 : decode cX2_advice 50 = .ok (.iload_n 3, 1) := by decide +kernel
theorem dX2_advice_51 : decode cX2_advice 51 = .ok (.dup2, 1) := by decide +kernel
theorem dX2_advice_52 : decode cX2_advice 52 = .ok (.iaload, 1) := by decide +kernel
theorem dX2_advice_53 : decode cX2_advice 53 = .ok (.iconst 1, 1) := by decide +kernel
theorem dX2_advice_54 : decode cX2_advice 54 = .ok (.iadd, 1) := by decide +kernel
theorem dX2_advice_55 : decode cX2_advice 55 = .ok (.iastore, 1) := by decide +kernel
theorem dX2_advice_56 : decode cX2_advice 56 = .ok (.iload 4, 2) := by decide +kernel
theorem dX2_advice_58 : decode cX2_advice 58 = .ok (.iload_n 2, 1) := by decide +kernel
theorem dX2_advice_59 : decode cX2_advice 59 = .ok (.if_icmp .lt 6, 3) := by decide +kernel
theorem dX2_advice_62 : decode cX2_advice 62 = .ok (.goto 8, 3) := by decide +kernel
theorem dX2_advice_65 : decode cX2_advice 65 = .ok (.iload_n 3, 1) := by decide +kernel
theorem dX2_advice_66 : decode cX2_advice 66 = .ok (.istore_n 1, 1) := by decide +kernel
theorem dX2_advice_67 : decode cX2_advice 67 = .ok (.iload 4, 2) := by decide +kernel
theorem dX2_advice_69 : decode cX2_advice 69 = .ok (.istore_n 2, 1) := by decide +kernel
theorem dX2_advice_70 : decode cX2_advice 70 = .ok (.iinc 3 1, 3) := by decide +kernel
theorem dX2_advice_73 : decode cX2_advice 73 = .ok (.goto (-61), 3) := by decide +kernel
theorem dX2_advice_76 : decode cX2_advice 76 = .ok (.iload_n 1, 1) := by decide +kernel
theorem dX2_advice_77 : decode cX2_advice 77 = .ok (.iconst (-1), 1) := by decide +kernel
theorem dX2_advice_78 : decode cX2_advice 78 = .ok (.if_icmp .ne 11, 3) := by decide +kernel
theorem dX2_advice_81 : decode cX2_advice 81 = .ok (.aload_n 0, 1) := by decide +kernel
theorem dX2_advice_82 : decode cX2_advice 82 = .ok (.iconst 1, 1) := by decide +kernel
theorem dX2_advice_83 : decode cX2_advice 83 = .ok (.invokevirtual 75, 3) := by decide +kernel
theorem dX2_advice_86 : decode cX2_advice 86 = .ok (.goto 4, 3) := by decide +kernel
theorem dX2_advice_89 : decode cX2_advice 89 = .ok (.iload_n 1, 1) := by decide +kernel
theorem dX2_advice_90 : decode cX2_advice 90 = .ok (.ireturn, 1) := by decide +kernel
set_option maxRecDepth 20000 in
theorem ggX2_setWinds_X2_isIn : GoodIn wsX2_setWinds wsX2_isIn := goodIn_r _ [7] (by decide +kernel) (by decide +kernel)
set_option maxRecDepth 20000 in
theorem gX2_setWinds_X2_isIn : GoodIn wsX2_setWinds (va_wsS RX2 57 yX2_isIn wsX2_isIn) := goodIn_app (goodIn_of _ (by decide +kernel)) ggX2_setWinds_X2_isIn
set_option maxRecDepth 20000 in
theorem ggX2_setWinds_X2_fail : GoodIn wsX2_setWinds wsX2_fail := goodIn_r _ [11, 1, 12, 13, 14, 15, 16, 17, 18, 19, 20, 21, 22, 23, 24, 25, 26, 27] (by decide +kernel) (by decide +kernel)
set_option maxRecDepth 20000 in
theorem gX2_setWinds_X2_fail : GoodIn wsX2_setWinds (wsV RX2 75 RX2 yX2_fail wsX2_fail) := goodIn_app (goodIn_of _ (by decide +kernel)) ggX2_setWinds_X2_fail
theorem dX2_setWinds_0 : decode cX2_setWinds 0 = .ok (.aload_n 0, 1) := by decide +kernel
theorem dX2_setWinds_1 : decode cX2_setWinds 1 = .ok (.iconst 0, 1) := by decide +kernel
theorem dX2_setWinds_2 : decode cX2_setWinds 2 = .ok (.putfield 54, 3) := by decide +kernel
theorem dX2_setWinds_5 : decode cX2_setWinds 5 = .ok (.iload_n 1, 1) := by decide +kernel
theorem dX2_setWinds_6 : decode cX2_setWinds 6 = .ok (.bipush 27, 2) := by decide +kernel
theorem dX2_setWinds_8 : decode cX2_setWinds 8 = .ok (.bipush 30, 2) := by decide +kernel
theorem dX2_setWinds_10 : decode cX2_setWinds 10 = .ok (.invokestatic 57, 3) := by decide +kernel
theorem dX2_setWinds_13 : decode cX2_setWinds 13 = .ok (.ifCond .eq 14, 3) := by decide +kernel
theorem dX2_setWinds_16 : decode cX2_setWinds 16 = .ok (.iload_n 2, 1) := by decide +kernel
theorem dX2_setWinds_17 : decode cX2_setWinds 17 = .ok (.bipush 27, 2) := by decide +kernel
theorem dX2_setWinds_19 : decode cX2_setWinds 19 = .ok (.bipush 30, 2) := by decide +kernel
theorem dX2_setWinds_21 : decode cX2_setWinds 21 = .ok (.invokestatic 57, 3) := by decide +kernel
theorem dX2_setWinds_24 : decode cX2_setWinds 24 = .ok (.ifCond .ne 9, 3) := by decide +kernel
theorem dX2_setWinds_27 : decode cX2_setWinds 27 = .ok (.aload_n 0, 1) := by decide +kernel
theorem dX2_setWinds_28 : decode cX2_setWinds 28 = .ok (.iconst 1, 1) := by decide +kernel
theorem dX2_setWinds_29 : decode cX2_setWinds 29 = .ok (.invokevirtual 75, 3) := by decide +kernel
theorem dX2_setWinds_32 : decode cX2_setWinds 32 = .ok (.ireturn, 1) := by decide +kernel
theorem dX2_setWinds_33 : decode cX2_setWinds 33 = .ok (.aload_n 0, 1) := by decide +kernel
theorem dX2_setWinds_34 : decode cX2_setWinds 34 = .ok (.getfield 29, 3) := by decide +kernel
theorem dX2_setWinds_37 : decode cX2_setWinds 37 = .ok (.istore_n 3, 1) := by decide +kernel
theorem dX2_setWinds_38 : decode cX2_setWinds 38 = .ok (.aload_n 0, 1) := by decide +kernel
theorem dX2_setWinds_39 : decode cX2_setWinds 39 = .ok (.iload_n 1, 1) := by decide +kernel
theorem dX2_setWinds_40 : decode cX2_setWinds 40 = .ok (.putfield 29, 3) := by decide +kernel
theorem dX2_setWinds_43 : decode cX2_setWinds 43 = .ok (.aload_n 0, 1) := by decide +kernel
theorem dX2_setWinds_44 : decode cX2_setWinds 44 = .ok (.iload_n 2, 1) := by decide +kernel
theorem dX2_setWinds_45 : decode cX2_setWinds 45 = .ok (.putfield 33, 3) := by decide +kernel
theorem dX2_setWinds_48 : decode cX2_setWinds 48 = .ok (.iload_n 3, 1) := by decide +kernel
theorem dX2_setWinds_49 : decode cX2_setWinds 49 = .ok (.ireturn, 1) := by decide +kernel
set_option maxRecDepth 20000 in
theorem ggX2_setPoints_X2_isIn : GoodIn wsX2_setPoints wsX2_isIn := goodIn_r _ [7] (by decide +kernel) (by decide +kernel)
set_option maxRecDepth 20000 in
theorem gX2_setPoints_X2_isIn : GoodIn wsX2_setPoints (va_wsS RX2 57 yX2_isIn wsX2_isIn) := goodIn_app (goodIn_of _ (by decide +kernel)) ggX2_setPoints_X2_isIn
set_option maxRecDepth 20000 in
theorem ggX2_setPoints_X2_fail : GoodIn wsX2_setPoints wsX2_fail := goodIn_r _ [11, 1, 12, 13, 14, 15, 16, 17, 18, 19, 20, 21, 22, 23, 24, 25, 26, 27] (by decide +kernel) (by decide +kernel)
set_option maxRecDepth 20000 in
theorem gX2_setPoints_X2_fail : GoodIn wsX2_setPoints (wsV RX2 75 RX2 yX2_fail wsX2_fail) := goodIn_app (goodIn_of _ (by decide +kernel)) ggX2_setPoints_X2_fail
theorem dX2_setPoints_0 : decode cX2_setPoints 0 = .ok (.aload_n 0, 1) := by decide +kernel
theorem dX2_setPoints_1 : decode cX2_setPoints 1 = .ok (.iconst 0, 1) := by decide +kernel
theorem dX2_setPoints_2 : decode cX2_setPoints 2 = .ok (.putfield 54, 3) := by decide +kernel
theorem dX2_setPoints_5 : decode cX2_setPoints 5 = .ok (.iload_n 1, 1) := by decide +kernel
theorem dX2_setPoints_6 : decode cX2_setPoints 6 = .ok (.iconst 1, 1) := by decide +kernel
theorem dX2_setPoints_7 : decode cX2_setPoints 7 = .ok (.bipush 100, 2) := by decide +kernel
theorem dX2_setPoints_9 : decode cX2_setPoints 9 = .ok (.invokestatic 57, 3) := by decide +kernel
theorem dX2_setPoints_12 : decode cX2_setPoints 12 = .ok (.ifCond .eq 13, 3) := by decide +kernel
theorem dX2_setPoints_15 : decode cX2_setPoints 15 = .ok (.iload_n 2, 1) := by decide +kernel
theorem dX2_setPoints_16 : decode cX2_setPoints 16 = .ok (.iconst 1, 1) := by decide +kernel
theorem dX2_setPoints_17 : decode cX2_setPoints 17 = .ok (.bipush 13, 2) := by decide +kernel
theorem dX2_setPoints_19 : decode cX2_setPoints 19 = .ok (.invokestatic 57, 3) := by decide +kernel
theorem dX2_setPoints_22 : decode cX2_setPoints 22 = .ok (.ifCond .ne 9, 3) := by decide +kernel
theorem dX2_setPoints_25 : decode cX2_setPoints 25 = .ok (.aload_n 0, 1) := by decide +kernel
theorem dX2_setPoints_26 : decode cX2_setPoints 26 = .ok (.iconst 1, 1) := by decide +kernel
theorem dX2_setPoints_27 : decode cX2_setPoints 27 = .ok (.invokevirtual 75, 3) := by decide +kernel
theorem dX2_setPoints_30 : decode cX2_setPoints 30 = .ok (.ireturn, 1) := by decide +kernel
theorem dX2_setPoints_31 : decode cX2_setPoints 31 = .ok (.aload_n 0, 1) := by decide +kernel
theorem dX2_setPoints_32 : decode cX2_setPoints 32 = .ok (.getfield 39, 3) := by decide +kernel
theorem dX2_setPoints_35 : decode cX2_setPoints 35 = .ok (.istore_n 3, 1) := by decide +kernel
theorem dX2_setPoints_36 : decode cX2_setPoints 36 = .ok (.aload_n 0, 1) := by decide +kernel
theorem dX2_setPoints_37 : decode cX2_setPoints 37 = .ok (.iload_n 1, 1) := by decide +kernel
theorem dX2_setPoints_38 : decode cX2_setPoints 38 = .ok (.putfield 36, 3) := by decide +kernel
theorem dX2_setPoints_41 : decode cX2_setPoints 41 = .ok (.aload_n 0, 1) := by decide +kernel
theorem dX2_setPoints_42 : decode cX2_setPoints 42 = .ok (.iload_n 2, 1) := by decide +kernel
theorem dX2_setPoints_43 : decode cX2_setPoints 43 = .ok (.putfield 39, 3) := by decide +kernel
theorem dX2_setPoints_46 : decode cX2_setPoints 46 = .ok (.iload_n 3, 1) := by decide +kernel
theorem dX2_setPoints_47 : decode cX2_setPoints 47 = .ok (.ireturn, 1) := by decide +kernel
set_option maxRecDepth 20000 in
theorem ggX2_common_X2_isOuter : GoodIn wsX2_common wsX2_isOuter := goodIn_r _ [8, 9, 10, 7, 11] (by decide +kernel) (by decide +kernel)
set_option maxRecDepth 20000 in
theorem gX2_common_X2_isOuter : GoodIn wsX2_common (va_wsS RX2 102 yX2_isOuter wsX2_isOuter) := goodIn_app (goodIn_of _ (by decide +kernel)) ggX2_common_X2_isOuter
set_option maxRecDepth 20000 in
theorem ggX2_common_J6_bitCount_0f7a4 : GoodIn wsX2_common wsJ6_bitCount_0f7a4 := goodIn_r _ [15, 16, 17, 18] (by decide +kernel) (by decide +kernel)
set_option maxRecDepth 20000 in
theorem gX2_common_J6_bitCount_0f7a4 : GoodIn wsX2_common (va_wsS RX2 162 yJ6_bitCount_0f7a4 wsJ6_bitCount_0f7a4) := goodIn_app (goodIn_of _ (by decide +kernel)) ggX2_common_J6_bitCount_0f7a4
theorem dX2_common_0 : decode cX2_common 0 = .ok (.iload_n 1, 1) := by decide +kernel
theorem dX2_common_1 : decode cX2_common 1 = .ok (.ifCond .eq 7, 3) := by decide +kernel
theorem dX2_common_4 : decode cX2_common 4 = .ok (.iconst 1, 1) := by decide +kernel
theorem dX2_common_5 : decode cX2_common 5 = .ok (.goto 4, 3) := by decide +kernel
theorem dX2_common_8 : decode cX2_common 8 = .ok (.iconst 0, 1) := by decide +kernel
theorem dX2_common_9 : decode cX2_common 9 = .ok (.istore_n 2, 1) := by decide +kernel
theorem dX2_common_10 : decode cX2_common 10 = .ok (.iconst 1, 1) := by decide +kernel
theorem dX2_common_11 : decode cX2_common 11 = .ok (.istore_n 3, 1) := by decide +kernel
theorem dX2_common_12 : decode cX2_common 12 = .ok (.iconst 0, 1) := by decide +kernel
theorem dX2_common_13 : decode cX2_common 13 = .ok (.istore 4, 2) := by decide +kernel
theorem dX2_common_15 : decode cX2_common 15 = .ok (.iload 4, 2) := by decide +kernel
theorem dX2_common_17 : decode cX2_common 17 = .ok (.aload_n 0, 1) := by decide +kernel
theorem dX2_common_18 : decode cX2_common 18 = .ok (.getfield 69, 3) := by decide +kernel
theorem dX2_common_21 : decode cX2_common 21 = .ok (.if_icmp .ge 29, 3) := by decide +kernel
theorem dX2_common_24 : decode cX2_common 24 = .ok (.iload_n 3, 1) := by decide +kernel
theorem dX2_common_25 : decode cX2_common 25 = .ok (.ifCond .eq 17, 3) := by decide +kernel
theorem dX2_common_28 : decode cX2_common 28 = .ok (.aload_n 0, 1) := by decide +kernel
theorem dX2_common_29 : decode cX2_common 29 = .ok (.getfield 25, 3) := by decide +kernel
theorem dX2_common_32 : decode cX2_common 32 = .ok (.iload 4, 2) := by decide +kernel
theorem dX2_common_34 : decode cX2_common 34 = .ok (.baload, 1) := by decide +kernel
theorem dX2_common_35 : decode cX2_common 35 = .ok (.ifCond .ne 7, 3) := by decide +kernel
theorem dX2_common_38 : decode cX2_common 38 = .ok (.iconst 1, 1) := by decide +kernel
theorem dX2_common_39 : decode cX2_common 39 = .ok (.goto 4, 3) := by decide +kernel
theorem dX2_common_42 : decode cX2_common 42 = .ok (.iconst 0, 1) := by decide +kernel
theorem dX2_common_43 : decode cX2_common 43 = .ok (.istore_n 3, 1) := by decide +kernel
theorem dX2_common_44 : decode cX2_common 44 = .ok (.iinc 4 1, 3) := by decide +kernel
theorem dX2_common_47 : decode cX2_common 47 = .ok (.goto (-32), 3) := by decide +kernel
theorem dX2_common_50 : decode cX2_common 50 = .ok (.iload_n 2, 1) := by decide +kernel
theorem dX2_common_51 : decode cX2_common 51 = .ok (.iload_n 3, 1) := by decide +kernel
theorem dX2_common_52 : decode cX2_common 52 = .ok (.ifCond .eq 7, 3) := by decide +kernel
theorem dX2_common_55 : decode cX2_common 55 = .ok (.iconst 1, 1) := by decide +kernel
theorem dX2_common_56 : decode cX2_common 56 = .ok (.goto 4, 3) := by decide +kernel
theorem dX2_common_59 : decode cX2_common 59 = .ok (.iconst 0, 1) := by decide +kernel
theorem dX2_common_60 : decode cX2_common 60 = .ok (.iadd, 1) := by decide +kernel
theorem dX2_common_61 : decode cX2_common 61 = .ok (.istore_n 2, 1) := by decide +kernel
theorem dX2_common_62 : decode cX2_common 62 = .ok (.iconst 0, 1) := by decide +kernel
theorem dX2_common_63 : decode cX2_common 63 = .ok (.istore 4, 2) := by decide +kernel
theorem dX2_common_65 : decode cX2_common 65 = .ok (.iconst 0, 1) := by decide +kernel
theorem dX2_common_66 : decode cX2_common 66 = .ok (.istore 5, 2) := by decide +kernel
theorem dX2_common_68 : decode cX2_common 68 = .ok (.iconst 0, 1) := by decide +kernel
theorem dX2_common_69 : decode cX2_common 69 = .ok (.istore 6, 2) := by decide +kernel
theorem dX2_common_71 : decode cX2_common 71 = .ok (.iconst 0, 1) := by decide +kernel
theorem dX2_common_72 : decode cX2_common 72 = .ok (.istore 7, 2) := by decide +kernel
theorem dX2_common_74 : decode cX2_common 74 = .ok (.iload 7, 2) := by decide +kernel
theorem dX2_common_76 : decode cX2_common 76 = .ok (.bipush 34, 2) := by decide +kernel
theorem dX2_common_78 : decode cX2_common 78 = .ok (.if_icmp .ge 75, 3) := by decide +kernel
theorem dX2_common_81 : decode cX2_common 81 = .ok (.aload_n 0, 1) := by decide +kernel
theorem dX2_common_82 : decode cX2_common 82 = .ok (.getfield 9, 3) := by decide +kernel
theorem dX2_common_85 : decode cX2_common 85 = .ok (.iload 7, 2) := by decide +kernel
theorem dX2_common_87 : decode cX2_common 87 = .ok (.iaload, 1) := by decide +kernel
theorem dX2_common_88 : decode cX2_common 88 = .ok (.aload_n 0, 1) := by decide +kernel
theorem dX2_common_89 : decode cX2_common 89 = .ok (.getfield 16, 3) := by decide +kernel
theorem dX2_common_92 : decode cX2_common 92 = .ok (.iload 7, 2) := by decide +kernel
theorem dX2_common_94 : decode cX2_common 94 = .ok (.iaload, 1) := by decide +kernel
theorem dX2_common_95 : decode cX2_common 95 = .ok (.iadd, 1) := by decide +kernel
theorem dX2_common_96 : decode cX2_common 96 = .ok (.ifCond .ne 6, 3) := by decide +kernel
theorem dX2_common_99 : decode cX2_common 99 = .ok (.goto 48, 3) := by decide +kernel
theorem dX2_common_102 : decode cX2_common 102 = .ok (.iload 6, 2) := by decide +kernel
theorem dX2_common_104 : decode cX2_common 104 = .ok (.ifCond .ne 11, 3) := by decide +kernel
theorem dX2_common_107 : decode cX2_common 107 = .ok (.iload 7, 2) := by decide +kernel
theorem dX2_common_109 : decode cX2_common 109 = .ok (.invokestatic 102, 3) := by decide +kernel
theorem dX2_common_112 : decode cX2_common 112 = .ok (.ifCond .eq 7, 3) := by decide +kernel
theorem dX2_common_115 : decode cX2_common 115 = .ok (.iconst 1, 1) := by decide +kernel
theorem dX2_common_116 : decode cX2_common 116 = .ok (.goto 4, 3) := by decide +kernel
theorem dX2_common_119 : decode cX2_common 119 = .ok (.iconst 0, 1) := by decide +kernel
theorem dX2_common_120 : decode cX2_common 120 = .ok (.istore 6, 2) := by decide +kernel
theorem dX2_common_122 : decode cX2_common 122 = .ok (.iload 7, 2) := by decide +kernel
theorem dX2_common_124 : decode cX2_common 124 = .ok (.bipush 27, 2) := by decide +kernel
theorem dX2_common_126 : decode cX2_common 126 = .ok (.if_icmp .lt 9, 3) := by decide +kernel
theorem dX2_common_129 : decode cX2_common 129 = .ok (.iconst 1, 1) := by decide +kernel
theorem dX2_common_130 : decode cX2_common 130 = .ok (.istore 5, 2) := by decide +kernel
theorem dX2_common_132 : decode cX2_common 132 = .ok (.goto 15, 3) := by decide +kernel
theorem dX2_common_135 : decode cX2_common 135 = .ok (.iload 4, 2) := by decide +kernel
theorem dX2_common_137 : decode cX2_common 137 = .ok (.iconst 1, 1) := by decide +kernel
theorem dX2_common_138 : decode cX2_common 138 = .ok (.iload 7, 2) := by decide +kernel
theorem dX2_common_140 : decode cX2_common 140 = .ok (.bipush 9, 2) := by decide +kernel
theorem dX2_common_142 : decode cX2_common 142 = .ok (.idiv, 1) := by decide +kernel
theorem dX2_common_143 : decode cX2_common 143 = .ok (.ishl, 1) := by decide +kernel
theorem dX2_common_144 : decode cX2_common 144 = .ok (.ior, 1) := by decide +kernel
theorem dX2_common_145 : decode cX2_common 145 = .ok (.istore 4, 2) := by decide +kernel
theorem dX2_common_147 : decode cX2_common 147 = .ok (.iinc 7 1, 3) := by decide +kernel
theorem dX2_common_150 : decode cX2_common 150 = .ok (.goto (-76), 3) := by decide +kernel
theorem dX2_common_153 : decode cX2_common 153 = .ok (.iload 6, 2) := by decide +kernel
theorem dX2_common_155 : decode cX2_common 155 = .ok (.ifCond .ne 6, 3) := by decide +kernel
theorem dX2_common_158 : decode cX2_common 158 = .ok (.iinc 2 1, 3) := by decide +kernel
theorem dX2_common_161 : decode cX2_common 161 = .ok (.iload 4, 2) := by decide +kernel
theorem dX2_common_163 : decode cX2_common 163 = .ok (.ifCond .ne 6, 3) := by decide +kernel
theorem dX2_common_166 : decode cX2_common 166 = .ok (.iinc 2 6, 3) := by decide +kernel
theorem dX2_common_169 : decode cX2_common 169 = .ok (.iload 4, 2) := by decide +kernel
theorem dX2_common_171 : decode cX2_common 171 = .ok (.invokestatic 162, 3) := by decide +kernel
theorem dX2_common_174 : decode cX2_common 174 = .ok (.iconst 1, 1) := by decide +kernel
theorem dX2_common_175 : decode cX2_common 175 = .ok (.if_icmp .ne 17, 3) := by decide +kernel
theorem dX2_common_178 : decode cX2_common 178 = .ok (.iload_n 2, 1) := by decide +kernel
theorem dX2_common_179 : decode cX2_common 179 = .ok (.iload 5, 2) := by decide +kernel
theorem dX2_common_181 : decode cX2_common 181 = .ok (.ifCond .eq 7, 3) := by decide +kernel
theorem dX2_common_184 : decode cX2_common 184 = .ok (.iconst 3, 1) := by decide +kernel
theorem dX2_common_185 : decode cX2_common 185 = .ok (.goto 5, 3) := by decide +kernel
theorem dX2_common_188 : decode cX2_common 188 = .ok (.bipush 6, 2) := by decide +kernel
theorem dX2_common_190 : decode cX2_common 190 = .ok (.iadd, 1) := by decide +kernel
theorem dX2_common_191 : decode cX2_common 191 = .ok (.istore_n 2, 1) := by decide +kernel
theorem dX2_common_192 : decode cX2_common 192 = .ok (.iload_n 2, 1) := by decide +kernel
theorem dX2_common_193 : decode cX2_common 193 = .ok (.ireturn, 1) := by decide +kernel
theorem dX2_honoured_0 : decode cX2_honoured 0 = .ok (.iload_n 1, 1) := by decide +kernel
theorem dX2_honoured_1 : decode cX2_honoured 1 = .ok (.bipush 31, 2) := by decide +kernel
theorem dX2_honoured_3 : decode cX2_honoured 3 = .ok (.if_icmp .lt 7, 3) := by decide +kernel
theorem dX2_honoured_6 : decode cX2_honoured 6 = .ok (.iconst 1, 1) := by decide +kernel
theorem dX2_honoured_7 : decode cX2_honoured 7 = .ok (.goto 4, 3) := by decide +kernel
theorem dX2_honoured_10 : decode cX2_honoured 10 = .ok (.iconst 0, 1) := by decide +kernel
theorem dX2_honoured_11 : decode cX2_honoured 11 = .ok (.iload_n 1, 1) := by decide +kernel
theorem dX2_honoured_12 : decode cX2_honoured 12 = .ok (.aload_n 0, 1) := by decide +kernel
theorem dX2_honoured_13 : decode cX2_honoured 13 = .ok (.getfield 29, 3) := by decide +kernel
theorem dX2_honoured_16 : decode cX2_honoured 16 = .ok (.if_icmp .ne 7, 3) := by decide +kernel
theorem dX2_honoured_19 : decode cX2_honoured 19 = .ok (.iconst 1, 1) := by decide +kernel
theorem dX2_honoured_20 : decode cX2_honoured 20 = .ok (.goto 4, 3) := by decide +kernel
theorem dX2_honoured_23 : decode cX2_honoured 23 = .ok (.iconst 0, 1) := by decide +kernel
theorem dX2_honoured_24 : decode cX2_honoured 24 = .ok (.iadd, 1) := by decide +kernel
theorem dX2_honoured_25 : decode cX2_honoured 25 = .ok (.iload_n 1, 1) := by decide +kernel
theorem dX2_honoured_26 : decode cX2_honoured 26 = .ok (.aload_n 0, 1) := by decide +kernel
theorem dX2_honoured_27 : decode cX2_honoured 27 = .ok (.getfield 33, 3) := by decide +kernel
theorem dX2_honoured_30 : decode cX2_honoured 30 = .ok (.if_icmp .ne 7, 3) := by decide +kernel
theorem dX2_honoured_33 : decode cX2_honoured 33 = .ok (.iconst 1, 1) := by decide +kernel
theorem dX2_honoured_34 : decode cX2_honoured 34 = .ok (.goto 4, 3) := by decide +kernel
theorem dX2_honoured_37 : decode cX2_honoured 37 = .ok (.iconst 0, 1) := by decide +kernel
theorem dX2_honoured_38 : decode cX2_honoured 38 = .ok (.iadd, 1) := by decide +kernel
theorem dX2_honoured_39 : decode cX2_honoured 39 = .ok (.ireturn, 1) := by decide +kernel
set_option maxRecDepth 20000 in
theorem ggX2_grouped_X2_honoured : GoodIn wsX2_grouped wsX2_honoured := goodIn_r _ [9, 10, 11, 12, 13, 14, 15, 16, 17, 18, 19, 20, 21, 22, 23, 24, 25, 26, 27] (by decide +kernel) (by decide +kernel)
set_option maxRecDepth 20000 in
theorem gX2_grouped_X2_honoured : GoodIn wsX2_grouped (wsV RX2 167 RX2 yX2_honoured wsX2_honoured) := goodIn_app (goodIn_of _ (by decide +kernel)) ggX2_grouped_X2_honoured
theorem dX2_grouped_0 : decode cX2_grouped 0 = .ok (.iconst 0, 1) := by decide +kernel
theorem dX2_grouped_1 : decode cX2_grouped 1 = .ok (.istore_n 2, 1) := by decide +kernel
theorem dX2_grouped_2 : decode cX2_grouped 2 = .ok (.iconst 0, 1) := by decide +kernel
theorem dX2_grouped_3 : decode cX2_grouped 3 = .ok (.istore_n 3, 1) := by decide +kernel
theorem dX2_grouped_4 : decode cX2_grouped 4 = .ok (.iconst 0, 1) := by decide +kernel
theorem dX2_grouped_5 : decode cX2_grouped 5 = .ok (.istore 4, 2) := by decide +kernel
theorem dX2_grouped_7 : decode cX2_grouped 7 = .ok (.iload 4, 2) := by decide +kernel
theorem dX2_grouped_9 : decode cX2_grouped 9 = .ok (.aload_n 0, 1) := by decide +kernel
theorem dX2_grouped_10 : decode cX2_grouped 10 = .ok (.getfield 69, 3) := by decide +kernel
theorem dX2_grouped_13 : decode cX2_grouped 13 = .ok (.if_icmp .ge 56, 3) := by decide +kernel
theorem dX2_grouped_16 : decode cX2_grouped 16 = .ok (.aload_n 0, 1) := by decide +kernel
theorem dX2_grouped_17 : decode cX2_grouped 17 = .ok (.getfield 19, 3) := by decide +kernel
theorem dX2_grouped_20 : decode cX2_grouped 20 = .ok (.iload 4, 2) := by decide +kernel
theorem dX2_grouped_22 : decode cX2_grouped 22 = .ok (.iaload, 1) := by decide +kernel
theorem dX2_grouped_23 : decode cX2_grouped 23 = .ok (.ifCond .ne 9, 3) := by decide +kernel
theorem dX2_grouped_26 : decode cX2_grouped 26 = .ok (.iinc 2 1, 3) := by decide +kernel
theorem dX2_grouped_29 : decode cX2_grouped 29 = .ok (.goto 34, 3) := by decide +kernel
theorem dX2_grouped_32 : decode cX2_grouped 32 = .ok (.iload_n 3, 1) := by decide +kernel
theorem dX2_grouped_33 : decode cX2_grouped 33 = .ok (.aload_n 0, 1) := by decide +kernel
theorem dX2_grouped_34 : decode cX2_grouped 34 = .ok (.aload_n 0, 1) := by decide +kernel
theorem dX2_grouped_35 : decode cX2_grouped 35 = .ok (.getfield 22, 3) := by decide +kernel
theorem dX2_grouped_38 : decode cX2_grouped 38 = .ok (.iload 4, 2) := by decide +kernel
theorem dX2_grouped_40 : decode cX2_grouped 40 = .ok (.iaload, 1) := by decide +kernel
theorem dX2_grouped_41 : decode cX2_grouped 41 = .ok (.invokevirtual 167, 3) := by decide +kernel
theorem dX2_grouped_44 : decode cX2_grouped 44 = .ok (.aload_n 0, 1) := by decide +kernel
theorem dX2_grouped_45 : decode cX2_grouped 45 = .ok (.getfield 19, 3) := by decide +kernel
theorem dX2_grouped_48 : decode cX2_grouped 48 = .ok (.iload 4, 2) := by decide +kernel
theorem dX2_grouped_50 : decode cX2_grouped 50 = .ok (.iaload, 1) := by decide +kernel
theorem dX2_grouped_51 : decode cX2_grouped 51 = .ok (.iconst 2, 1) := by decide +kernel
theorem dX2_grouped_52 : decode cX2_grouped 52 = .ok (.if_icmp .ne 7, 3) := by decide +kernel
theorem dX2_grouped_55 : decode cX2_grouped 55 = .ok (.iconst 1, 1) := by decide +kernel
theorem dX2_grouped_56 : decode cX2_grouped 56 = .ok (.goto 4, 3) := by decide +kernel
theorem dX2_grouped_59 : decode cX2_grouped 59 = .ok (.iconst 0, 1) := by decide +kernel
theorem dX2_grouped_60 : decode cX2_grouped 60 = .ok (.iadd, 1) := by decide +kernel
theorem dX2_grouped_61 : decode cX2_grouped 61 = .ok (.iadd, 1) := by decide +kernel
theorem dX2_grouped_62 : decode cX2_grouped 62 = .ok (.istore_n 3, 1) := by decide +kernel
theorem dX2_grouped_63 : decode cX2_grouped 63 = .ok (.iinc 4 1, 3) := by decide +kernel
theorem dX2_grouped_66 : decode cX2_grouped 66 = .ok (.goto (-59), 3) := by decide +kernel
theorem dX2_grouped_69 : decode cX2_grouped 69 = .ok (.iconst 0, 1) := by decide +kernel
theorem dX2_grouped_70 : decode cX2_grouped 70 = .ok (.istore 4, 2) := by decide +kernel
theorem dX2_grouped_72 : decode cX2_grouped 72 = .ok (.iconst 0, 1) := by decide +kernel
theorem dX2_grouped_73 : decode cX2_grouped 73 = .ok (.istore 5, 2) := by decide +kernel
theorem dX2_grouped_75 : decode cX2_grouped 75 = .ok (.iload 5, 2) := by decide +kernel
theorem dX2_grouped_77 : decode cX2_grouped 77 = .ok (.iconst 4, 1) := by decide +kernel
theorem dX2_grouped_78 : decode cX2_grouped 78 = .ok (.aload_n 0, 1) := by decide +kernel
theorem dX2_grouped_79 : decode cX2_grouped 79 = .ok (.getfield 69, 3) := by decide +kernel
theorem dX2_grouped_82 : decode cX2_grouped 82 = .ok (.isub, 1) := by decide +kernel
theorem dX2_grouped_83 : decode cX2_grouped 83 = .ok (.if_icmp .ge 133, 3) := by decide +kernel
theorem dX2_grouped_86 : decode cX2_grouped 86 = .ok (.aload_n 0, 1) := by decide +kernel
theorem dX2_grouped_87 : decode cX2_grouped 87 = .ok (.getfield 45, 3) := by decide +kernel
theorem dX2_grouped_90 : decode cX2_grouped 90 = .ok (.iload 5, 2) := by decide +kernel
theorem dX2_grouped_92 : decode cX2_grouped 92 = .ok (.iaload, 1) := by decide +kernel
theorem dX2_grouped_93 : decode cX2_grouped 93 = .ok (.bipush 100, 2) := by decide +kernel
theorem dX2_grouped_95 : decode cX2_grouped 95 = .ok (.if_icmp .lt 23, 3) := by decide +kernel
theorem dX2_grouped_98 : decode cX2_grouped 98 = .ok (.iload_n 3, 1) := by decide +kernel
theorem dX2_grouped_99 : decode cX2_grouped 99 = .ok (.aload_n 0, 1) := by decide +kernel
theorem dX2_grouped_100 : decode cX2_grouped 100 = .ok (.aload_n 0, 1) := by decide +kernel
theorem dX2_grouped_101 : decode cX2_grouped 101 = .ok (.getfield 45, 3) := by decide +kernel
theorem dX2_grouped_104 : decode cX2_grouped 104 = .ok (.iload 5, 2) := by decide +kernel
theorem dX2_grouped_106 : decode cX2_grouped 106 = .ok (.iaload, 1) := by decide +kernel
theorem dX2_grouped_107 : decode cX2_grouped 107 = .ok (.bipush 100, 2) := by decide +kernel
theorem dX2_grouped_109 : decode cX2_grouped 109 = .ok (.isub, 1) := by decide +kernel
theorem dX2_grouped_110 : decode cX2_grouped 110 = .ok (.invokevirtual 167, 3) := by decide +kernel
theorem dX2_grouped_113 : decode cX2_grouped 113 = .ok (.iadd, 1) := by decide +kernel
theorem dX2_grouped_114 : decode cX2_grouped 114 = .ok (.istore_n 3, 1) := by decide +kernel
theorem dX2_grouped_115 : decode cX2_grouped 115 = .ok (.goto 95, 3) := by decide +kernel
theorem dX2_grouped_118 : decode cX2_grouped 118 = .ok (.iinc 2 1, 3) := by decide +kernel
theorem dX2_grouped_121 : decode cX2_grouped 121 = .ok (.iconst 0, 1) := by decide +kernel
theorem dX2_grouped_122 : decode cX2_grouped 122 = .ok (.istore 6, 2) := by decide +kernel
theorem dX2_grouped_124 : decode cX2_grouped 124 = .ok (.iconst 0, 1) := by decide +kernel
theorem dX2_grouped_125 : decode cX2_grouped 125 = .ok (.istore 7, 2) := by decide +kernel
theorem dX2_grouped_127 : decode cX2_grouped 127 = .ok (.iload 7, 2) := by decide +kernel
theorem dX2_grouped_129 : decode cX2_grouped 129 = .ok (.iload 5, 2) := by decide +kernel
theorem dX2_grouped_131 : decode cX2_grouped 131 = .ok (.if_icmp .ge 38, 3) := by decide +kernel
theorem dX2_grouped_134 : decode cX2_grouped 134 = .ok (.iload 6, 2) := by decide +kernel
theorem dX2_grouped_136 : decode cX2_grouped 136 = .ok (.ifCond .ne 20, 3) := by decide +kernel
theorem dX2_grouped_139 : decode cX2_grouped 139 = .ok (.aload_n 0, 1) := by decide +kernel
theorem dX2_grouped_140 : decode cX2_grouped 140 = .ok (.getfield 45, 3) := by decide +kernel
theorem dX2_grouped_143 : decode cX2_grouped 143 = .ok (.iload 7, 2) := by decide +kernel
theorem dX2_grouped_145 : decode cX2_grouped 145 = .ok (.iaload, 1) := by decide +kernel
theorem dX2_grouped_146 : decode cX2_grouped 146 = .ok (.aload_n 0, 1) := by decide +kernel
theorem dX2_grouped_147 : decode cX2_grouped 147 = .ok (.getfield 45, 3) := by decide +kernel
theorem dX2_grouped_150 : decode cX2_grouped 150 = .ok (.iload 5, 2) := by decide +kernel
theorem dX2_grouped_152 : decode cX2_grouped 152 = .ok (.iaload, 1) := by decide +kernel
theorem dX2_grouped_153 : decode cX2_grouped 153 = .ok (.if_icmp .ne 7, 3) := by decide +kernel
theorem dX2_grouped_156 : decode cX2_grouped 156 = .ok (.iconst 1, 1) := by decide +kernel
theorem dX2_grouped_157 : decode cX2_grouped 157 = .ok (.goto 4, 3) := by decide +kernel
theorem dX2_grouped_160 : decode cX2_grouped 160 = .ok (.iconst 0, 1) := by decide +kernel
theorem dX2_grouped_161 : decode cX2_grouped 161 = .ok (.istore 6, 2) := by decide +kernel
theorem dX2_grouped_163 : decode cX2_grouped 163 = .ok (.iinc 7 1, 3) := by decide +kernel
theorem dX2_grouped_166 : decode cX2_grouped 166 = .ok (.goto (-39), 3) := by decide +kernel
theorem dX2_grouped_169 : decode cX2_grouped 169 = .ok (.iload 6, 2) := by decide +kernel
theorem dX2_grouped_171 : decode cX2_grouped 171 = .ok (.ifCond .eq 39, 3) := by decide +kernel
theorem dX2_grouped_174 : decode cX2_grouped 174 = .ok (.iload 4, 2) := by decide +kernel
theorem dX2_grouped_176 : decode cX2_grouped 176 = .ok (.aload_n 0, 1) := by decide +kernel
theorem dX2_grouped_177 : decode cX2_grouped 177 = .ok (.getfield 45, 3) := by decide +kernel
theorem dX2_grouped_180 : decode cX2_grouped 180 = .ok (.iload 5, 2) := by decide +kernel
theorem dX2_grouped_182 : decode cX2_grouped 182 = .ok (.iaload, 1) := by decide +kernel
theorem dX2_grouped_183 : decode cX2_grouped 183 = .ok (.ishr, 1) := by decide +kernel
theorem dX2_grouped_184 : decode cX2_grouped 184 = .ok (.iconst 1, 1) := by decide +kernel
theorem dX2_grouped_185 : decode cX2_grouped 185 = .ok (.iand, 1) := by decide +kernel
theorem dX2_grouped_186 : decode cX2_grouped 186 = .ok (.iconst 1, 1) := by decide +kernel
theorem dX2_grouped_187 : decode cX2_grouped 187 = .ok (.if_icmp .ne 6, 3) := by decide +kernel
theorem dX2_grouped_190 : decode cX2_grouped 190 = .ok (.goto 20, 3) := by decide +kernel
theorem dX2_grouped_193 : decode cX2_grouped 193 = .ok (.iload 4, 2) := by decide +kernel
theorem dX2_grouped_195 : decode cX2_grouped 195 = .ok (.iconst 1, 1) := by decide +kernel
theorem dX2_grouped_196 : decode cX2_grouped 196 = .ok (.aload_n 0, 1) := by decide +kernel
theorem dX2_grouped_197 : decode cX2_grouped 197 = .ok (.getfield 45, 3) := by decide +kernel
theorem dX2_grouped_200 : decode cX2_grouped 200 = .ok (.iload 5, 2) := by decide +kernel
theorem dX2_grouped_202 : decode cX2_grouped 202 = .ok (.iaload, 1) := by decide +kernel
theorem dX2_grouped_203 : decode cX2_grouped 203 = .ok (.ishl, 1) := by decide +kernel
theorem dX2_grouped_204 : decode cX2_grouped 204 = .ok (.ior, 1) := by decide +kernel
theorem dX2_grouped_205 : decode cX2_grouped 205 = .ok (.istore 4, 2) := by decide +kernel
theorem dX2_grouped_207 : decode cX2_grouped 207 = .ok (.iinc 3 1, 3) := by decide +kernel
theorem dX2_grouped_210 : decode cX2_grouped 210 = .ok (.iinc 5 1, 3) := by decide +kernel
theorem dX2_grouped_213 : decode cX2_grouped 213 = .ok (.goto (-138), 3) := by decide +kernel
theorem dX2_grouped_216 : decode cX2_grouped 216 = .ok (.iload_n 2, 1) := by decide +kernel
theorem dX2_grouped_217 : decode cX2_grouped 217 = .ok (.iconst 4, 1) := by decide +kernel
theorem dX2_grouped_218 : decode cX2_grouped 218 = .ok (.if_icmp .ne 14, 3) := by decide +kernel
theorem dX2_grouped_221 : decode cX2_grouped 221 = .ok (.aload_n 0, 1) := by decide +kernel
theorem dX2_grouped_222 : decode cX2_grouped 222 = .ok (.iload_n 1, 1) := by decide +kernel
theorem dX2_grouped_223 : decode cX2_grouped 223 = .ok (.invokevirtual 167, 3) := by decide +kernel
theorem dX2_grouped_226 : decode cX2_grouped 226 = .ok (.ifCond .ne 6, 3) := by decide +kernel
theorem dX2_grouped_229 : decode cX2_grouped 229 = .ok (.iinc 3 1, 3) := by decide +kernel
theorem dX2_grouped_232 : decode cX2_grouped 232 = .ok (.iload_n 2, 1) := by decide +kernel
theorem dX2_grouped_233 : decode cX2_grouped 233 = .ok (.ifCond .ne 6, 3) := by decide +kernel
theorem dX2_grouped_236 : decode cX2_grouped 236 = .ok (.iinc 3 2, 3) := by decide +kernel
theorem dX2_grouped_239 : decode cX2_grouped 239 = .ok (.iload_n 3, 1) := by decide +kernel
theorem dX2_grouped_240 : decode cX2_grouped 240 = .ok (.ireturn, 1) := by decide +kernel
set_option maxRecDepth 20000 in
theorem ggX2_fansOf_X2_areOrphans : GoodIn wsX2_fansOf wsX2_areOrphans := goodIn_r _ [10, 5, 11, 12, 13, 9, 14, 15, 16, 17, 18, 19, 20, 21, 64, 65, 66, 67, 68, 69, 70, 71, 72, 73, 74, 75, 76, 77, 78, 79] (by decide +kernel) (by decide +kernel)
set_option maxRecDepth 20000 in
theorem gX2_fansOf_X2_areOrphans : GoodIn wsX2_fansOf (wsV RX2 109 RX2 yX2_areOrphans wsX2_areOrphans) := goodIn_app (goodIn_of _ (by decide +kernel)) ggX2_fansOf_X2_areOrphans
set_option maxRecDepth 20000 in
theorem ggX2_fansOf_X2_areSevenPairs : GoodIn wsX2_fansOf wsX2_areSevenPairs := goodIn_r _ [25, 5, 11, 18, 19, 20, 9, 21, 64, 65, 66, 67, 68, 69, 70, 71, 72, 73, 74, 75, 76, 77, 78, 79] (by decide +kernel) (by decide +kernel)
set_option maxRecDepth 20000 in
theorem gX2_fansOf_X2_areSevenPairs : GoodIn wsX2_fansOf (wsV RX2 105 RX2 yX2_areSevenPairs wsX2_areSevenPairs) := goodIn_app (goodIn_of _ (by decide +kernel)) ggX2_fansOf_X2_areSevenPairs
set_option maxRecDepth 20000 in
theorem ggX2_fansOf_X2_cut : GoodIn wsX2_fansOf wsX2_cut := goodIn_r _ [29, 5, 30, 31, 32, 33, 34, 11, 35, 36, 37, 9, 38, 64, 65, 66, 67, 68, 69, 70, 71, 72, 73, 74, 75, 76, 77, 78, 79] (by decide +kernel) (by decide +kernel)
set_option maxRecDepth 20000 in
theorem gX2_fansOf_X2_cut : GoodIn wsX2_fansOf (wsV RX2 112 RX2 yX2_cut wsX2_cut) := goodIn_app (goodIn_of _ (by decide +kernel)) ggX2_fansOf_X2_cut
set_option maxRecDepth 20000 in
theorem ggX2_fansOf_X2_grouped : GoodIn wsX2_fansOf wsX2_grouped := goodIn_r _ [42, 11, 43, 44, 35, 45, 46, 47, 9, 48, 49, 50, 64, 65, 66, 67, 68, 69, 70, 71, 72, 73, 74, 75, 76, 77, 78, 79] (by decide +kernel) (by decide +kernel)
set_option maxRecDepth 20000 in
theorem gX2_fansOf_X2_grouped : GoodIn wsX2_fansOf (wsV RX2 170 RX2 yX2_grouped wsX2_grouped) := goodIn_app (goodIn_of _ (by decide +kernel)) ggX2_fansOf_X2_grouped
set_option maxRecDepth 20000 in
theorem ggX2_fansOf_X2_common : GoodIn wsX2_fansOf wsX2_common := goodIn_r _ [54, 11, 55, 5, 56, 12, 13, 9, 14, 15, 16, 17, 57, 58, 59, 60, 61, 62, 63, 64, 65, 66, 67, 68, 69, 70, 71, 72, 73, 74, 75, 76, 77, 78, 79] (by decide +kernel) (by decide +kernel)
set_option maxRecDepth 20000 in
theorem gX2_fansOf_X2_common : GoodIn wsX2_fansOf (wsV RX2 173 RX2 yX2_common wsX2_common) := goodIn_app (goodIn_of _ (by decide +kernel)) ggX2_fansOf_X2_common
theorem dX2_fansOf_0 : decode cX2_fansOf 0 = .ok (.iconst (-1), 1) := by decide +kernel
theorem dX2_fansOf_1 : decode cX2_fansOf 1 = .ok (.istore_n 2, 1) := by decide +kernel
theorem dX2_fansOf_2 : decode cX2_fansOf 2 = .ok (.aload_n 0, 1) := by decide +kernel
theorem dX2_fansOf_3 : decode cX2_fansOf 3 = .ok (.invokevirtual 109, 3) := by decide +kernel
theorem dX2_fansOf_6 : decode cX2_fansOf 6 = .ok (.ifCond .eq 6, 3) := by decide +kernel
theorem dX2_fansOf_9 : decode cX2_fansOf 9 = .ok (.bipush 13, 2) := by decide +kernel
theorem dX2_fansOf_11 : decode cX2_fansOf 11 = .ok (.istore_n 2, 1) := by decide +kernel
theorem dX2_fansOf_12 : decode cX2_fansOf 12 = .ok (.aload_n 0, 1) := by decide +kernel
theorem dX2_fansOf_13 : decode cX2_fansOf 13 = .ok (.invokevirtual 105, 3) := by decide +kernel
theorem dX2_fansOf_16 : decode cX2_fansOf 16 = .ok (.ifCond .eq 9, 3) := by decide +kernel
theorem dX2_fansOf_19 : decode cX2_fansOf 19 = .ok (.iload_n 2, 1) := by decide +kernel
theorem dX2_fansOf_20 : decode cX2_fansOf 20 = .ok (.iconst 2, 1) := by decide +kernel
theorem dX2_fansOf_21 : decode cX2_fansOf 21 = .ok (.invokestatic 134, 3) := by decide +kernel
theorem dX2_fansOf_24 : decode cX2_fansOf 24 = .ok (.istore_n 2, 1) := by decide +kernel
theorem dX2_fansOf_25 : decode cX2_fansOf 25 = .ok (.iconst 0, 1) := by decide +kernel
theorem dX2_fansOf_26 : decode cX2_fansOf 26 = .ok (.istore_n 3, 1) := by decide +kernel
theorem dX2_fansOf_27 : decode cX2_fansOf 27 = .ok (.iload_n 3, 1) := by decide +kernel
theorem dX2_fansOf_28 : decode cX2_fansOf 28 = .ok (.bipush 34, 2) := by decide +kernel
theorem dX2_fansOf_30 : decode cX2_fansOf 30 = .ok (.if_icmp .ge 55, 3) := by decide +kernel
theorem dX2_fansOf_33 : decode cX2_fansOf 33 = .ok (.iconst 0, 1) := by decide +kernel
theorem dX2_fansOf_34 : decode cX2_fansOf 34 = .ok (.istore 4, 2) := by decide +kernel
theorem dX2_fansOf_36 : decode cX2_fansOf 36 = .ok (.iload 4, 2) := by decide +kernel
theorem dX2_fansOf_38 : decode cX2_fansOf 38 = .ok (.bipush 16, 2) := by decide +kernel
theorem dX2_fansOf_40 : decode cX2_fansOf 40 = .ok (.if_icmp .ge 39, 3) := by decide +kernel
theorem dX2_fansOf_43 : decode cX2_fansOf 43 = .ok (.aload_n 0, 1) := by decide +kernel
theorem dX2_fansOf_44 : decode cX2_fansOf 44 = .ok (.getfield 9, 3) := by decide +kernel
theorem dX2_fansOf_47 : decode cX2_fansOf 47 = .ok (.iload_n 3, 1) := by decide +kernel
theorem dX2_fansOf_48 : decode cX2_fansOf 48 = .ok (.iaload, 1) := by decide +kernel
theorem dX2_fansOf_49 : decode cX2_fansOf 49 = .ok (.iconst 1, 1) := by decide +kernel
theorem dX2_fansOf_50 : decode cX2_fansOf 50 = .ok (.if_icmp .le 29, 3) := by decide +kernel
theorem dX2_fansOf_53 : decode cX2_fansOf 53 = .ok (.aload_n 0, 1) := by decide +kernel
theorem dX2_fansOf_54 : decode cX2_fansOf 54 = .ok (.iload_n 3, 1) := by decide +kernel
theorem dX2_fansOf_55 : decode cX2_fansOf 55 = .ok (.iload 4, 2) := by decide +kernel
theorem dX2_fansOf_57 : decode cX2_fansOf 57 = .ok (.invokevirtual 112, 3) := by decide +kernel
theorem dX2_fansOf_60 : decode cX2_fansOf 60 = .ok (.ifCond .eq 13, 3) := by decide +kernel
theorem dX2_fansOf_63 : decode cX2_fansOf 63 = .ok (.iload_n 2, 1) := by decide +kernel
theorem dX2_fansOf_64 : decode cX2_fansOf 64 = .ok (.aload_n 0, 1) := by decide +kernel
theorem dX2_fansOf_65 : decode cX2_fansOf 65 = .ok (.iload_n 3, 1) := by decide +kernel
theorem dX2_fansOf_66 : decode cX2_fansOf 66 = .ok (.invokevirtual 170, 3) := by decide +kernel
theorem dX2_fansOf_69 : decode cX2_fansOf 69 = .ok (.invokestatic 134, 3) := by decide +kernel
theorem dX2_fansOf_72 : decode cX2_fansOf 72 = .ok (.istore_n 2, 1) := by decide +kernel
theorem dX2_fansOf_73 : decode cX2_fansOf 73 = .ok (.iinc 4 1, 3) := by decide +kernel
theorem dX2_fansOf_76 : decode cX2_fansOf 76 = .ok (.goto (-40), 3) := by decide +kernel
theorem dX2_fansOf_79 : decode cX2_fansOf 79 = .ok (.iinc 3 1, 3) := by decide +kernel
theorem dX2_fansOf_82 : decode cX2_fansOf 82 = .ok (.goto (-55), 3) := by decide +kernel
theorem dX2_fansOf_85 : decode cX2_fansOf 85 = .ok (.iload_n 2, 1) := by decide +kernel
theorem dX2_fansOf_86 : decode cX2_fansOf 86 = .ok (.aload_n 0, 1) := by decide +kernel
theorem dX2_fansOf_87 : decode cX2_fansOf 87 = .ok (.iload_n 1, 1) := by decide +kernel
theorem dX2_fansOf_88 : decode cX2_fansOf 88 = .ok (.invokevirtual 173, 3) := by decide +kernel
theorem dX2_fansOf_91 : decode cX2_fansOf 91 = .ok (.iadd, 1) := by decide +kernel
theorem dX2_fansOf_92 : decode cX2_fansOf 92 = .ok (.ireturn, 1) := by decide +kernel
set_option maxRecDepth 20000 in
theorem ggX2_pointsOf_X2_fansOf : GoodIn wsX2_pointsOf wsX2_fansOf := goodIn_r _ [11, 12, 13, 5, 14, 15, 16, 17, 18, 10, 19, 20, 21, 22, 23, 24, 25, 26, 27, 28, 29, 30, 31, 32, 33, 34, 35, 36, 37, 38, 39, 40, 41, 42, 43, 44, 45, 46, 47, 48, 49, 50, 51, 52, 53, 54, 55, 56, 57, 58, 59, 60, 61, 62, 63, 64, 65, 66, 67, 68, 69, 70, 71, 72, 73, 74, 75, 76, 77, 78, 79, 80, 81, 82, 83, 84, 85, 86, 87, 88] (by decide +kernel) (by decide +kernel)
set_option maxRecDepth 20000 in
theorem gX2_pointsOf_X2_fansOf : GoodIn wsX2_pointsOf (wsV RX2 177 RX2 yX2_fansOf wsX2_fansOf) := goodIn_app (goodIn_of _ (by decide +kernel)) ggX2_pointsOf_X2_fansOf
theorem dX2_pointsOf_0 : decode cX2_pointsOf 0 = .ok (.aload_n 0, 1) := by decide +kernel
theorem dX2_pointsOf_1 : decode cX2_pointsOf 1 = .ok (.getfield 36, 3) := by decide +kernel
theorem dX2_pointsOf_4 : decode cX2_pointsOf 4 = .ok (.aload_n 0, 1) := by decide +kernel
theorem dX2_pointsOf_5 : decode cX2_pointsOf 5 = .ok (.getfield 39, 3) := by decide +kernel
theorem dX2_pointsOf_8 : decode cX2_pointsOf 8 = .ok (.aload_n 0, 1) := by decide +kernel
theorem dX2_pointsOf_9 : decode cX2_pointsOf 9 = .ok (.iload_n 1, 1) := by decide +kernel
theorem dX2_pointsOf_10 : decode cX2_pointsOf 10 = .ok (.invokevirtual 177, 3) := by decide +kernel
theorem dX2_pointsOf_13 : decode cX2_pointsOf 13 = .ok (.invokestatic 139, 3) := by decide +kernel
theorem dX2_pointsOf_16 : decode cX2_pointsOf 16 = .ok (.ishl, 1) := by decide +kernel
theorem dX2_pointsOf_17 : decode cX2_pointsOf 17 = .ok (.ireturn, 1) := by decide +kernel
set_option maxRecDepth 20000 in
theorem ggX2_fans_X2_completes : GoodIn wsX2_fans wsX2_completes := goodIn_r _ [6, 7, 8, 9, 10, 5, 11, 12, 13, 14, 15, 16, 17, 18, 19, 20, 21, 22, 23, 24, 25, 26, 27, 28, 29, 30, 31, 32, 33, 34, 35, 36, 37, 38, 39, 40, 41, 42, 43, 81, 82, 83, 84, 85, 86, 87, 88, 89, 90, 91, 92, 93, 94, 95, 96] (by decide +kernel) (by decide +kernel)
set_option maxRecDepth 20000 in
theorem gX2_fans_X2_completes : GoodIn wsX2_fans (wsV RX2 116 RX2 yX2_completes wsX2_completes) := goodIn_app (goodIn_of _ (by decide +kernel)) ggX2_fans_X2_completes
set_option maxRecDepth 20000 in
theorem ggX2_fans_X2_fansOf : GoodIn wsX2_fans wsX2_fansOf := goodIn_r _ [47, 48, 49, 50, 51, 7, 21, 22, 23, 5, 24, 12, 25, 26, 27, 28, 29, 30, 13, 14, 15, 16, 17, 18, 19, 20, 31, 32, 33, 34, 35, 36, 37, 38, 39, 40, 41, 42, 43, 52, 53, 54, 55, 56, 57, 58, 59, 60, 61, 62, 63, 64, 65, 66, 67, 68, 69, 70, 71, 72, 73, 74, 75, 76, 81, 82, 83, 84, 85, 86, 87, 88, 89, 90, 91, 92, 93, 94, 95, 96] (by decide +kernel) (by decide +kernel)
set_option maxRecDepth 20000 in
theorem gX2_fans_X2_fansOf : GoodIn wsX2_fans (wsV RX2 177 RX2 yX2_fansOf wsX2_fansOf) := goodIn_app (goodIn_of _ (by decide +kernel)) ggX2_fans_X2_fansOf
set_option maxRecDepth 20000 in
theorem ggX2_fans_X2_fail : GoodIn wsX2_fans wsX2_fail := goodIn_r _ [80, 1, 81, 82, 83, 84, 85, 86, 87, 88, 89, 90, 91, 92, 93, 94, 95, 96] (by decide +kernel) (by decide +kernel)
set_option maxRecDepth 20000 in
theorem gX2_fans_X2_fail : GoodIn wsX2_fans (wsV RX2 75 RX2 yX2_fail wsX2_fail) := goodIn_app (goodIn_of _ (by decide +kernel)) ggX2_fans_X2_fail
theorem dX2_fans_0 : decode cX2_fans 0 = .ok (.aload_n 0, 1) := by decide +kernel
theorem dX2_fans_1 : decode cX2_fans 1 = .ok (.iconst 0, 1) := by decide +kernel
theorem dX2_fans_2 : decode cX2_fans 2 = .ok (.putfield 54, 3) := by decide +kernel
theorem dX2_fans_5 : decode cX2_fans 5 = .ok (.aload_n 0, 1) := by decide +kernel
theorem dX2_fans_6 : decode cX2_fans 6 = .ok (.invokevirtual 116, 3) := by decide +kernel
theorem dX2_fans_9 : decode cX2_fans 9 = .ok (.ifCond .eq 11, 3) := by decide +kernel
theorem dX2_fans_12 : decode cX2_fans 12 = .ok (.aload_n 0, 1) := by decide +kernel
theorem dX2_fans_13 : decode cX2_fans 13 = .ok (.iload_n 1, 1) := by decide +kernel
theorem dX2_fans_14 : decode cX2_fans 14 = .ok (.invokevirtual 177, 3) := by decide +kernel
theorem dX2_fans_17 : decode cX2_fans 17 = .ok (.goto 8, 3) := by decide +kernel
theorem dX2_fans_20 : decode cX2_fans 20 = .ok (.aload_n 0, 1) := by decide +kernel
theorem dX2_fans_21 : decode cX2_fans 21 = .ok (.iconst 1, 1) := by decide +kernel
theorem dX2_fans_22 : decode cX2_fans 22 = .ok (.invokevirtual 75, 3) := by decide +kernel
theorem dX2_fans_25 : decode cX2_fans 25 = .ok (.ireturn, 1) := by decide +kernel
set_option maxRecDepth 20000 in
theorem ggX2_points_X2_completes : GoodIn wsX2_points wsX2_completes := goodIn_r _ [6, 7, 8, 9, 10, 5, 11, 12, 13, 14, 15, 16, 17, 18, 19, 20, 21, 22, 23, 24, 25, 26, 27, 28, 29, 30, 31, 32, 33, 34, 35, 36, 37, 38, 39, 40, 41, 42, 43, 90, 91, 92, 93, 94, 95, 96, 97, 98, 99, 100, 101, 102, 103, 104, 105] (by decide +kernel) (by decide +kernel)
set_option maxRecDepth 20000 in
theorem gX2_points_X2_completes : GoodIn wsX2_points (wsV RX2 116 RX2 yX2_completes wsX2_completes) := goodIn_app (goodIn_of _ (by decide +kernel)) ggX2_points_X2_completes
set_option maxRecDepth 20000 in
theorem ggX2_points_X2_pointsOf : GoodIn wsX2_points wsX2_pointsOf := goodIn_r _ [47, 48, 49, 50, 51, 52, 53, 54, 55, 56, 5, 57, 58, 59, 60, 7, 21, 22, 23, 24, 12, 25, 26, 27, 28, 29, 30, 13, 14, 15, 16, 17, 18, 19, 20, 31, 32, 33, 34, 35, 36, 37, 38, 39, 40, 41, 42, 43, 61, 62, 63, 64, 65, 66, 67, 68, 69, 70, 71, 72, 73, 74, 75, 76, 77, 78, 79, 80, 81, 82, 83, 84, 85, 90, 91, 92, 93, 94, 95, 96, 97, 98, 99, 100, 101, 102, 103, 104, 105] (by decide +kernel) (by decide +kernel)
set_option maxRecDepth 20000 in
theorem gX2_points_X2_pointsOf : GoodIn wsX2_points (wsV RX2 180 RX2 yX2_pointsOf wsX2_pointsOf) := goodIn_app (goodIn_of _ (by decide +kernel)) ggX2_points_X2_pointsOf
set_option maxRecDepth 20000 in
theorem ggX2_points_X2_fail : GoodIn wsX2_points wsX2_fail := goodIn_r _ [89, 1, 90, 91, 92, 93, 94, 95, 96, 97, 98, 99, 100, 101, 102, 103, 104, 105] (by decide +kernel) (by decide +kernel)
set_option maxRecDepth 20000 in
theorem gX2_points_X2_fail : GoodIn wsX2_points (wsV RX2 75 RX2 yX2_fail wsX2_fail) := goodIn_app (goodIn_of _ (by decide +kernel)) ggX2_points_X2_fail
theorem dX2_points_0 : decode cX2_points 0 = .ok (.aload_n 0, 1) := by decide +kernel
theorem dX2_points_1 : decode cX2_points 1 = .ok (.iconst 0, 1) := by decide +kernel
theorem dX2_points_2 : decode cX2_points 2 = .ok (.putfield 54, 3) := by decide +kernel
theorem dX2_points_5 : decode cX2_points 5 = .ok (.aload_n 0, 1) := by decide +kernel
theorem dX2_points_6 : decode cX2_points 6 = .ok (.invokevirtual 116, 3) := by decide +kernel
theorem dX2_points_9 : decode cX2_points 9 = .ok (.ifCond .eq 11, 3) := by decide +kernel
theorem dX2_points_12 : decode cX2_points 12 = .ok (.aload_n 0, 1) := by decide +kernel
theorem dX2_points_13 : decode cX2_points 13 = .ok (.iload_n 1, 1) := by decide +kernel
theorem dX2_points_14 : decode cX2_points 14 = .ok (.invokevirtual 180, 3) := by decide +kernel
theorem dX2_points_17 : decode cX2_points 17 = .ok (.goto 8, 3) := by decide +kernel
theorem dX2_points_20 : decode cX2_points 20 = .ok (.aload_n 0, 1) := by decide +kernel
theorem dX2_points_21 : decode cX2_points 21 = .ok (.iconst 1, 1) := by decide +kernel
theorem dX2_points_22 : decode cX2_points 22 = .ok (.invokevirtual 75, 3) := by decide +kernel
theorem dX2_points_25 : decode cX2_points 25 = .ok (.ireturn, 1) := by decide +kernel
set_option maxRecDepth 20000 in
theorem ggX2_meanPoints_X2_waitingSet : GoodIn wsX2_meanPoints wsX2_waitingSet := goodIn_r _ [7, 8, 9, 10, 6, 11, 2, 12, 13, 14, 15, 16, 17, 18, 19, 20, 21, 22, 23, 24, 25, 26, 27, 28, 29, 30, 31, 32, 33, 34, 35, 36, 37, 38, 39, 40, 41, 42, 43, 44, 45, 46, 47, 48, 49, 50, 51, 52, 103, 104, 105, 106, 107, 108, 109, 110, 111, 112, 113, 114, 115, 116, 117, 118] (by decide +kernel) (by decide +kernel)
set_option maxRecDepth 20000 in
theorem gX2_meanPoints_X2_waitingSet : GoodIn wsX2_meanPoints (wsV RX2 122 RX2 yX2_waitingSet wsX2_waitingSet) := goodIn_app (goodIn_of _ (by decide +kernel)) ggX2_meanPoints_X2_waitingSet
set_option maxRecDepth 20000 in
theorem ggX2_meanPoints_X2_outsOf : GoodIn wsX2_meanPoints wsX2_outsOf := goodIn_r _ [56, 57, 58, 59, 6, 60, 2, 12, 61, 103, 104, 105, 106, 107, 108, 109, 110, 111, 112, 113, 114, 115, 116, 117, 118] (by decide +kernel) (by decide +kernel)
set_option maxRecDepth 20000 in
theorem gX2_meanPoints_X2_outsOf : GoodIn wsX2_meanPoints (wsV RX2 126 RX2 yX2_outsOf wsX2_outsOf) := goodIn_app (goodIn_of _ (by decide +kernel)) ggX2_meanPoints_X2_outsOf
set_option maxRecDepth 20000 in
theorem ggX2_meanPoints_X2_left : GoodIn wsX2_meanPoints wsX2_left := goodIn_r _ [60, 2, 12, 61, 103, 104, 105, 106, 107, 108, 109, 110, 111, 112, 113, 114, 115, 116, 117, 118] (by decide +kernel) (by decide +kernel)
set_option maxRecDepth 20000 in
theorem gX2_meanPoints_X2_left : GoodIn wsX2_meanPoints (wsV RX2 82 RX2 yX2_left wsX2_left) := goodIn_app (goodIn_of _ (by decide +kernel)) ggX2_meanPoints_X2_left
set_option maxRecDepth 20000 in
theorem ggX2_meanPoints_X2_pointsOf : GoodIn wsX2_meanPoints wsX2_pointsOf := goodIn_r _ [65, 66, 67, 68, 69, 70, 71, 72, 73, 74, 6, 75, 76, 77, 78, 2, 30, 31, 32, 33, 17, 34, 35, 36, 37, 38, 39, 18, 19, 20, 21, 26, 27, 28, 29, 40, 41, 42, 43, 44, 45, 46, 47, 48, 49, 50, 51, 52, 79, 80, 81, 82, 83, 84, 85, 86, 87, 88, 89, 90, 91, 92, 93, 94, 95, 12, 96, 97, 98, 99, 100, 101, 102, 103, 104, 105, 106, 107, 108, 109, 110, 111, 112, 113, 114, 115, 116, 117, 118] (by decide +kernel) (by decide +kernel)
set_option maxRecDepth 20000 in
theorem gX2_meanPoints_X2_pointsOf : GoodIn wsX2_meanPoints (wsV RX2 180 RX2 yX2_pointsOf wsX2_pointsOf) := goodIn_app (goodIn_of _ (by decide +kernel)) ggX2_meanPoints_X2_pointsOf
theorem dX2_meanPoints_0 : decode cX2_meanPoints 0 = .ok (.aload_n 0, 1) := by decide +kernel
theorem dX2_meanPoints_1 : decode cX2_meanPoints 1 = .ok (.iconst 0, 1) := by decide +kernel
theorem dX2_meanPoints_2 : decode cX2_meanPoints 2 = .ok (.putfield 54, 3) := by decide +kernel
theorem dX2_meanPoints_5 : decode cX2_meanPoints 5 = .ok (.aload_n 0, 1) := by decide +kernel
theorem dX2_meanPoints_6 : decode cX2_meanPoints 6 = .ok (.invokevirtual 122, 3) := by decide +kernel
theorem dX2_meanPoints_9 : decode cX2_meanPoints 9 = .ok (.lstore_n 2, 1) := by decide +kernel
theorem dX2_meanPoints_10 : decode cX2_meanPoints 10 = .ok (.aload_n 0, 1) := by decide +kernel
theorem dX2_meanPoints_11 : decode cX2_meanPoints 11 = .ok (.lload_n 2, 1) := by decide +kernel
theorem dX2_meanPoints_12 : decode cX2_meanPoints 12 = .ok (.invokevirtual 126, 3) := by decide +kernel
theorem dX2_meanPoints_15 : decode cX2_meanPoints 15 = .ok (.istore 4, 2) := by decide +kernel
theorem dX2_meanPoints_17 : decode cX2_meanPoints 17 = .ok (.lconst 0, 1) := by decide +kernel
theorem dX2_meanPoints_18 : decode cX2_meanPoints 18 = .ok (.lstore 5, 2) := by decide +kernel
theorem dX2_meanPoints_20 : decode cX2_meanPoints 20 = .ok (.iconst 0, 1) := by decide +kernel
theorem dX2_meanPoints_21 : decode cX2_meanPoints 21 = .ok (.istore 7, 2) := by decide +kernel
theorem dX2_meanPoints_23 : decode cX2_meanPoints 23 = .ok (.iload 7, 2) := by decide +kernel
theorem dX2_meanPoints_25 : decode cX2_meanPoints 25 = .ok (.bipush 34, 2) := by decide +kernel
theorem dX2_meanPoints_27 : decode cX2_meanPoints 27 = .ok (.if_icmp .ge 68, 3) := by decide +kernel
theorem dX2_meanPoints_30 : decode cX2_meanPoints 30 = .ok (.lload_n 2, 1) := by decide +kernel
theorem dX2_meanPoints_31 : decode cX2_meanPoints 31 = .ok (.iload 7, 2) := by decide +kernel
theorem dX2_meanPoints_33 : decode cX2_meanPoints 33 = .ok (.lshr, 1) := by decide +kernel
theorem dX2_meanPoints_34 : decode cX2_meanPoints 34 = .ok (.lconst 1, 1) := by decide +kernel
theorem dX2_meanPoints_35 : decode cX2_meanPoints 35 = .ok (.land, 1) := by decide +kernel
theorem dX2_meanPoints_36 : decode cX2_meanPoints 36 = .ok (.lconst 0, 1) := by decide +kernel
theorem dX2_meanPoints_37 : decode cX2_meanPoints 37 = .ok (.lcmp, 1) := by decide +kernel
theorem dX2_meanPoints_38 : decode cX2_meanPoints 38 = .ok (.ifCond .ne 6, 3) := by decide +kernel
theorem dX2_meanPoints_41 : decode cX2_meanPoints 41 = .ok (.goto 48, 3) := by decide +kernel
theorem dX2_meanPoints_44 : decode cX2_meanPoints 44 = .ok (.aload_n 0, 1) := by decide +kernel
theorem dX2_meanPoints_45 : decode cX2_meanPoints 45 = .ok (.iload 7, 2) := by decide +kernel
theorem dX2_meanPoints_47 : decode cX2_meanPoints 47 = .ok (.invokevirtual 82, 3) := by decide +kernel
theorem dX2_meanPoints_50 : decode cX2_meanPoints 50 = .ok (.istore 8, 2) := by decide +kernel
theorem dX2_meanPoints_52 : decode cX2_meanPoints 52 = .ok (.aload_n 0, 1) := by decide +kernel
theorem dX2_meanPoints_53 : decode cX2_meanPoints 53 = .ok (.getfield 9, 3) := by decide +kernel
theorem dX2_meanPoints_56 : decode cX2_meanPoints 56 = .ok (.iload 7, 2) := by decide +kernel
theorem dX2_meanPoints_58 : decode cX2_meanPoints 58 = .ok (.dup2, 1) := by decide +kernel
theorem dX2_meanPoints_59 : decode cX2_meanPoints 59 = .ok (.iaload, 1) := by decide +kernel
theorem dX2_meanPoints_60 : decode cX2_meanPoints 60 = .ok (.iconst 1, 1) := by decide +kernel
theorem dX2_meanPoints_61 : decode cX2_meanPoints 61 = .ok (.iadd, 1) := by decide +kernel
theorem dX2_meanPoints_62 : decode cX2_meanPoints 62 = .ok (.iastore, 1) := by decide +kernel
theorem dX2_meanPoints_63 : decode cX2_meanPoints 63 = .ok (.lload 5, 2) := by decide +kernel
theorem dX2_meanPoints_65 : decode cX2_meanPoints 65 = .ok (.iload 8, 2) := by decide +kernel
theorem dX2_meanPoints_67 : decode cX2_meanPoints 67 = .ok (.i2l, 1) := by decide +kernel
theorem dX2_meanPoints_68 : decode cX2_meanPoints 68 = .ok (.aload_n 0, 1) := by decide +kernel
theorem dX2_meanPoints_69 : decode cX2_meanPoints 69 = .ok (.iload_n 1, 1) := by decide +kernel
theorem dX2_meanPoints_70 : decode cX2_meanPoints 70 = .ok (.invokevirtual 180, 3) := by decide +kernel
theorem dX2_meanPoints_73 : decode cX2_meanPoints 73 = .ok (.i2l, 1) := by decide +kernel
theorem dX2_meanPoints_74 : decode cX2_meanPoints 74 = .ok (.lmul, 1) := by decide +kernel
theorem dX2_meanPoints_75 : decode cX2_meanPoints 75 = .ok (.ladd, 1) := by decide +kernel
theorem dX2_meanPoints_76 : decode cX2_meanPoints 76 = .ok (.lstore 5, 2) := by decide +kernel
theorem dX2_meanPoints_78 : decode cX2_meanPoints 78 = .ok (.aload_n 0, 1) := by decide +kernel
theorem dX2_meanPoints_79 : decode cX2_meanPoints 79 = .ok (.getfield 9, 3) := by decide +kernel
theorem dX2_meanPoints_82 : decode cX2_meanPoints 82 = .ok (.iload 7, 2) := by decide +kernel
theorem dX2_meanPoints_84 : decode cX2_meanPoints 84 = .ok (.dup2, 1) := by decide +kernel
theorem dX2_meanPoints_85 : decode cX2_meanPoints 85 = .ok (.iaload, 1) := by decide +kernel
theorem dX2_meanPoints_86 : decode cX2_meanPoints 86 = .ok (.iconst 1, 1) := by decide +kernel
theorem dX2_meanPoints_87 : decode cX2_meanPoints 87 = .ok (.isub, 1) := by decide +kernel
theorem dX2_meanPoints_88 : decode cX2_meanPoints 88 = .ok (.iastore, 1) := by decide +kernel
theorem dX2_meanPoints_89 : decode cX2_meanPoints 89 = .ok (.iinc 7 1, 3) := by decide +kernel
theorem dX2_meanPoints_92 : decode cX2_meanPoints 92 = .ok (.goto (-69), 3) := by decide +kernel
theorem dX2_meanPoints_95 : decode cX2_meanPoints 95 = .ok (.iload 4, 2) := by decide +kernel
theorem dX2_meanPoints_97 : decode cX2_meanPoints 97 = .ok (.ifCond .ne 7, 3) := by decide +kernel
theorem dX2_meanPoints_100 : decode cX2_meanPoints 100 = .ok (.dconst 0, 1) := by decide +kernel
theorem dX2_meanPoints_101 : decode cX2_meanPoints 101 = .ok (.goto 10, 3) := by decide +kernel
theorem dX2_meanPoints_104 : decode cX2_meanPoints 104 = .ok (.lload 5, 2) := by decide +kernel
theorem dX2_meanPoints_106 : decode cX2_meanPoints 106 = .ok (.l2d, 1) := by decide +kernel
theorem dX2_meanPoints_107 : decode cX2_meanPoints 107 = .ok (.iload 4, 2) := by decide +kernel
theorem dX2_meanPoints_109 : decode cX2_meanPoints 109 = .ok (.i2d, 1) := by decide +kernel
theorem dX2_meanPoints_110 : decode cX2_meanPoints 110 = .ok (.ddiv, 1) := by decide +kernel
theorem dX2_meanPoints_111 : decode cX2_meanPoints 111 = .ok (.dreturn, 1) := by decide +kernel
set_option maxRecDepth 20000 in
theorem ggX2_digest_X2_told : GoodIn wsX2_digest wsX2_told := goodIn_r _ [15, 16, 17, 18, 102, 103, 104, 105, 106, 107, 108, 109, 110, 111, 112, 113, 114, 115, 116, 117] (by decide +kernel) (by decide +kernel)
set_option maxRecDepth 20000 in
theorem gX2_digest_X2_told : GoodIn wsX2_digest (wsV RX2 92 RX2 yX2_told wsX2_told) := goodIn_app (goodIn_of _ (by decide +kernel)) ggX2_digest_X2_told
set_option maxRecDepth 20000 in
theorem ggX2_digest_X2_waitingSet : GoodIn wsX2_digest wsX2_waitingSet := goodIn_r _ [22, 23, 24, 25, 14, 26, 4, 27, 28, 29, 30, 31, 6, 32, 33, 34, 35, 36, 37, 38, 39, 40, 41, 42, 43, 44, 45, 46, 47, 48, 49, 50, 51, 52, 53, 54, 55, 56, 57, 58, 59, 60, 61, 62, 63, 64, 65, 66, 102, 103, 104, 105, 106, 107, 108, 109, 110, 111, 112, 113, 114, 115, 116, 117] (by decide +kernel) (by decide +kernel)
set_option maxRecDepth 20000 in
theorem gX2_digest_X2_waitingSet : GoodIn wsX2_digest (wsV RX2 122 RX2 yX2_waitingSet wsX2_waitingSet) := goodIn_app (goodIn_of _ (by decide +kernel)) ggX2_digest_X2_waitingSet
set_option maxRecDepth 20000 in
theorem ggX2_digest_X2_missingTiles : GoodIn wsX2_digest wsX2_missingTiles := goodIn_r _ [70, 6, 71, 72, 73, 74, 75, 76, 77, 14, 78, 79, 80, 81, 82, 83, 84, 85, 86, 87, 88, 89, 90, 27, 4, 91, 92, 93, 64, 65, 66, 94, 95, 96, 97, 98, 99, 100, 101, 48, 49, 50, 51, 52, 53, 102, 103, 104, 105, 106, 107, 108, 109, 110, 111, 112, 113, 114, 115, 116, 117] (by decide +kernel) (by decide +kernel)
set_option maxRecDepth 20000 in
theorem gX2_digest_X2_missingTiles : GoodIn wsX2_digest (wsV RX2 159 RX2 yX2_missingTiles wsX2_missingTiles) := goodIn_app (goodIn_of _ (by decide +kernel)) ggX2_digest_X2_missingTiles
theorem dX2_digest_0 : decode cX2_digest 0 = .ok (.aload_n 0, 1) := by decide +kernel
theorem dX2_digest_1 : decode cX2_digest 1 = .ok (.iconst 0, 1) := by decide +kernel
theorem dX2_digest_2 : decode cX2_digest 2 = .ok (.putfield 54, 3) := by decide +kernel
theorem dX2_digest_5 : decode cX2_digest 5 = .ok (.ldc2_w 183, 3) := by decide +kernel
theorem dX2_digest_8 : decode cX2_digest 8 = .ok (.lstore_n 1, 1) := by decide +kernel
theorem dX2_digest_9 : decode cX2_digest 9 = .ok (.iconst 0, 1) := by decide +kernel
theorem dX2_digest_10 : decode cX2_digest 10 = .ok (.istore_n 3, 1) := by decide +kernel
theorem dX2_digest_11 : decode cX2_digest 11 = .ok (.iload_n 3, 1) := by decide +kernel
theorem dX2_digest_12 : decode cX2_digest 12 = .ok (.bipush 34, 2) := by decide +kernel
theorem dX2_digest_14 : decode cX2_digest 14 = .ok (.if_icmp .ge 35, 3) := by decide +kernel
theorem dX2_digest_17 : decode cX2_digest 17 = .ok (.lload_n 1, 1) := by decide +kernel
theorem dX2_digest_18 : decode cX2_digest 18 = .ok (.ldc2_w 185, 3) := by decide +kernel
theorem dX2_digest_21 : decode cX2_digest 21 = .ok (.lmul, 1) := by decide +kernel
theorem dX2_digest_22 : decode cX2_digest 22 = .ok (.aload_n 0, 1) := by decide +kernel
theorem dX2_digest_23 : decode cX2_digest 23 = .ok (.getfield 9, 3) := by decide +kernel
theorem dX2_digest_26 : decode cX2_digest 26 = .ok (.iload_n 3, 1) := by decide +kernel
theorem dX2_digest_27 : decode cX2_digest 27 = .ok (.iaload, 1) := by decide +kernel
theorem dX2_digest_28 : decode cX2_digest 28 = .ok (.i2l, 1) := by decide +kernel
theorem dX2_digest_29 : decode cX2_digest 29 = .ok (.ladd, 1) := by decide +kernel
theorem dX2_digest_30 : decode cX2_digest 30 = .ok (.ldc2_w 185, 3) := by decide +kernel
theorem dX2_digest_33 : decode cX2_digest 33 = .ok (.lmul, 1) := by decide +kernel
theorem dX2_digest_34 : decode cX2_digest 34 = .ok (.aload_n 0, 1) := by decide +kernel
theorem dX2_digest_35 : decode cX2_digest 35 = .ok (.getfield 13, 3) := by decide +kernel
theorem dX2_digest_38 : decode cX2_digest 38 = .ok (.iload_n 3, 1) := by decide +kernel
theorem dX2_digest_39 : decode cX2_digest 39 = .ok (.iaload, 1) := by decide +kernel
theorem dX2_digest_40 : decode cX2_digest 40 = .ok (.i2l, 1) := by decide +kernel
theorem dX2_digest_41 : decode cX2_digest 41 = .ok (.ladd, 1) := by decide +kernel
theorem dX2_digest_42 : decode cX2_digest 42 = .ok (.lstore_n 1, 1) := by decide +kernel
theorem dX2_digest_43 : decode cX2_digest 43 = .ok (.iinc 3 1, 3) := by decide +kernel
theorem dX2_digest_46 : decode cX2_digest 46 = .ok (.goto (-35), 3) := by decide +kernel
theorem dX2_digest_49 : decode cX2_digest 49 = .ok (.lload_n 1, 1) := by decide +kernel
theorem dX2_digest_50 : decode cX2_digest 50 = .ok (.ldc2_w 185, 3) := by decide +kernel
theorem dX2_digest_53 : decode cX2_digest 53 = .ok (.lmul, 1) := by decide +kernel
theorem dX2_digest_54 : decode cX2_digest 54 = .ok (.aload_n 0, 1) := by decide +kernel
theorem dX2_digest_55 : decode cX2_digest 55 = .ok (.getfield 69, 3) := by decide +kernel
theorem dX2_digest_58 : decode cX2_digest 58 = .ok (.i2l, 1) := by decide +kernel
theorem dX2_digest_59 : decode cX2_digest 59 = .ok (.ladd, 1) := by decide +kernel
theorem dX2_digest_60 : decode cX2_digest 60 = .ok (.lstore_n 1, 1) := by decide +kernel
theorem dX2_digest_61 : decode cX2_digest 61 = .ok (.iconst 0, 1) := by decide +kernel
theorem dX2_digest_62 : decode cX2_digest 62 = .ok (.istore_n 3, 1) := by decide +kernel
theorem dX2_digest_63 : decode cX2_digest 63 = .ok (.iload_n 3, 1) := by decide +kernel
theorem dX2_digest_64 : decode cX2_digest 64 = .ok (.aload_n 0, 1) := by decide +kernel
theorem dX2_digest_65 : decode cX2_digest 65 = .ok (.getfield 69, 3) := by decide +kernel
theorem dX2_digest_68 : decode cX2_digest 68 = .ok (.if_icmp .ge 39, 3) := by decide +kernel
theorem dX2_digest_71 : decode cX2_digest 71 = .ok (.iconst 0, 1) := by decide +kernel
theorem dX2_digest_72 : decode cX2_digest 72 = .ok (.istore 4, 2) := by decide +kernel
theorem dX2_digest_74 : decode cX2_digest 74 = .ok (.iload 4, 2) := by decide +kernel
theorem dX2_digest_76 : decode cX2_digest 76 = .ok (.iconst 3, 1) := by decide +kernel
theorem dX2_digest_77 : decode cX2_digest 77 = .ok (.if_icmp .ge 24, 3) := by decide +kernel
theorem dX2_digest_80 : decode cX2_digest 80 = .ok (.lload_n 1, 1) := by decide +kernel
theorem dX2_digest_81 : decode cX2_digest 81 = .ok (.ldc2_w 185, 3) := by decide +kernel
theorem dX2_digest_84 : decode cX2_digest 84 = .ok (.lmul, 1) := by decide +kernel
theorem dX2_digest_85 : decode cX2_digest 85 = .ok (.aload_n 0, 1) := by decide +kernel
theorem dX2_digest_86 : decode cX2_digest 86 = .ok (.iload_n 3, 1) := by decide +kernel
theorem dX2_digest_87 : decode cX2_digest 87 = .ok (.iload 4, 2) := by decide +kernel
theorem dX2_digest_89 : decode cX2_digest 89 = .ok (.invokevirtual 92, 3) := by decide +kernel
theorem dX2_digest_92 : decode cX2_digest 92 = .ok (.i2l, 1) := by decide +kernel
theorem dX2_digest_93 : decode cX2_digest 93 = .ok (.ladd, 1) := by decide +kernel
theorem dX2_digest_94 : decode cX2_digest 94 = .ok (.lstore_n 1, 1) := by decide +kernel
theorem dX2_digest_95 : decode cX2_digest 95 = .ok (.iinc 4 1, 3) := by decide +kernel
theorem dX2_digest_98 : decode cX2_digest 98 = .ok (.goto (-24), 3) := by decide +kernel
theorem dX2_digest_101 : decode cX2_digest 101 = .ok (.iinc 3 1, 3) := by decide +kernel
theorem dX2_digest_104 : decode cX2_digest 104 = .ok (.goto (-41), 3) := by decide +kernel
theorem dX2_digest_107 : decode cX2_digest 107 = .ok (.lload_n 1, 1) := by decide +kernel
theorem dX2_digest_108 : decode cX2_digest 108 = .ok (.ldc2_w 185, 3) := by decide +kernel
theorem dX2_digest_111 : decode cX2_digest 111 = .ok (.lmul, 1) := by decide +kernel
theorem dX2_digest_112 : decode cX2_digest 112 = .ok (.aload_n 0, 1) := by decide +kernel
theorem dX2_digest_113 : decode cX2_digest 113 = .ok (.getfield 29, 3) := by decide +kernel
theorem dX2_digest_116 : decode cX2_digest 116 = .ok (.i2l, 1) := by decide +kernel
theorem dX2_digest_117 : decode cX2_digest 117 = .ok (.ladd, 1) := by decide +kernel
theorem dX2_digest_118 : decode cX2_digest 118 = .ok (.ldc2_w 185, 3) := by decide +kernel
theorem dX2_digest_121 : decode cX2_digest 121 = .ok (.lmul, 1) := by decide +kernel
theorem dX2_digest_122 : decode cX2_digest 122 = .ok (.aload_n 0, 1) := by decide +kernel
theorem dX2_digest_123 : decode cX2_digest 123 = .ok (.getfield 33, 3) := by decide +kernel
theorem dX2_digest_126 : decode cX2_digest 126 = .ok (.i2l, 1) := by decide +kernel
theorem dX2_digest_127 : decode cX2_digest 127 = .ok (.ladd, 1) := by decide +kernel
theorem dX2_digest_128 : decode cX2_digest 128 = .ok (.ldc2_w 185, 3) := by decide +kernel
theorem dX2_digest_131 : decode cX2_digest 131 = .ok (.lmul, 1) := by decide +kernel
theorem dX2_digest_132 : decode cX2_digest 132 = .ok (.aload_n 0, 1) := by decide +kernel
theorem dX2_digest_133 : decode cX2_digest 133 = .ok (.getfield 36, 3) := by decide +kernel
theorem dX2_digest_136 : decode cX2_digest 136 = .ok (.i2l, 1) := by decide +kernel
theorem dX2_digest_137 : decode cX2_digest 137 = .ok (.ladd, 1) := by decide +kernel
theorem dX2_digest_138 : decode cX2_digest 138 = .ok (.ldc2_w 185, 3) := by decide +kernel
theorem dX2_digest_141 : decode cX2_digest 141 = .ok (.lmul, 1) := by decide +kernel
theorem dX2_digest_142 : decode cX2_digest 142 = .ok (.aload_n 0, 1) := by decide +kernel
theorem dX2_digest_143 : decode cX2_digest 143 = .ok (.getfield 39, 3) := by decide +kernel
theorem dX2_digest_146 : decode cX2_digest 146 = .ok (.i2l, 1) := by decide +kernel
theorem dX2_digest_147 : decode cX2_digest 147 = .ok (.ladd, 1) := by decide +kernel
theorem dX2_digest_148 : decode cX2_digest 148 = .ok (.lstore_n 1, 1) := by decide +kernel
theorem dX2_digest_149 : decode cX2_digest 149 = .ok (.lload_n 1, 1) := by decide +kernel
theorem dX2_digest_150 : decode cX2_digest 150 = .ok (.ldc2_w 185, 3) := by decide +kernel
theorem dX2_digest_153 : decode cX2_digest 153 = .ok (.lmul, 1) := by decide +kernel
theorem dX2_digest_154 : decode cX2_digest 154 = .ok (.aload_n 0, 1) := by decide +kernel
theorem dX2_digest_155 : decode cX2_digest 155 = .ok (.invokevirtual 122, 3) := by decide +kernel
theorem dX2_digest_158 : decode cX2_digest 158 = .ok (.ladd, 1) := by decide +kernel
theorem dX2_digest_159 : decode cX2_digest 159 = .ok (.ldc2_w 185, 3) := by decide +kernel
theorem dX2_digest_162 : decode cX2_digest 162 = .ok (.lmul, 1) := by decide +kernel
theorem dX2_digest_163 : decode cX2_digest 163 = .ok (.aload_n 0, 1) := by decide +kernel
theorem dX2_digest_164 : decode cX2_digest 164 = .ok (.invokevirtual 159, 3) := by decide +kernel
theorem dX2_digest_167 : decode cX2_digest 167 = .ok (.i2l, 1) := by decide +kernel
theorem dX2_digest_168 : decode cX2_digest 168 = .ok (.ladd, 1) := by decide +kernel
theorem dX2_digest_169 : decode cX2_digest 169 = .ok (.lreturn, 1) := by decide +kernel
