set_option maxRecDepth 20000 in
theorem ggL_draw_X1_draw : GoodIn wsL_draw wsX1_draw := goodIn_ca (goodIn_ca (goodIn_r _ [6, 7, 8, 9, 10, 5, 11, 12, 13, 14, 15, 16, 17, 18, 19, 20, 21, 22, 23, 24, 25, 26, 27, 28, 29, 30, 31, 32, 33, 34, 35, 36, 37, 42, 43, 44, 45, 46, 47, 48, 49, 50, 51, 52, 53, 54] (by decide +kernel) (by decide +kernel)) (goodIn_sub (fun _ h => List.mem_cons_of_mem _ (List.mem_append_left _ (List.mem_append_right _ h))) (by decide +kernel))) (goodIn_sub (fun _ h => List.mem_cons_of_mem _ (List.mem_append_right _ h)) (by decide +kernel))
set_option maxRecDepth 20000 in
theorem gL_draw_X1_draw : GoodIn wsL_draw (wsV RL 27 RX1 yX1_draw wsX1_draw) := goodIn_app (goodIn_of _ (by decide +kernel)) ggL_draw_X1_draw
set_option maxRecDepth 20000 in
theorem ggL_draw_L_tiles : GoodIn wsL_draw wsL_tiles := goodIn_r _ [41] (by decide +kernel) (by decide +kernel)
set_option maxRecDepth 20000 in
theorem gL_draw_L_tiles : GoodIn wsL_draw (va_wsS RL 15 yL_tiles wsL_tiles) := goodIn_app (goodIn_of _ (by decide +kernel)) ggL_draw_L_tiles
theorem dL_draw_0 : decode cL_draw 0 = .ok (.bipush (-3), 2) := by decide +kernel
theorem dL_draw_2 : decode cL_draw 2 = .ok (.istore_n 3, 1) := by decide +kernel
theorem dL_draw_3 : decode cL_draw 3 = .ok (.aload_n 0, 1) := by decide +kernel
theorem dL_draw_4 : decode cL_draw 4 = .ok (.iload_n 1, 1) := by decide +kernel
theorem dL_draw_5 : decode cL_draw 5 = .ok (.invokevirtual 27, 3) := by decide +kernel
theorem dL_draw_8 : decode cL_draw 8 = .ok (.istore_n 3, 1) := by decide +kernel
theorem dL_draw_9 : decode cL_draw 9 = .ok (.goto 8, 3) := by decide +kernel
theorem dL_draw_12 : decode cL_draw 12 = .ok (.astore 4, 2) := by decide +kernel
theorem dL_draw_14 : decode cL_draw 14 = .ok (.bipush (-3), 2) := by decide +kernel
theorem dL_draw_16 : decode cL_draw 16 = .ok (.istore_n 3, 1) := by decide +kernel
theorem dL_draw_17 : decode cL_draw 17 = .ok (.aload_n 2, 1) := by decide +kernel
theorem dL_draw_18 : decode cL_draw 18 = .ok (.invokestatic 15, 3) := by decide +kernel
theorem dL_draw_21 : decode cL_draw 21 = .ok (.iconst 3, 1) := by decide +kernel
theorem dL_draw_22 : decode cL_draw 22 = .ok (.aload_n 2, 1) := by decide +kernel
theorem dL_draw_23 : decode cL_draw 23 = .ok (.bipush 102, 2) := by decide +kernel
theorem dL_draw_25 : decode cL_draw 25 = .ok (.iaload, 1) := by decide +kernel
theorem dL_draw_26 : decode cL_draw 26 = .ok (.imul, 1) := by decide +kernel
theorem dL_draw_27 : decode cL_draw 27 = .ok (.iadd, 1) := by decide +kernel
theorem dL_draw_28 : decode cL_draw 28 = .ok (.bipush 14, 2) := by decide +kernel
theorem dL_draw_30 : decode cL_draw 30 = .ok (.if_icmp .ge 28, 3) := by decide +kernel
theorem dL_draw_33 : decode cL_draw 33 = .ok (.aload_n 2, 1) := by decide +kernel
theorem dL_draw_34 : decode cL_draw 34 = .ok (.iload_n 1, 1) := by decide +kernel
theorem dL_draw_35 : decode cL_draw 35 = .ok (.iaload, 1) := by decide +kernel
theorem dL_draw_36 : decode cL_draw 36 = .ok (.aload_n 2, 1) := by decide +kernel
theorem dL_draw_37 : decode cL_draw 37 = .ok (.bipush 34, 2) := by decide +kernel
theorem dL_draw_39 : decode cL_draw 39 = .ok (.iload_n 1, 1) := by decide +kernel
theorem dL_draw_40 : decode cL_draw 40 = .ok (.iadd, 1) := by decide +kernel
theorem dL_draw_41 : decode cL_draw 41 = .ok (.iaload, 1) := by decide +kernel
theorem dL_draw_42 : decode cL_draw 42 = .ok (.iadd, 1) := by decide +kernel
theorem dL_draw_43 : decode cL_draw 43 = .ok (.aload_n 2, 1) := by decide +kernel
theorem dL_draw_44 : decode cL_draw 44 = .ok (.bipush 68, 2) := by decide +kernel
theorem dL_draw_46 : decode cL_draw 46 = .ok (.iload_n 1, 1) := by decide +kernel
theorem dL_draw_47 : decode cL_draw 47 = .ok (.iadd, 1) := by decide +kernel
theorem dL_draw_48 : decode cL_draw 48 = .ok (.iaload, 1) := by decide +kernel
theorem dL_draw_49 : decode cL_draw 49 = .ok (.iadd, 1) := by decide +kernel
theorem dL_draw_50 : decode cL_draw 50 = .ok (.iconst 4, 1) := by decide +kernel
theorem dL_draw_51 : decode cL_draw 51 = .ok (.if_icmp .ge 7, 3) := by decide +kernel
theorem dL_draw_54 : decode cL_draw 54 = .ok (.iconst 1, 1) := by decide +kernel
theorem dL_draw_55 : decode cL_draw 55 = .ok (.goto 4, 3) := by decide +kernel
theorem dL_draw_58 : decode cL_draw 58 = .ok (.iconst 0, 1) := by decide +kernel
theorem dL_draw_59 : decode cL_draw 59 = .ok (.istore 4, 2) := by decide +kernel
theorem dL_draw_61 : decode cL_draw 61 = .ok (.iload 4, 2) := by decide +kernel
theorem dL_draw_63 : decode cL_draw 63 = .ok (.ifCond .eq 10, 3) := by decide +kernel
theorem dL_draw_66 : decode cL_draw 66 = .ok (.aload_n 2, 1) := by decide +kernel
theorem dL_draw_67 : decode cL_draw 67 = .ok (.iload_n 1, 1) := by decide +kernel
theorem dL_draw_68 : decode cL_draw 68 = .ok (.dup2, 1) := by decide +kernel
theorem dL_draw_69 : decode cL_draw 69 = .ok (.iaload, 1) := by decide +kernel
theorem dL_draw_70 : decode cL_draw 70 = .ok (.iconst 1, 1) := by decide +kernel
theorem dL_draw_71 : decode cL_draw 71 = .ok (.iadd, 1) := by decide +kernel
theorem dL_draw_72 : decode cL_draw 72 = .ok (.iastore, 1) := by decide +kernel
theorem dL_draw_73 : decode cL_draw 73 = .ok (.iload_n 3, 1) := by decide +kernel
theorem dL_draw_74 : decode cL_draw 74 = .ok (.iload 4, 2) := by decide +kernel
theorem dL_draw_76 : decode cL_draw 76 = .ok (.ifCond .eq 17, 3) := by decide +kernel
theorem dL_draw_79 : decode cL_draw 79 = .ok (.aload_n 2, 1) := by decide +kernel
theorem dL_draw_80 : decode cL_draw 80 = .ok (.invokestatic 15, 3) := by decide +kernel
theorem dL_draw_83 : decode cL_draw 83 = .ok (.iconst 3, 1) := by decide +kernel
theorem dL_draw_84 : decode cL_draw 84 = .ok (.aload_n 2, 1) := by decide +kernel
theorem dL_draw_85 : decode cL_draw 85 = .ok (.bipush 102, 2) := by decide +kernel
theorem dL_draw_87 : decode cL_draw 87 = .ok (.iaload, 1) := by decide +kernel
theorem dL_draw_88 : decode cL_draw 88 = .ok (.imul, 1) := by decide +kernel
theorem dL_draw_89 : decode cL_draw 89 = .ok (.iadd, 1) := by decide +kernel
theorem dL_draw_90 : decode cL_draw 90 = .ok (.goto 5, 3) := by decide +kernel
theorem dL_draw_93 : decode cL_draw 93 = .ok (.bipush (-3), 2) := by decide +kernel
theorem dL_draw_95 : decode cL_draw 95 = .ok (.if_icmp .ne 16, 3) := by decide +kernel
theorem dL_draw_98 : decode cL_draw 98 = .ok (.iload 4, 2) := by decide +kernel
theorem dL_draw_100 : decode cL_draw 100 = .ok (.ifCond .eq 7, 3) := by decide +kernel
theorem dL_draw_103 : decode cL_draw 103 = .ok (.iconst 1, 1) := by decide +kernel
theorem dL_draw_104 : decode cL_draw 104 = .ok (.goto 8, 3) := by decide +kernel
theorem dL_draw_107 : decode cL_draw 107 = .ok (.iconst 0, 1) := by decide +kernel
theorem dL_draw_108 : decode cL_draw 108 = .ok (.goto 4, 3) := by decide +kernel
theorem dL_draw_111 : decode cL_draw 111 = .ok (.iconst (-1), 1) := by decide +kernel
theorem dL_draw_112 : decode cL_draw 112 = .ok (.ireturn, 1) := by decide +kernel
set_option maxRecDepth 20000 in
theorem ggL_law_X1_init : GoodIn wsL_law wsX1_init := goodIn_r _ [10, 11, 12, 13, 3, 14, 15, 16, 17, 18, 19, 20, 21, 22, 23, 24, 25, 26, 27, 28, 29, 30, 31, 32, 33, 246, 247, 248, 249, 250, 251, 252, 253, 254, 255, 256, 257, 258, 259, 260, 261, 262, 263] (by decide +kernel) (by decide +kernel)
set_option maxRecDepth 20000 in
theorem gL_law_X1_init : GoodIn wsL_law (wsX1_init) := ggL_law_X1_init
set_option maxRecDepth 20000 in
theorem ggL_law_L_cell : GoodIn wsL_law wsL_cell := goodIn_r _ [37, 38] (by decide +kernel) (by decide +kernel)
set_option maxRecDepth 20000 in
theorem gL_law_L_cell : GoodIn wsL_law (va_wsS RL 35 yL_cell wsL_cell) := goodIn_app (goodIn_of _ (by decide +kernel)) ggL_law_L_cell
set_option maxRecDepth 20000 in
theorem ggL_law_L_below : GoodIn wsL_law wsL_below := goodIn_r _ [41, 42] (by decide +kernel) (by decide +kernel)
set_option maxRecDepth 20000 in
theorem gL_law_L_below : GoodIn wsL_law (va_wsS RL 39 yL_below wsL_below) := goodIn_app (goodIn_of _ (by decide +kernel)) ggL_law_L_below
set_option maxRecDepth 20000 in
theorem ggL_law_L_draw : GoodIn wsL_law wsL_draw := goodIn_ca (goodIn_ca (goodIn_r _ [45, 46, 47, 48, 49, 2, 50, 51, 52, 53, 54, 55, 56, 57, 58, 59, 60, 61, 62, 63, 64, 65, 66, 67, 68, 69, 70, 71, 72, 73, 74, 14, 15, 16, 75, 76, 77, 78, 79, 80, 36, 81, 246, 247, 248, 249, 250, 251, 252, 253, 254, 255, 256, 257, 258] (by decide +kernel) (by decide +kernel)) (goodIn_sub (fun _ h => List.mem_append_left _ (List.mem_append_right _ h)) (by decide +kernel))) (goodIn_sub (fun _ h => List.mem_append_right _ h) (by decide +kernel))
set_option maxRecDepth 20000 in
theorem gL_law_L_draw : GoodIn wsL_law (va_wsS RL 43 yL_draw wsL_draw) := goodIn_app (goodIn_of _ (by decide +kernel)) ggL_law_L_draw
set_option maxRecDepth 20000 in
theorem ggL_law_X1_size : GoodIn wsL_law wsX1_size := goodIn_r _ [85, 61, 62, 63, 2, 64, 65, 66, 246, 247, 248, 249, 250, 251, 252, 253, 254, 255, 256, 257, 258] (by decide +kernel) (by decide +kernel)
set_option maxRecDepth 20000 in
theorem gL_law_X1_size : GoodIn wsL_law (wsV RL 54 RX1 yX1_size wsX1_size) := goodIn_app (goodIn_of _ (by decide +kernel)) ggL_law_X1_size
set_option maxRecDepth 20000 in
theorem ggL_law_X1_missing : GoodIn wsL_law wsX1_missing := goodIn_r _ [89, 66, 24, 14, 15, 90, 5, 6, 7, 91, 92, 93, 23, 94, 95, 96, 97, 98, 99, 32, 100, 101, 102, 103, 104, 105, 106, 107, 108, 109, 2, 110, 111, 112, 113, 114, 33, 115, 116, 117, 118, 119, 120, 121, 122, 123, 124, 125, 126, 127, 128, 129, 130, 131, 132, 133, 134, 135, 136, 246, 247, 248, 249, 250, 251, 252, 253, 254, 255, 256, 257, 258, 259, 260, 261, 262, 263] (by decide +kernel) (by decide +kernel)
set_option maxRecDepth 20000 in
theorem gL_law_X1_missing : GoodIn wsL_law (wsV RL 58 RX1 yX1_missing wsX1_missing) := goodIn_app (goodIn_of _ (by decide +kernel)) ggL_law_X1_missing
set_option maxRecDepth 20000 in
theorem ggL_law_X1_count : GoodIn wsL_law wsX1_count := goodIn_ca (goodIn_r _ [140, 16, 14, 53, 54, 2, 55, 56, 57, 58, 59, 60, 246, 247, 248, 249, 250, 251, 252, 253, 254, 255, 256, 257, 258] (by decide +kernel) (by decide +kernel)) (goodIn_sub (fun _ h => List.mem_append_right _ h) (by decide +kernel))
set_option maxRecDepth 20000 in
theorem gL_law_X1_count : GoodIn wsL_law (wsV RL 61 RX1 yX1_count wsX1_count) := goodIn_app (goodIn_of _ (by decide +kernel)) ggL_law_X1_count
set_option maxRecDepth 20000 in
theorem ggL_law_X1_draw : GoodIn wsL_law wsX1_draw := goodIn_ca (goodIn_ca (goodIn_r _ [50, 51, 52, 53, 54, 2, 55, 56, 57, 58, 59, 60, 61, 62, 63, 64, 65, 66, 67, 68, 69, 70, 71, 72, 73, 74, 14, 15, 16, 75, 76, 77, 78, 246, 247, 248, 249, 250, 251, 252, 253, 254, 255, 256, 257, 258] (by decide +kernel) (by decide +kernel)) (goodIn_sub (fun _ h => List.mem_append_left _ (List.mem_append_right _ h)) (by decide +kernel))) (goodIn_sub (fun _ h => List.mem_append_right _ h) (by decide +kernel))
set_option maxRecDepth 20000 in
theorem gL_law_X1_draw : GoodIn wsL_law (wsV RL 27 RX1 yX1_draw wsX1_draw) := goodIn_app (goodIn_of _ (by decide +kernel)) ggL_law_X1_draw
set_option maxRecDepth 20000 in
theorem ggL_law_X1_advice : GoodIn wsL_law wsX1_advice := goodIn_ca (goodIn_r _ [144, 51, 52, 65, 14, 145, 87, 88, 2, 89, 66, 24, 15, 90, 5, 6, 7, 91, 92, 93, 23, 94, 95, 96, 97, 98, 99, 32, 100, 101, 102, 103, 104, 105, 106, 107, 108, 109, 110, 111, 112, 113, 114, 33, 115, 116, 117, 118, 119, 120, 121, 122, 123, 124, 125, 126, 127, 128, 129, 130, 131, 132, 133, 134, 135, 136, 75, 76, 77, 78, 246, 247, 248, 249, 250, 251, 252, 253, 254, 255, 256, 257, 258, 259, 260, 261, 262, 263] (by decide +kernel) (by decide +kernel)) (goodIn_sub (fun _ h => List.mem_append_left _ (List.mem_append_right _ h)) (by decide +kernel))
set_option maxRecDepth 20000 in
theorem gL_law_X1_advice : GoodIn wsL_law (wsV RL 65 RX1 yX1_advice wsX1_advice) := goodIn_app (goodIn_of _ (by decide +kernel)) ggL_law_X1_advice
set_option maxRecDepth 20000 in
theorem ggL_law_X1_drop : GoodIn wsL_law wsX1_drop := goodIn_ca (goodIn_ca (goodIn_r _ [149, 16, 53, 54, 2, 55, 56, 57, 58, 59, 60, 150, 151, 152, 153, 51, 52, 14, 75, 76, 77, 78, 65, 61, 62, 63, 64, 66, 246, 247, 248, 249, 250, 251, 252, 253, 254, 255, 256, 257, 258] (by decide +kernel) (by decide +kernel)) (goodIn_sub (fun _ h => List.mem_append_right _ h) (by decide +kernel))) (goodIn_sub (fun _ h => List.mem_append_left _ (List.mem_append_right _ h)) (by decide +kernel))
set_option maxRecDepth 20000 in
theorem gL_law_X1_drop : GoodIn wsL_law (wsV RL 50 RX1 yX1_drop wsX1_drop) := goodIn_app (goodIn_of _ (by decide +kernel)) ggL_law_X1_drop
set_option maxRecDepth 20000 in
theorem ggL_law_X1_waits : GoodIn wsL_law wsX1_waits := goodIn_r _ [157, 14, 15, 61, 62, 63, 2, 64, 65, 66, 75, 76, 77, 78, 158, 159, 160, 161, 162, 97, 6, 98, 163, 164, 165, 166, 167, 168, 169, 170, 171, 172, 173, 174, 175, 176, 177, 178, 17, 18, 179, 180, 181, 182, 183, 184, 185, 186, 25, 26, 187, 188, 189, 190, 191, 192, 193, 194, 109, 110, 195, 196, 197, 198, 199, 123, 124, 125, 126, 90, 5, 7, 127, 128, 129, 130, 131, 132, 133, 134, 135, 136, 246, 247, 248, 249, 250, 251, 252, 253, 254, 255, 256, 257, 258] (by decide +kernel) (by decide +kernel)
set_option maxRecDepth 20000 in
theorem gL_law_X1_waits : GoodIn wsL_law (wsV RL 68 RX1 yX1_waits wsX1_waits) := goodIn_app (goodIn_of _ (by decide +kernel)) ggL_law_X1_waits
set_option maxRecDepth 20000 in
theorem ggL_law_X1_outs : GoodIn wsL_law wsX1_outs := goodIn_r _ [203, 204, 155, 156, 2, 157, 14, 15, 61, 62, 63, 64, 65, 66, 75, 76, 77, 78, 158, 159, 160, 161, 162, 97, 6, 98, 163, 164, 165, 166, 167, 168, 169, 170, 171, 172, 173, 174, 175, 176, 177, 178, 17, 18, 179, 180, 181, 182, 183, 184, 185, 186, 25, 26, 187, 188, 189, 190, 191, 192, 193, 194, 109, 110, 195, 196, 197, 198, 199, 123, 124, 125, 126, 90, 5, 7, 127, 128, 129, 130, 131, 132, 133, 134, 135, 136, 205, 206, 207, 71, 72, 73, 74, 16, 246, 247, 248, 249, 250, 251, 252, 253, 254, 255, 256, 257, 258] (by decide +kernel) (by decide +kernel)
set_option maxRecDepth 20000 in
theorem gL_law_X1_outs : GoodIn wsL_law (wsV RL 72 RX1 yX1_outs wsX1_outs) := goodIn_app (goodIn_of _ (by decide +kernel)) ggL_law_X1_outs
set_option maxRecDepth 20000 in
theorem ggL_law_X1_isComplete : GoodIn wsL_law wsX1_isComplete := goodIn_r _ [211, 158, 159, 160, 2, 161, 66, 162, 97, 6, 98, 61, 62, 63, 64, 65, 163, 164, 165, 166, 14, 167, 168, 169, 170, 171, 172, 173, 174, 175, 176, 177, 178, 17, 18, 179, 180, 181, 182, 183, 184, 185, 186, 25, 26, 187, 188, 189, 190, 191, 192, 193, 194, 109, 110, 195, 196, 197, 198, 199, 123, 124, 125, 126, 90, 5, 7, 127, 128, 129, 130, 131, 132, 133, 134, 135, 136, 246, 247, 248, 249, 250, 251, 252, 253, 254, 255, 256, 257, 258] (by decide +kernel) (by decide +kernel)
set_option maxRecDepth 20000 in
theorem gL_law_X1_isComplete : GoodIn wsL_law (wsV RL 75 RX1 yX1_isComplete wsX1_isComplete) := goodIn_app (goodIn_of _ (by decide +kernel)) ggL_law_X1_isComplete
set_option maxRecDepth 20000 in
theorem ggL_law_X1_fans : GoodIn wsL_law wsX1_fans := goodIn_ca (goodIn_r _ [215, 216, 217, 218, 2, 219, 158, 159, 160, 161, 66, 162, 97, 6, 98, 61, 62, 63, 64, 65, 163, 164, 165, 166, 14, 167, 168, 169, 170, 171, 172, 173, 174, 175, 176, 177, 178, 17, 18, 179, 180, 181, 182, 183, 184, 185, 186, 25, 26, 187, 188, 189, 190, 191, 192, 193, 194, 109, 110, 195, 196, 197, 198, 199, 123, 124, 125, 126, 90, 5, 7, 127, 128, 129, 130, 131, 132, 133, 134, 135, 136, 220, 221, 222, 223, 15, 224, 225, 226, 227, 228, 229, 230, 231, 232, 233, 234, 20, 235, 236, 237, 51, 52, 246, 247, 248, 249, 250, 251, 252, 253, 254, 255, 256, 257, 258] (by decide +kernel) (by decide +kernel)) (goodIn_sub (fun _ h => List.mem_append_left _ (List.mem_append_right _ h)) (by decide +kernel))
set_option maxRecDepth 20000 in
theorem gL_law_X1_fans : GoodIn wsL_law (wsV RL 78 RX1 yX1_fans wsX1_fans) := goodIn_app (goodIn_of _ (by decide +kernel)) ggL_law_X1_fans
set_option maxRecDepth 20000 in
theorem ggL_law_X1_points : GoodIn wsL_law wsX1_points := goodIn_ca (goodIn_r _ [241, 216, 217, 218, 2, 219, 158, 159, 160, 161, 66, 162, 97, 6, 98, 61, 62, 63, 64, 65, 163, 164, 165, 166, 14, 167, 168, 169, 170, 171, 172, 173, 174, 175, 176, 177, 178, 17, 18, 179, 180, 181, 182, 183, 184, 185, 186, 25, 26, 187, 188, 189, 190, 191, 192, 193, 194, 109, 110, 195, 196, 197, 198, 199, 123, 124, 125, 126, 90, 5, 7, 127, 128, 129, 130, 131, 132, 133, 134, 135, 136, 220, 221, 222, 223, 15, 224, 225, 226, 227, 228, 229, 230, 231, 232, 233, 234, 20, 235, 236, 237, 51, 52, 242, 243, 244, 245, 27, 28, 246, 247, 248, 249, 250, 251, 252, 253, 254, 255, 256, 257, 258] (by decide +kernel) (by decide +kernel)) (goodIn_sub (fun _ h => List.mem_append_left _ (List.mem_append_right _ h)) (by decide +kernel))
set_option maxRecDepth 20000 in
theorem gL_law_X1_points : GoodIn wsL_law (wsV RL 82 RX1 yX1_points wsX1_points) := goodIn_app (goodIn_of _ (by decide +kernel)) ggL_law_X1_points
theorem inlX0 : ∀ w ∈ wsX00, w ∈ wsL_law := fun _ h => List.mem_append_left _ (List.mem_append_left _ (List.mem_append_left _ (List.mem_append_right _ h)))
theorem inX0 : ∀ w ∈ wsX00, w ∈ lw_tbl := fun w h => wsL_law_in w (inlX0 w h)
theorem inlX1 : ∀ w ∈ wsX10, w ∈ wsL_law := fun _ h => List.mem_append_left _ (List.mem_append_left _ (List.mem_append_left _ (List.mem_append_left _ (List.mem_append_right _ h))))
theorem inX1 : ∀ w ∈ wsX10, w ∈ lw_tbl := fun w h => wsL_law_in w (inlX1 w h)
theorem inX2 : ∀ w ∈ wsX20, w ∈ lw_tbl := by decide +kernel
theorem inJx145de : ∀ w ∈ wsJx145de0, w ∈ lw_tbl := by decide +kernel
theorem inJ6 : ∀ w ∈ wsJ60, w ∈ lw_tbl := by decide +kernel
theorem inJ9 : ∀ w ∈ wsJ90, w ∈ lw_tbl := by decide +kernel
theorem inJ0 : ∀ w ∈ wsJ00, w ∈ lw_tbl := by decide +kernel
theorem inJ7 : ∀ w ∈ wsJ70, w ∈ lw_tbl := by decide +kernel
