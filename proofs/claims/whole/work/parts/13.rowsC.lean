set_option maxRecDepth 20000 in
theorem ggL_draw_X1_draw : GoodIn wsL_draw wsX1_draw := goodIn_ca (goodIn_ca (goodIn_r _ [7, 8, 9, 10, 11, 6, 12, 13, 14, 15, 16, 17, 18, 19, 20, 21, 22, 23, 24, 25, 26, 27, 28, 29, 30, 31, 32, 33, 34, 35, 36, 37, 38, 39, 40, 41, 42, 43, 44, 45, 46, 47, 48, 49, 50, 51] (by decide +kernel) (by decide +kernel)) (goodIn_sub (fun _ h => List.mem_cons_of_mem _ (List.mem_append_left _ (List.mem_append_right _ h))) (by decide +kernel))) (goodIn_sub (fun _ h => List.mem_cons_of_mem _ (List.mem_append_right _ h)) (by decide +kernel))
set_option maxRecDepth 20000 in
theorem gL_draw_X1_draw : GoodIn wsL_draw (wsV RL 7 RX1 yX1_draw wsX1_draw) := goodIn_app (goodIn_of _ (by decide +kernel)) ggL_draw_X1_draw
theorem dL_draw_0 : decode cL_draw 0 = .ok (.aload_n 2, 1) := by decide +kernel
theorem dL_draw_1 : decode cL_draw 1 = .ok (.iconst 0, 1) := by decide +kernel
theorem dL_draw_2 : decode cL_draw 2 = .ok (.aload_n 0, 1) := by decide +kernel
theorem dL_draw_3 : decode cL_draw 3 = .ok (.iload_n 1, 1) := by decide +kernel
theorem dL_draw_4 : decode cL_draw 4 = .ok (.invokevirtual 7, 3) := by decide +kernel
theorem dL_draw_7 : decode cL_draw 7 = .ok (.i2l, 1) := by decide +kernel
theorem dL_draw_8 : decode cL_draw 8 = .ok (.lastore, 1) := by decide +kernel
theorem dL_draw_9 : decode cL_draw 9 = .ok (.goto 9, 3) := by decide +kernel
theorem dL_draw_12 : decode cL_draw 12 = .ok (.astore_n 3, 1) := by decide +kernel
theorem dL_draw_13 : decode cL_draw 13 = .ok (.iconst 1, 1) := by decide +kernel
theorem dL_draw_14 : decode cL_draw 14 = .ok (.ireturn, 1) := by decide +kernel
theorem dL_draw_15 : decode cL_draw 15 = .ok (.astore_n 3, 1) := by decide +kernel
theorem dL_draw_16 : decode cL_draw 16 = .ok (.iconst 2, 1) := by decide +kernel
theorem dL_draw_17 : decode cL_draw 17 = .ok (.ireturn, 1) := by decide +kernel
theorem dL_draw_18 : decode cL_draw 18 = .ok (.iconst 0, 1) := by decide +kernel
theorem dL_draw_19 : decode cL_draw 19 = .ok (.ireturn, 1) := by decide +kernel
set_option maxRecDepth 20000 in
theorem ggL_drop_X1_drop : GoodIn wsL_drop wsX1_drop := goodIn_ca (goodIn_ca (goodIn_r _ [7, 8, 9, 10, 6, 11, 12, 13, 14, 15, 16, 17, 18, 19, 20, 21, 22, 23, 24, 25, 26, 27, 28, 29, 30, 31, 32, 33, 34, 35, 36, 37, 38, 39, 40, 41, 42, 43, 44, 45, 46] (by decide +kernel) (by decide +kernel)) (goodIn_sub (fun _ h => List.mem_cons_of_mem _ (List.mem_append_left _ (List.mem_append_right _ h))) (by decide +kernel))) (goodIn_sub (fun _ h => List.mem_cons_of_mem _ (List.mem_append_right _ h)) (by decide +kernel))
set_option maxRecDepth 20000 in
theorem gL_drop_X1_drop : GoodIn wsL_drop (wsV RL 17 RX1 yX1_drop wsX1_drop) := goodIn_app (goodIn_of _ (by decide +kernel)) ggL_drop_X1_drop
theorem dL_drop_0 : decode cL_drop 0 = .ok (.aload_n 2, 1) := by decide +kernel
theorem dL_drop_1 : decode cL_drop 1 = .ok (.iconst 0, 1) := by decide +kernel
theorem dL_drop_2 : decode cL_drop 2 = .ok (.aload_n 0, 1) := by decide +kernel
theorem dL_drop_3 : decode cL_drop 3 = .ok (.iload_n 1, 1) := by decide +kernel
theorem dL_drop_4 : decode cL_drop 4 = .ok (.invokevirtual 17, 3) := by decide +kernel
theorem dL_drop_7 : decode cL_drop 7 = .ok (.i2l, 1) := by decide +kernel
theorem dL_drop_8 : decode cL_drop 8 = .ok (.lastore, 1) := by decide +kernel
theorem dL_drop_9 : decode cL_drop 9 = .ok (.goto 9, 3) := by decide +kernel
theorem dL_drop_12 : decode cL_drop 12 = .ok (.astore_n 3, 1) := by decide +kernel
theorem dL_drop_13 : decode cL_drop 13 = .ok (.iconst 1, 1) := by decide +kernel
theorem dL_drop_14 : decode cL_drop 14 = .ok (.ireturn, 1) := by decide +kernel
theorem dL_drop_15 : decode cL_drop 15 = .ok (.astore_n 3, 1) := by decide +kernel
theorem dL_drop_16 : decode cL_drop 16 = .ok (.iconst 2, 1) := by decide +kernel
theorem dL_drop_17 : decode cL_drop 17 = .ok (.ireturn, 1) := by decide +kernel
theorem dL_drop_18 : decode cL_drop 18 = .ok (.iconst 0, 1) := by decide +kernel
theorem dL_drop_19 : decode cL_drop 19 = .ok (.ireturn, 1) := by decide +kernel
set_option maxRecDepth 20000 in
theorem ggL_see_X1_see : GoodIn wsL_see wsX1_see := goodIn_ca (goodIn_ca (goodIn_r _ [7, 8, 9, 10, 6, 11, 12, 13, 14, 15, 16, 17, 18, 19, 20, 21, 22, 23, 24, 25, 26, 27, 28, 29, 30, 31, 32, 33, 34, 35, 36, 37, 38, 39, 40, 41] (by decide +kernel) (by decide +kernel)) (goodIn_sub (fun _ h => List.mem_cons_of_mem _ (List.mem_append_left _ (List.mem_append_right _ h))) (by decide +kernel))) (goodIn_sub (fun _ h => List.mem_cons_of_mem _ (List.mem_append_right _ h)) (by decide +kernel))
set_option maxRecDepth 20000 in
theorem gL_see_X1_see : GoodIn wsL_see (wsV RL 20 RX1 yX1_see wsX1_see) := goodIn_app (goodIn_of _ (by decide +kernel)) ggL_see_X1_see
theorem dL_see_0 : decode cL_see 0 = .ok (.aload_n 2, 1) := by decide +kernel
theorem dL_see_1 : decode cL_see 1 = .ok (.iconst 0, 1) := by decide +kernel
theorem dL_see_2 : decode cL_see 2 = .ok (.aload_n 0, 1) := by decide +kernel
theorem dL_see_3 : decode cL_see 3 = .ok (.iload_n 1, 1) := by decide +kernel
theorem dL_see_4 : decode cL_see 4 = .ok (.invokevirtual 20, 3) := by decide +kernel
theorem dL_see_7 : decode cL_see 7 = .ok (.i2l, 1) := by decide +kernel
theorem dL_see_8 : decode cL_see 8 = .ok (.lastore, 1) := by decide +kernel
theorem dL_see_9 : decode cL_see 9 = .ok (.goto 9, 3) := by decide +kernel
theorem dL_see_12 : decode cL_see 12 = .ok (.astore_n 3, 1) := by decide +kernel
theorem dL_see_13 : decode cL_see 13 = .ok (.iconst 1, 1) := by decide +kernel
theorem dL_see_14 : decode cL_see 14 = .ok (.ireturn, 1) := by decide +kernel
theorem dL_see_15 : decode cL_see 15 = .ok (.astore_n 3, 1) := by decide +kernel
theorem dL_see_16 : decode cL_see 16 = .ok (.iconst 2, 1) := by decide +kernel
theorem dL_see_17 : decode cL_see 17 = .ok (.ireturn, 1) := by decide +kernel
theorem dL_see_18 : decode cL_see 18 = .ok (.iconst 0, 1) := by decide +kernel
theorem dL_see_19 : decode cL_see 19 = .ok (.ireturn, 1) := by decide +kernel
set_option maxRecDepth 20000 in
theorem ggL_meld_X1_meld : GoodIn wsL_meld wsX1_meld := goodIn_ca (goodIn_ca (goodIn_ca (goodIn_r _ [8, 9, 10, 11, 12, 13, 14, 15, 16, 17, 18, 7, 19, 20, 21, 22, 23, 24, 25, 26, 27, 28, 29, 30, 31, 32, 33, 34, 35, 36, 37, 38, 39, 40, 41, 42, 43, 44, 45, 46, 47, 48, 49, 50, 51, 52, 53, 54, 55, 56, 57, 58, 59, 60, 61, 62, 63] (by decide +kernel) (by decide +kernel)) (goodIn_sub (fun _ h => List.mem_cons_of_mem _ (List.mem_append_left _ (List.mem_append_left _ (List.mem_append_right _ h)))) (by decide +kernel))) (goodIn_sub (fun _ h => List.mem_cons_of_mem _ (List.mem_append_left _ (List.mem_append_right _ h))) (by decide +kernel))) (goodIn_sub (fun _ h => List.mem_cons_of_mem _ (List.mem_append_right _ h)) (by decide +kernel))
set_option maxRecDepth 20000 in
theorem gL_meld_X1_meld : GoodIn wsL_meld (wsV RL 23 RX1 yX1_meld wsX1_meld) := goodIn_app (goodIn_of _ (by decide +kernel)) ggL_meld_X1_meld
theorem dL_meld_0 : decode cL_meld 0 = .ok (.aload 4, 2) := by decide +kernel
theorem dL_meld_2 : decode cL_meld 2 = .ok (.iconst 0, 1) := by decide +kernel
theorem dL_meld_3 : decode cL_meld 3 = .ok (.aload_n 0, 1) := by decide +kernel
theorem dL_meld_4 : decode cL_meld 4 = .ok (.iload_n 1, 1) := by decide +kernel
theorem dL_meld_5 : decode cL_meld 5 = .ok (.iload_n 2, 1) := by decide +kernel
theorem dL_meld_6 : decode cL_meld 6 = .ok (.iload_n 3, 1) := by decide +kernel
theorem dL_meld_7 : decode cL_meld 7 = .ok (.invokevirtual 23, 3) := by decide +kernel
theorem dL_meld_10 : decode cL_meld 10 = .ok (.i2l, 1) := by decide +kernel
theorem dL_meld_11 : decode cL_meld 11 = .ok (.lastore, 1) := by decide +kernel
theorem dL_meld_12 : decode cL_meld 12 = .ok (.goto 15, 3) := by decide +kernel
theorem dL_meld_15 : decode cL_meld 15 = .ok (.astore 5, 2) := by decide +kernel
theorem dL_meld_17 : decode cL_meld 17 = .ok (.iconst 1, 1) := by decide +kernel
theorem dL_meld_18 : decode cL_meld 18 = .ok (.ireturn, 1) := by decide +kernel
theorem dL_meld_19 : decode cL_meld 19 = .ok (.astore 5, 2) := by decide +kernel
theorem dL_meld_21 : decode cL_meld 21 = .ok (.iconst 2, 1) := by decide +kernel
theorem dL_meld_22 : decode cL_meld 22 = .ok (.ireturn, 1) := by decide +kernel
theorem dL_meld_23 : decode cL_meld 23 = .ok (.astore 5, 2) := by decide +kernel
theorem dL_meld_25 : decode cL_meld 25 = .ok (.iconst 3, 1) := by decide +kernel
theorem dL_meld_26 : decode cL_meld 26 = .ok (.ireturn, 1) := by decide +kernel
theorem dL_meld_27 : decode cL_meld 27 = .ok (.iconst 0, 1) := by decide +kernel
theorem dL_meld_28 : decode cL_meld 28 = .ok (.ireturn, 1) := by decide +kernel
set_option maxRecDepth 20000 in
theorem ggL_grow_X1_grow : GoodIn wsL_grow wsX1_grow := goodIn_ca (goodIn_ca (goodIn_r _ [7, 8, 9, 10, 11, 12, 6, 13, 14, 15, 16, 17, 18, 19, 20, 21, 22, 23, 24, 25, 26, 27, 28, 29, 30, 31, 32, 33, 34, 35, 36, 37, 38, 39, 40, 41, 42, 43, 44, 45, 46, 47, 48, 49, 50, 51, 52, 53, 54, 55, 56] (by decide +kernel) (by decide +kernel)) (goodIn_sub (fun _ h => List.mem_cons_of_mem _ (List.mem_append_left _ (List.mem_append_right _ h))) (by decide +kernel))) (goodIn_sub (fun _ h => List.mem_cons_of_mem _ (List.mem_append_right _ h)) (by decide +kernel))
set_option maxRecDepth 20000 in
theorem gL_grow_X1_grow : GoodIn wsL_grow (wsV RL 29 RX1 yX1_grow wsX1_grow) := goodIn_app (goodIn_of _ (by decide +kernel)) ggL_grow_X1_grow
theorem dL_grow_0 : decode cL_grow 0 = .ok (.aload_n 2, 1) := by decide +kernel
theorem dL_grow_1 : decode cL_grow 1 = .ok (.iconst 0, 1) := by decide +kernel
theorem dL_grow_2 : decode cL_grow 2 = .ok (.aload_n 0, 1) := by decide +kernel
theorem dL_grow_3 : decode cL_grow 3 = .ok (.iload_n 1, 1) := by decide +kernel
theorem dL_grow_4 : decode cL_grow 4 = .ok (.invokevirtual 29, 3) := by decide +kernel
theorem dL_grow_7 : decode cL_grow 7 = .ok (.i2l, 1) := by decide +kernel
theorem dL_grow_8 : decode cL_grow 8 = .ok (.lastore, 1) := by decide +kernel
theorem dL_grow_9 : decode cL_grow 9 = .ok (.goto 9, 3) := by decide +kernel
theorem dL_grow_12 : decode cL_grow 12 = .ok (.astore_n 3, 1) := by decide +kernel
theorem dL_grow_13 : decode cL_grow 13 = .ok (.iconst 1, 1) := by decide +kernel
theorem dL_grow_14 : decode cL_grow 14 = .ok (.ireturn, 1) := by decide +kernel
theorem dL_grow_15 : decode cL_grow 15 = .ok (.astore_n 3, 1) := by decide +kernel
theorem dL_grow_16 : decode cL_grow 16 = .ok (.iconst 2, 1) := by decide +kernel
theorem dL_grow_17 : decode cL_grow 17 = .ok (.ireturn, 1) := by decide +kernel
theorem dL_grow_18 : decode cL_grow 18 = .ok (.iconst 0, 1) := by decide +kernel
theorem dL_grow_19 : decode cL_grow 19 = .ok (.ireturn, 1) := by decide +kernel
set_option maxRecDepth 20000 in
theorem ggL_count_X1_count : GoodIn wsL_count wsX1_count := goodIn_ca (goodIn_r _ [6, 7, 8, 9, 10, 5, 11, 12, 13, 14, 15, 16, 17, 18, 19, 20, 21, 22, 23, 24, 25, 26, 27, 28, 29] (by decide +kernel) (by decide +kernel)) (goodIn_sub (fun _ h => List.mem_cons_of_mem _ (List.mem_append_right _ h)) (by decide +kernel))
set_option maxRecDepth 20000 in
theorem gL_count_X1_count : GoodIn wsL_count (wsV RL 32 RX1 yX1_count wsX1_count) := goodIn_app (goodIn_of _ (by decide +kernel)) ggL_count_X1_count
theorem dL_count_0 : decode cL_count 0 = .ok (.aload_n 3, 1) := by decide +kernel
theorem dL_count_1 : decode cL_count 1 = .ok (.iconst 0, 1) := by decide +kernel
theorem dL_count_2 : decode cL_count 2 = .ok (.aload_n 0, 1) := by decide +kernel
theorem dL_count_3 : decode cL_count 3 = .ok (.iload_n 1, 1) := by decide +kernel
theorem dL_count_4 : decode cL_count 4 = .ok (.iload_n 2, 1) := by decide +kernel
theorem dL_count_5 : decode cL_count 5 = .ok (.invokevirtual 32, 3) := by decide +kernel
theorem dL_count_8 : decode cL_count 8 = .ok (.i2l, 1) := by decide +kernel
theorem dL_count_9 : decode cL_count 9 = .ok (.lastore, 1) := by decide +kernel
theorem dL_count_10 : decode cL_count 10 = .ok (.goto 7, 3) := by decide +kernel
theorem dL_count_13 : decode cL_count 13 = .ok (.astore 4, 2) := by decide +kernel
theorem dL_count_15 : decode cL_count 15 = .ok (.iconst 1, 1) := by decide +kernel
theorem dL_count_16 : decode cL_count 16 = .ok (.ireturn, 1) := by decide +kernel
theorem dL_count_17 : decode cL_count 17 = .ok (.iconst 0, 1) := by decide +kernel
theorem dL_count_18 : decode cL_count 18 = .ok (.ireturn, 1) := by decide +kernel
set_option maxRecDepth 20000 in
theorem ggL_meldAt_X1_meldAt : GoodIn wsL_meldAt wsX1_meldAt := goodIn_ca (goodIn_r _ [6, 7, 8, 9, 10, 11, 12, 5, 13, 14, 15, 16, 17, 18, 19, 20, 21, 22, 23, 24, 25, 26, 27, 28, 29] (by decide +kernel) (by decide +kernel)) (goodIn_sub (fun _ h => List.mem_cons_of_mem _ (List.mem_append_right _ h)) (by decide +kernel))
set_option maxRecDepth 20000 in
theorem gL_meldAt_X1_meldAt : GoodIn wsL_meldAt (wsV RL 36 RX1 yX1_meldAt wsX1_meldAt) := goodIn_app (goodIn_of _ (by decide +kernel)) ggL_meldAt_X1_meldAt
theorem dL_meldAt_0 : decode cL_meldAt 0 = .ok (.aload_n 3, 1) := by decide +kernel
theorem dL_meldAt_1 : decode cL_meldAt 1 = .ok (.iconst 0, 1) := by decide +kernel
theorem dL_meldAt_2 : decode cL_meldAt 2 = .ok (.aload_n 0, 1) := by decide +kernel
theorem dL_meldAt_3 : decode cL_meldAt 3 = .ok (.iload_n 1, 1) := by decide +kernel
theorem dL_meldAt_4 : decode cL_meldAt 4 = .ok (.iload_n 2, 1) := by decide +kernel
theorem dL_meldAt_5 : decode cL_meldAt 5 = .ok (.invokevirtual 36, 3) := by decide +kernel
theorem dL_meldAt_8 : decode cL_meldAt 8 = .ok (.i2l, 1) := by decide +kernel
theorem dL_meldAt_9 : decode cL_meldAt 9 = .ok (.lastore, 1) := by decide +kernel
theorem dL_meldAt_10 : decode cL_meldAt 10 = .ok (.goto 7, 3) := by decide +kernel
theorem dL_meldAt_13 : decode cL_meldAt 13 = .ok (.astore 4, 2) := by decide +kernel
theorem dL_meldAt_15 : decode cL_meldAt 15 = .ok (.iconst 1, 1) := by decide +kernel
theorem dL_meldAt_16 : decode cL_meldAt 16 = .ok (.ireturn, 1) := by decide +kernel
theorem dL_meldAt_17 : decode cL_meldAt 17 = .ok (.iconst 0, 1) := by decide +kernel
theorem dL_meldAt_18 : decode cL_meldAt 18 = .ok (.ireturn, 1) := by decide +kernel
set_option maxRecDepth 20000 in
theorem ggL_advice_X1_advice : GoodIn wsL_advice wsX1_advice := goodIn_ca (goodIn_r _ [6, 7, 8, 9, 10, 11, 12, 13, 5, 14, 15, 16, 17, 18, 19, 20, 21, 22, 23, 24, 25, 26, 27, 28, 29, 30, 31, 32, 33, 34, 35, 36, 37, 38, 39, 40, 41, 42, 43, 44, 45, 46, 47, 48, 49, 50, 51, 52, 53, 54, 55, 56, 57, 58, 59, 60, 61, 62, 63, 64, 65, 66, 67, 68, 69, 70, 71, 72, 73, 74, 75, 76, 77, 78, 79, 80, 81, 82, 83, 84, 85, 86, 87, 88, 89, 90, 91, 92] (by decide +kernel) (by decide +kernel)) (goodIn_sub (fun _ h => List.mem_cons_of_mem _ (List.mem_append_right _ h)) (by decide +kernel))
set_option maxRecDepth 20000 in
theorem gL_advice_X1_advice : GoodIn wsL_advice (wsV RL 40 RX1 yX1_advice wsX1_advice) := goodIn_app (goodIn_of _ (by decide +kernel)) ggL_advice_X1_advice
theorem dL_advice_0 : decode cL_advice 0 = .ok (.aload_n 1, 1) := by decide +kernel
theorem dL_advice_1 : decode cL_advice 1 = .ok (.iconst 0, 1) := by decide +kernel
theorem dL_advice_2 : decode cL_advice 2 = .ok (.aload_n 0, 1) := by decide +kernel
theorem dL_advice_3 : decode cL_advice 3 = .ok (.invokevirtual 40, 3) := by decide +kernel
theorem dL_advice_6 : decode cL_advice 6 = .ok (.i2l, 1) := by decide +kernel
theorem dL_advice_7 : decode cL_advice 7 = .ok (.lastore, 1) := by decide +kernel
theorem dL_advice_8 : decode cL_advice 8 = .ok (.goto 6, 3) := by decide +kernel
theorem dL_advice_11 : decode cL_advice 11 = .ok (.astore_n 2, 1) := by decide +kernel
theorem dL_advice_12 : decode cL_advice 12 = .ok (.iconst 1, 1) := by decide +kernel
theorem dL_advice_13 : decode cL_advice 13 = .ok (.ireturn, 1) := by decide +kernel
theorem dL_advice_14 : decode cL_advice 14 = .ok (.iconst 0, 1) := by decide +kernel
theorem dL_advice_15 : decode cL_advice 15 = .ok (.ireturn, 1) := by decide +kernel
set_option maxRecDepth 20000 in
theorem ggL_setWinds_X1_setWinds : GoodIn wsL_setWinds wsX1_setWinds := goodIn_ca (goodIn_r _ [6, 7, 8, 9, 10, 11, 12, 5, 13, 14, 15, 16, 17, 18, 19, 20, 21, 22, 23, 24, 25, 26] (by decide +kernel) (by decide +kernel)) (goodIn_sub (fun _ h => List.mem_cons_of_mem _ (List.mem_append_right _ h)) (by decide +kernel))
set_option maxRecDepth 20000 in
theorem gL_setWinds_X1_setWinds : GoodIn wsL_setWinds (wsV RL 44 RX1 yX1_setWinds wsX1_setWinds) := goodIn_app (goodIn_of _ (by decide +kernel)) ggL_setWinds_X1_setWinds
theorem dL_setWinds_0 : decode cL_setWinds 0 = .ok (.aload_n 3, 1) := by decide +kernel
theorem dL_setWinds_1 : decode cL_setWinds 1 = .ok (.iconst 0, 1) := by decide +kernel
theorem dL_setWinds_2 : decode cL_setWinds 2 = .ok (.aload_n 0, 1) := by decide +kernel
theorem dL_setWinds_3 : decode cL_setWinds 3 = .ok (.iload_n 1, 1) := by decide +kernel
theorem dL_setWinds_4 : decode cL_setWinds 4 = .ok (.iload_n 2, 1) := by decide +kernel
theorem dL_setWinds_5 : decode cL_setWinds 5 = .ok (.invokevirtual 44, 3) := by decide +kernel
theorem dL_setWinds_8 : decode cL_setWinds 8 = .ok (.i2l, 1) := by decide +kernel
theorem dL_setWinds_9 : decode cL_setWinds 9 = .ok (.lastore, 1) := by decide +kernel
theorem dL_setWinds_10 : decode cL_setWinds 10 = .ok (.goto 7, 3) := by decide +kernel
theorem dL_setWinds_13 : decode cL_setWinds 13 = .ok (.astore 4, 2) := by decide +kernel
theorem dL_setWinds_15 : decode cL_setWinds 15 = .ok (.iconst 1, 1) := by decide +kernel
theorem dL_setWinds_16 : decode cL_setWinds 16 = .ok (.ireturn, 1) := by decide +kernel
theorem dL_setWinds_17 : decode cL_setWinds 17 = .ok (.iconst 0, 1) := by decide +kernel
theorem dL_setWinds_18 : decode cL_setWinds 18 = .ok (.ireturn, 1) := by decide +kernel
set_option maxRecDepth 20000 in
theorem ggL_setPoints_X1_setPoints : GoodIn wsL_setPoints wsX1_setPoints := goodIn_ca (goodIn_r _ [6, 7, 8, 9, 10, 11, 12, 13, 14, 15, 16, 17, 18, 19, 20, 21, 22, 23] (by decide +kernel) (by decide +kernel)) (goodIn_sub (fun _ h => List.mem_cons_of_mem _ (List.mem_append_right _ h)) (by decide +kernel))
set_option maxRecDepth 20000 in
theorem gL_setPoints_X1_setPoints : GoodIn wsL_setPoints (wsV RL 47 RX1 yX1_setPoints wsX1_setPoints) := goodIn_app (goodIn_of _ (by decide +kernel)) ggL_setPoints_X1_setPoints
theorem dL_setPoints_0 : decode cL_setPoints 0 = .ok (.aload_n 3, 1) := by decide +kernel
theorem dL_setPoints_1 : decode cL_setPoints 1 = .ok (.iconst 0, 1) := by decide +kernel
theorem dL_setPoints_2 : decode cL_setPoints 2 = .ok (.aload_n 0, 1) := by decide +kernel
theorem dL_setPoints_3 : decode cL_setPoints 3 = .ok (.iload_n 1, 1) := by decide +kernel
theorem dL_setPoints_4 : decode cL_setPoints 4 = .ok (.iload_n 2, 1) := by decide +kernel
theorem dL_setPoints_5 : decode cL_setPoints 5 = .ok (.invokevirtual 47, 3) := by decide +kernel
theorem dL_setPoints_8 : decode cL_setPoints 8 = .ok (.i2l, 1) := by decide +kernel
theorem dL_setPoints_9 : decode cL_setPoints 9 = .ok (.lastore, 1) := by decide +kernel
theorem dL_setPoints_10 : decode cL_setPoints 10 = .ok (.goto 7, 3) := by decide +kernel
theorem dL_setPoints_13 : decode cL_setPoints 13 = .ok (.astore 4, 2) := by decide +kernel
theorem dL_setPoints_15 : decode cL_setPoints 15 = .ok (.iconst 1, 1) := by decide +kernel
theorem dL_setPoints_16 : decode cL_setPoints 16 = .ok (.ireturn, 1) := by decide +kernel
theorem dL_setPoints_17 : decode cL_setPoints 17 = .ok (.iconst 0, 1) := by decide +kernel
theorem dL_setPoints_18 : decode cL_setPoints 18 = .ok (.ireturn, 1) := by decide +kernel
set_option maxRecDepth 20000 in
theorem ggL_fans_X1_fans : GoodIn wsL_fans wsX1_fans := goodIn_ca (goodIn_r _ [6, 7, 8, 9, 5, 10, 11, 12, 13, 14, 15, 16, 17, 18, 19, 20, 21, 22, 23, 24, 25, 26, 27, 28, 29, 30, 31, 32, 33, 34, 35, 36, 37, 38, 39, 40, 41, 42, 43, 44, 45, 46, 47, 48, 49, 50, 51, 52, 53, 54, 55, 56, 57, 58, 59, 60, 61, 62, 63, 64, 65, 66, 67, 68, 69, 70, 71, 72, 73, 74, 75, 76, 77, 78, 79, 80, 81, 82, 83, 84, 85, 86, 87, 88, 89, 90, 91, 92, 93, 94, 95, 96, 97, 98, 99, 100, 101, 102, 103, 104, 105, 106, 107, 108, 109, 110, 111, 112, 113, 114, 115, 116, 117, 118, 119, 120] (by decide +kernel) (by decide +kernel)) (goodIn_sub (fun _ h => List.mem_cons_of_mem _ (List.mem_append_right _ h)) (by decide +kernel))
set_option maxRecDepth 20000 in
theorem gL_fans_X1_fans : GoodIn wsL_fans (wsV RL 50 RX1 yX1_fans wsX1_fans) := goodIn_app (goodIn_of _ (by decide +kernel)) ggL_fans_X1_fans
theorem dL_fans_0 : decode cL_fans 0 = .ok (.aload_n 2, 1) := by decide +kernel
theorem dL_fans_1 : decode cL_fans 1 = .ok (.iconst 0, 1) := by decide +kernel
theorem dL_fans_2 : decode cL_fans 2 = .ok (.aload_n 0, 1) := by decide +kernel
theorem dL_fans_3 : decode cL_fans 3 = .ok (.iload_n 1, 1) := by decide +kernel
theorem dL_fans_4 : decode cL_fans 4 = .ok (.invokevirtual 50, 3) := by decide +kernel
theorem dL_fans_7 : decode cL_fans 7 = .ok (.i2l, 1) := by decide +kernel
theorem dL_fans_8 : decode cL_fans 8 = .ok (.lastore, 1) := by decide +kernel
theorem dL_fans_9 : decode cL_fans 9 = .ok (.goto 6, 3) := by decide +kernel
theorem dL_fans_12 : decode cL_fans 12 = .ok (.astore_n 3, 1) := by decide +kernel
theorem dL_fans_13 : decode cL_fans 13 = .ok (.iconst 1, 1) := by decide +kernel
theorem dL_fans_14 : decode cL_fans 14 = .ok (.ireturn, 1) := by decide +kernel
theorem dL_fans_15 : decode cL_fans 15 = .ok (.iconst 0, 1) := by decide +kernel
theorem dL_fans_16 : decode cL_fans 16 = .ok (.ireturn, 1) := by decide +kernel
set_option maxRecDepth 20000 in
theorem ggL_points_X1_points : GoodIn wsL_points wsX1_points := goodIn_ca (goodIn_r _ [6, 7, 8, 9, 5, 10, 11, 12, 13, 14, 15, 16, 17, 18, 19, 20, 21, 22, 23, 24, 25, 26, 27, 28, 29, 30, 31, 32, 33, 34, 35, 36, 37, 38, 39, 40, 41, 42, 43, 44, 45, 46, 47, 48, 49, 50, 51, 52, 53, 54, 55, 56, 57, 58, 59, 60, 61, 62, 63, 64, 65, 66, 67, 68, 69, 70, 71, 72, 73, 74, 75, 76, 77, 78, 79, 80, 81, 82, 83, 84, 85, 86, 87, 88, 89, 90, 91, 92, 93, 94, 95, 96, 97, 98, 99, 100, 101, 102, 103, 104, 105, 106, 107, 108, 109, 110, 111, 112, 113, 114, 115, 116, 117, 118, 119, 120, 121, 122, 123, 124, 125, 126] (by decide +kernel) (by decide +kernel)) (goodIn_sub (fun _ h => List.mem_cons_of_mem _ (List.mem_append_right _ h)) (by decide +kernel))
set_option maxRecDepth 20000 in
theorem gL_points_X1_points : GoodIn wsL_points (wsV RL 54 RX1 yX1_points wsX1_points) := goodIn_app (goodIn_of _ (by decide +kernel)) ggL_points_X1_points
theorem dL_points_0 : decode cL_points 0 = .ok (.aload_n 2, 1) := by decide +kernel
theorem dL_points_1 : decode cL_points 1 = .ok (.iconst 0, 1) := by decide +kernel
theorem dL_points_2 : decode cL_points 2 = .ok (.aload_n 0, 1) := by decide +kernel
theorem dL_points_3 : decode cL_points 3 = .ok (.iload_n 1, 1) := by decide +kernel
theorem dL_points_4 : decode cL_points 4 = .ok (.invokevirtual 54, 3) := by decide +kernel
theorem dL_points_7 : decode cL_points 7 = .ok (.i2l, 1) := by decide +kernel
theorem dL_points_8 : decode cL_points 8 = .ok (.lastore, 1) := by decide +kernel
theorem dL_points_9 : decode cL_points 9 = .ok (.goto 6, 3) := by decide +kernel
theorem dL_points_12 : decode cL_points 12 = .ok (.astore_n 3, 1) := by decide +kernel
theorem dL_points_13 : decode cL_points 13 = .ok (.iconst 1, 1) := by decide +kernel
theorem dL_points_14 : decode cL_points 14 = .ok (.ireturn, 1) := by decide +kernel
theorem dL_points_15 : decode cL_points 15 = .ok (.iconst 0, 1) := by decide +kernel
theorem dL_points_16 : decode cL_points 16 = .ok (.ireturn, 1) := by decide +kernel
set_option maxRecDepth 20000 in
theorem ggL_law_X1_init : GoodIn wsL_law wsX1_init := goodIn_r _ [9, 10, 11, 12, 13, 14, 15, 16, 17, 18, 19, 20, 21, 22, 23, 24, 25, 26, 27, 28, 29, 30, 31, 32, 33, 567, 568, 569, 570, 571, 572, 573, 574, 575, 576, 577, 578, 579, 596, 597, 598, 599, 600] (by decide +kernel) (by decide +kernel)
set_option maxRecDepth 20000 in
theorem gL_law_X1_init : GoodIn wsL_law (wsX1_init) := ggL_law_X1_init
set_option maxRecDepth 20000 in
theorem ggL_law_X2_init : GoodIn wsL_law wsX2_init := goodIn_r _ [36, 37, 11, 12, 13, 38, 39, 40, 41, 42, 19, 43, 44, 45, 46, 47, 48, 49, 50, 51, 580, 581, 582, 583, 584, 585, 586, 587, 588, 589, 590, 591, 592, 593, 594, 595] (by decide +kernel) (by decide +kernel)
set_option maxRecDepth 20000 in
theorem gL_law_X2_init : GoodIn wsL_law (wsX2_init) := ggL_law_X2_init
set_option maxRecDepth 20000 in
theorem ggL_law_L_draw : GoodIn wsL_law wsL_draw := goodIn_ca (goodIn_ca (goodIn_r _ [55, 56, 57, 58, 59, 60, 2, 61, 62, 63, 64, 65, 66, 67, 68, 69, 70, 71, 72, 73, 74, 75, 76, 77, 78, 79, 80, 81, 82, 83, 84, 85, 14, 15, 16, 86, 87, 88, 89, 567, 568, 569, 570, 571, 572, 573, 574, 575, 576, 577, 578, 579] (by decide +kernel) (by decide +kernel)) (goodIn_sub (fun _ h => List.mem_append_left _ (List.mem_append_left _ (List.mem_append_right _ h))) (by decide +kernel))) (goodIn_sub (fun _ h => List.mem_append_left _ (List.mem_append_right _ h)) (by decide +kernel))
set_option maxRecDepth 20000 in
theorem gL_law_L_draw : GoodIn wsL_law (va_wsS RL 61 yL_draw wsL_draw) := goodIn_app (goodIn_of _ (by decide +kernel)) ggL_law_L_draw
set_option maxRecDepth 20000 in
theorem ggL_law_X2_draw : GoodIn wsL_law wsX2_draw := goodIn_r _ [93, 94, 38, 95, 96, 5, 97, 98, 99, 100, 101, 102, 103, 104, 105, 106, 107, 108, 109, 110, 111, 112, 113, 114, 115, 116, 117, 40, 39, 580, 581, 582, 583, 584, 585, 586, 587, 588, 589, 590, 591, 592, 593, 594, 595] (by decide +kernel) (by decide +kernel)
set_option maxRecDepth 20000 in
theorem gL_law_X2_draw : GoodIn wsL_law (wsV RL 66 RX2 yX2_draw wsX2_draw) := goodIn_app (goodIn_of _ (by decide +kernel)) ggL_law_X2_draw
set_option maxRecDepth 20000 in
theorem ggL_law_X2_thrown : GoodIn wsL_law wsX2_thrown := goodIn_r _ [121, 94, 580, 581, 582, 583, 584, 585, 586, 587, 588, 589, 590, 591, 592, 593, 594, 595] (by decide +kernel) (by decide +kernel)
set_option maxRecDepth 20000 in
theorem gL_law_X2_thrown : GoodIn wsL_law (wsV RL 67 RX2 yX2_thrown wsX2_thrown) := goodIn_app (goodIn_of _ (by decide +kernel)) ggL_law_X2_thrown
set_option maxRecDepth 20000 in
theorem ggL_law_L_drop : GoodIn wsL_law wsL_drop := goodIn_ca (goodIn_ca (goodIn_r _ [124, 56, 57, 125, 126, 127, 2, 128, 16, 64, 65, 66, 67, 68, 69, 70, 71, 129, 130, 131, 132, 62, 63, 14, 86, 87, 88, 89, 76, 72, 73, 74, 75, 77, 567, 568, 569, 570, 571, 572, 573, 574, 575, 576, 577, 578, 579] (by decide +kernel) (by decide +kernel)) (goodIn_sub (fun _ h => List.mem_append_left _ (List.mem_append_right _ h)) (by decide +kernel))) (goodIn_sub (fun _ h => List.mem_append_left _ (List.mem_append_left _ (List.mem_append_right _ h))) (by decide +kernel))
set_option maxRecDepth 20000 in
theorem gL_law_L_drop : GoodIn wsL_law (va_wsS RL 70 yL_drop wsL_drop) := goodIn_app (goodIn_of _ (by decide +kernel)) ggL_law_L_drop
set_option maxRecDepth 20000 in
theorem ggL_law_X2_drop : GoodIn wsL_law wsX2_drop := goodIn_r _ [136, 94, 38, 39, 95, 96, 5, 97, 98, 99, 100, 101, 102, 103, 104, 105, 106, 107, 108, 109, 110, 111, 112, 113, 580, 581, 582, 583, 584, 585, 586, 587, 588, 589, 590, 591, 592, 593, 594, 595] (by decide +kernel) (by decide +kernel)
set_option maxRecDepth 20000 in
theorem gL_law_X2_drop : GoodIn wsL_law (wsV RL 72 RX2 yX2_drop wsX2_drop) := goodIn_app (goodIn_of _ (by decide +kernel)) ggL_law_X2_drop
set_option maxRecDepth 20000 in
theorem ggL_law_L_see : GoodIn wsL_law wsL_see := goodIn_ca (goodIn_ca (goodIn_r _ [139, 56, 57, 140, 141, 142, 2, 143, 16, 64, 65, 66, 67, 68, 69, 70, 71, 78, 79, 80, 81, 62, 63, 82, 83, 84, 85, 14, 15, 567, 568, 569, 570, 571, 572, 573, 574, 575, 576, 577, 578, 579] (by decide +kernel) (by decide +kernel)) (goodIn_sub (fun _ h => List.mem_append_left _ (List.mem_append_right _ h)) (by decide +kernel))) (goodIn_sub (fun _ h => List.mem_append_left _ (List.mem_append_left _ (List.mem_append_right _ h))) (by decide +kernel))
set_option maxRecDepth 20000 in
theorem gL_law_L_see : GoodIn wsL_law (va_wsS RL 73 yL_see wsL_see) := goodIn_app (goodIn_of _ (by decide +kernel)) ggL_law_L_see
set_option maxRecDepth 20000 in
theorem ggL_law_X2_see : GoodIn wsL_law wsX2_see := goodIn_r _ [147, 94, 39, 95, 96, 5, 97, 98, 99, 100, 101, 102, 103, 104, 114, 115, 116, 117, 38, 40, 580, 581, 582, 583, 584, 585, 586, 587, 588, 589, 590, 591, 592, 593, 594, 595] (by decide +kernel) (by decide +kernel)
set_option maxRecDepth 20000 in
theorem gL_law_X2_see : GoodIn wsL_law (wsV RL 75 RX2 yX2_see wsX2_see) := goodIn_app (goodIn_of _ (by decide +kernel)) ggL_law_X2_see
set_option maxRecDepth 20000 in
theorem ggL_law_L_meld : GoodIn wsL_law wsL_meld := goodIn_ca (goodIn_ca (goodIn_ca (goodIn_r _ [150, 56, 151, 57, 152, 153, 154, 2, 155, 156, 157, 62, 63, 77, 17, 18, 20, 64, 65, 66, 67, 68, 69, 70, 71, 158, 159, 160, 161, 162, 163, 164, 129, 130, 131, 132, 14, 165, 166, 167, 168, 15, 86, 87, 88, 89, 76, 72, 73, 74, 75, 567, 568, 569, 570, 571, 572, 573, 574, 575, 576, 577, 578, 579] (by decide +kernel) (by decide +kernel)) (goodIn_sub (fun _ h => List.mem_append_right _ h) (by decide +kernel))) (goodIn_sub (fun _ h => List.mem_append_left _ (List.mem_append_left _ (List.mem_append_right _ h))) (by decide +kernel))) (goodIn_sub (fun _ h => List.mem_append_left _ (List.mem_append_right _ h)) (by decide +kernel))
set_option maxRecDepth 20000 in
theorem gL_law_L_meld : GoodIn wsL_law (va_wsS RL 76 yL_meld wsL_meld) := goodIn_app (goodIn_of _ (by decide +kernel)) ggL_law_L_meld
set_option maxRecDepth 20000 in
theorem ggL_law_X2_meld : GoodIn wsL_law wsX2_meld := goodIn_r _ [172, 94, 38, 109, 41, 42, 43, 95, 96, 5, 97, 98, 99, 100, 101, 102, 103, 104, 173, 174, 175, 176, 177, 178, 179, 40, 105, 106, 107, 108, 110, 111, 112, 113, 580, 581, 582, 583, 584, 585, 586, 587, 588, 589, 590, 591, 592, 593, 594, 595] (by decide +kernel) (by decide +kernel)
set_option maxRecDepth 20000 in
theorem gL_law_X2_meld : GoodIn wsL_law (wsV RL 79 RX2 yX2_meld wsX2_meld) := goodIn_app (goodIn_of _ (by decide +kernel)) ggL_law_X2_meld
set_option maxRecDepth 20000 in
theorem ggL_law_L_grow : GoodIn wsL_law wsL_grow := goodIn_ca (goodIn_ca (goodIn_r _ [182, 56, 57, 183, 184, 185, 2, 186, 62, 63, 17, 64, 65, 66, 67, 68, 69, 70, 71, 187, 188, 189, 190, 77, 18, 165, 166, 167, 168, 15, 129, 130, 131, 132, 14, 86, 87, 88, 89, 76, 72, 73, 74, 75, 567, 568, 569, 570, 571, 572, 573, 574, 575, 576, 577, 578, 579] (by decide +kernel) (by decide +kernel)) (goodIn_sub (fun _ h => List.mem_append_left _ (List.mem_append_left _ (List.mem_append_right _ h))) (by decide +kernel))) (goodIn_sub (fun _ h => List.mem_append_left _ (List.mem_append_right _ h)) (by decide +kernel))
set_option maxRecDepth 20000 in
theorem gL_law_L_grow : GoodIn wsL_law (va_wsS RL 80 yL_grow wsL_grow) := goodIn_app (goodIn_of _ (by decide +kernel)) ggL_law_L_grow
set_option maxRecDepth 20000 in
theorem ggL_law_X2_grow : GoodIn wsL_law wsX2_grow := goodIn_r _ [194, 94, 109, 41, 42, 38, 95, 96, 5, 97, 98, 99, 100, 101, 102, 103, 104, 176, 177, 178, 179, 40, 105, 106, 107, 108, 110, 111, 112, 113, 580, 581, 582, 583, 584, 585, 586, 587, 588, 589, 590, 591, 592, 593, 594, 595] (by decide +kernel) (by decide +kernel)
set_option maxRecDepth 20000 in
theorem gL_law_X2_grow : GoodIn wsL_law (wsV RL 82 RX2 yX2_grow wsX2_grow) := goodIn_app (goodIn_of _ (by decide +kernel)) ggL_law_X2_grow
set_option maxRecDepth 20000 in
theorem ggL_law_X1_begin : GoodIn wsL_law wsX1_begin := goodIn_r _ [198, 14, 15, 16, 76, 77, 72, 73, 74, 2, 75, 199, 200, 201, 202, 567, 568, 569, 570, 571, 572, 573, 574, 575, 576, 577, 578, 579] (by decide +kernel) (by decide +kernel)
set_option maxRecDepth 20000 in
theorem gL_law_X1_begin : GoodIn wsL_law (wsV RL 83 RX1 yX1_begin wsX1_begin) := goodIn_app (goodIn_of _ (by decide +kernel)) ggL_law_X1_begin
set_option maxRecDepth 20000 in
theorem ggL_law_X2_begin : GoodIn wsL_law wsX2_begin := goodIn_r _ [206, 94, 38, 39, 40, 109, 105, 106, 107, 5, 108, 110, 111, 112, 113, 580, 581, 582, 583, 584, 585, 586, 587, 588, 589, 590, 591, 592, 593, 594, 595] (by decide +kernel) (by decide +kernel)
set_option maxRecDepth 20000 in
theorem gL_law_X2_begin : GoodIn wsL_law (wsV RL 86 RX2 yX2_begin wsX2_begin) := goodIn_app (goodIn_of _ (by decide +kernel)) ggL_law_X2_begin
set_option maxRecDepth 20000 in
theorem ggL_law_X1_size : GoodIn wsL_law wsX1_size := goodIn_r _ [210, 72, 73, 74, 2, 75, 76, 77, 567, 568, 569, 570, 571, 572, 573, 574, 575, 576, 577, 578, 579] (by decide +kernel) (by decide +kernel)
set_option maxRecDepth 20000 in
theorem gL_law_X1_size : GoodIn wsL_law (wsV RL 87 RX1 yX1_size wsX1_size) := goodIn_app (goodIn_of _ (by decide +kernel)) ggL_law_X1_size
set_option maxRecDepth 20000 in
theorem ggL_law_X2_size : GoodIn wsL_law wsX2_size := goodIn_r _ [214, 94, 105, 106, 107, 5, 108, 109, 110, 111, 112, 113, 38, 580, 581, 582, 583, 584, 585, 586, 587, 588, 589, 590, 591, 592, 593, 594, 595] (by decide +kernel) (by decide +kernel)
set_option maxRecDepth 20000 in
theorem gL_law_X2_size : GoodIn wsL_law (wsV RL 90 RX2 yX2_size wsX2_size) := goodIn_app (goodIn_of _ (by decide +kernel)) ggL_law_X2_size
set_option maxRecDepth 20000 in
theorem ggL_law_L_count : GoodIn wsL_law wsL_count := goodIn_ca (goodIn_r _ [217, 56, 218, 219, 220, 2, 221, 16, 14, 64, 65, 66, 67, 68, 69, 70, 71, 567, 568, 569, 570, 571, 572, 573, 574, 575, 576, 577, 578, 579] (by decide +kernel) (by decide +kernel)) (goodIn_sub (fun _ h => List.mem_append_left _ (List.mem_append_right _ h)) (by decide +kernel))
set_option maxRecDepth 20000 in
theorem gL_law_L_count : GoodIn wsL_law (va_wsS RL 91 yL_count wsL_count) := goodIn_app (goodIn_of _ (by decide +kernel)) ggL_law_L_count
set_option maxRecDepth 20000 in
theorem ggL_law_X2_count : GoodIn wsL_law wsX2_count := goodIn_r _ [225, 94, 39, 38, 95, 96, 5, 97, 98, 99, 100, 101, 102, 103, 104, 580, 581, 582, 583, 584, 585, 586, 587, 588, 589, 590, 591, 592, 593, 594, 595] (by decide +kernel) (by decide +kernel)
set_option maxRecDepth 20000 in
theorem gL_law_X2_count : GoodIn wsL_law (wsV RL 94 RX2 yX2_count wsX2_count) := goodIn_app (goodIn_of _ (by decide +kernel)) ggL_law_X2_count
set_option maxRecDepth 20000 in
theorem ggL_law_X1_melds : GoodIn wsL_law wsX1_melds := goodIn_r _ [229, 77, 567, 568, 569, 570, 571, 572, 573, 574, 575, 576, 577, 578, 579] (by decide +kernel) (by decide +kernel)
set_option maxRecDepth 20000 in
theorem gL_law_X1_melds : GoodIn wsL_law (wsV RL 95 RX1 yX1_melds wsX1_melds) := goodIn_app (goodIn_of _ (by decide +kernel)) ggL_law_X1_melds
set_option maxRecDepth 20000 in
theorem ggL_law_X2_melds : GoodIn wsL_law wsX2_melds := goodIn_r _ [233, 94, 109, 580, 581, 582, 583, 584, 585, 586, 587, 588, 589, 590, 591, 592, 593, 594, 595] (by decide +kernel) (by decide +kernel)
set_option maxRecDepth 20000 in
theorem gL_law_X2_melds : GoodIn wsL_law (wsV RL 98 RX2 yX2_melds wsX2_melds) := goodIn_app (goodIn_of _ (by decide +kernel)) ggL_law_X2_melds
set_option maxRecDepth 20000 in
theorem ggL_law_L_meldAt : GoodIn wsL_law wsL_meldAt := goodIn_ca (goodIn_r _ [236, 56, 237, 238, 239, 2, 240, 67, 68, 77, 241, 242, 243, 244, 17, 18, 20, 567, 568, 569, 570, 571, 572, 573, 574, 575, 576, 577, 578, 579] (by decide +kernel) (by decide +kernel)) (goodIn_sub (fun _ h => List.mem_append_left _ (List.mem_append_right _ h)) (by decide +kernel))
set_option maxRecDepth 20000 in
theorem gL_law_L_meldAt : GoodIn wsL_law (va_wsS RL 99 yL_meldAt wsL_meldAt) := goodIn_app (goodIn_of _ (by decide +kernel)) ggL_law_L_meldAt
set_option maxRecDepth 20000 in
theorem ggL_law_X2_meldAt : GoodIn wsL_law wsX2_meldAt := goodIn_r _ [248, 94, 109, 98, 99, 5, 100, 249, 250, 251, 252, 41, 42, 43, 101, 102, 103, 104, 580, 581, 582, 583, 584, 585, 586, 587, 588, 589, 590, 591, 592, 593, 594, 595] (by decide +kernel) (by decide +kernel)
set_option maxRecDepth 20000 in
theorem gL_law_X2_meldAt : GoodIn wsL_law (wsV RL 102 RX2 yX2_meldAt wsX2_meldAt) := goodIn_app (goodIn_of _ (by decide +kernel)) ggL_law_X2_meldAt
set_option maxRecDepth 20000 in
theorem ggL_law_X1_isComplete : GoodIn wsL_law wsX1_isComplete := goodIn_r _ [256, 257, 258, 259, 2, 260, 77, 261, 262, 263, 264, 72, 73, 74, 75, 76, 265, 266, 267, 268, 14, 269, 270, 271, 272, 273, 274, 275, 276, 277, 278, 279, 280, 17, 18, 281, 282, 283, 284, 285, 286, 287, 288, 25, 26, 289, 290, 291, 292, 293, 294, 295, 158, 159, 160, 296, 297, 298, 299, 300, 301, 302, 303, 304, 305, 306, 307, 308, 309, 310, 311, 312, 313, 314, 315, 316, 317, 567, 568, 569, 570, 571, 572, 573, 574, 575, 576, 577, 578, 579] (by decide +kernel) (by decide +kernel)
set_option maxRecDepth 20000 in
theorem gL_law_X1_isComplete : GoodIn wsL_law (wsV RL 103 RX1 yX1_isComplete wsX1_isComplete) := goodIn_app (goodIn_of _ (by decide +kernel)) ggL_law_X1_isComplete
set_option maxRecDepth 20000 in
theorem ggL_law_X2_isComplete : GoodIn wsL_law wsX2_isComplete := goodIn_r _ [321, 94, 322, 323, 324, 5, 325, 38, 105, 106, 107, 108, 109, 110, 111, 112, 113, 326, 327, 328, 329, 330, 331, 332, 333, 334, 335, 336, 337, 338, 339, 340, 341, 342, 343, 48, 344, 345, 346, 347, 49, 173, 174, 175, 580, 581, 582, 583, 584, 585, 586, 587, 588, 589, 590, 591, 592, 593, 594, 595] (by decide +kernel) (by decide +kernel)
set_option maxRecDepth 20000 in
theorem gL_law_X2_isComplete : GoodIn wsL_law (wsV RL 107 RX2 yX2_isComplete wsX2_isComplete) := goodIn_app (goodIn_of _ (by decide +kernel)) ggL_law_X2_isComplete
set_option maxRecDepth 20000 in
theorem ggL_law_X1_waits : GoodIn wsL_law wsX1_waits := goodIn_r _ [351, 14, 15, 72, 73, 74, 2, 75, 76, 77, 86, 87, 88, 89, 257, 258, 259, 260, 261, 262, 263, 264, 265, 266, 267, 268, 269, 270, 271, 272, 273, 274, 275, 276, 277, 278, 279, 280, 17, 18, 281, 282, 283, 284, 285, 286, 287, 288, 25, 26, 289, 290, 291, 292, 293, 294, 295, 158, 159, 160, 296, 297, 298, 299, 300, 301, 302, 303, 304, 305, 306, 307, 308, 309, 310, 311, 312, 313, 314, 315, 316, 317, 567, 568, 569, 570, 571, 572, 573, 574, 575, 576, 577, 578, 579] (by decide +kernel) (by decide +kernel)
set_option maxRecDepth 20000 in
theorem gL_law_X1_waits : GoodIn wsL_law (wsV RL 108 RX1 yX1_waits wsX1_waits) := goodIn_app (goodIn_of _ (by decide +kernel)) ggL_law_X1_waits
set_option maxRecDepth 20000 in
theorem ggL_law_X2_waits : GoodIn wsL_law wsX2_waits := goodIn_r _ [355, 94, 356, 357, 358, 5, 359, 360, 361, 362, 363, 38, 40, 105, 106, 107, 108, 109, 110, 111, 112, 113, 322, 323, 324, 325, 326, 327, 328, 329, 330, 331, 332, 333, 334, 335, 336, 337, 338, 339, 340, 341, 342, 343, 48, 344, 345, 346, 347, 49, 173, 174, 175, 580, 581, 582, 583, 584, 585, 586, 587, 588, 589, 590, 591, 592, 593, 594, 595] (by decide +kernel) (by decide +kernel)
set_option maxRecDepth 20000 in
theorem gL_law_X2_waits : GoodIn wsL_law (wsV RL 112 RX2 yX2_waits wsX2_waits) := goodIn_app (goodIn_of _ (by decide +kernel)) ggL_law_X2_waits
set_option maxRecDepth 20000 in
theorem ggL_law_X1_outs : GoodIn wsL_law wsX1_outs := goodIn_r _ [367, 368, 349, 350, 2, 351, 14, 15, 72, 73, 74, 75, 76, 77, 86, 87, 88, 89, 257, 258, 259, 260, 261, 262, 263, 264, 265, 266, 267, 268, 269, 270, 271, 272, 273, 274, 275, 276, 277, 278, 279, 280, 17, 18, 281, 282, 283, 284, 285, 286, 287, 288, 25, 26, 289, 290, 291, 292, 293, 294, 295, 158, 159, 160, 296, 297, 298, 299, 300, 301, 302, 303, 304, 305, 306, 307, 308, 309, 310, 311, 312, 313, 314, 315, 316, 317, 369, 370, 371, 82, 83, 84, 85, 16, 567, 568, 569, 570, 571, 572, 573, 574, 575, 576, 577, 578, 579] (by decide +kernel) (by decide +kernel)
set_option maxRecDepth 20000 in
theorem gL_law_X1_outs : GoodIn wsL_law (wsV RL 113 RX1 yX1_outs wsX1_outs) := goodIn_app (goodIn_of _ (by decide +kernel)) ggL_law_X1_outs
set_option maxRecDepth 20000 in
theorem ggL_law_X2_outs : GoodIn wsL_law wsX2_outs := goodIn_r _ [375, 94, 356, 357, 358, 5, 359, 360, 361, 362, 363, 38, 40, 105, 106, 107, 108, 109, 110, 111, 112, 113, 322, 323, 324, 325, 326, 327, 328, 329, 330, 331, 332, 333, 334, 335, 336, 337, 338, 339, 340, 341, 342, 343, 48, 344, 345, 346, 347, 49, 173, 174, 175, 376, 377, 378, 379, 114, 115, 116, 117, 39, 580, 581, 582, 583, 584, 585, 586, 587, 588, 589, 590, 591, 592, 593, 594, 595] (by decide +kernel) (by decide +kernel)
set_option maxRecDepth 20000 in
theorem gL_law_X2_outs : GoodIn wsL_law (wsV RL 116 RX2 yX2_outs wsX2_outs) := goodIn_app (goodIn_of _ (by decide +kernel)) ggL_law_X2_outs
set_option maxRecDepth 20000 in
theorem ggL_law_X1_missing : GoodIn wsL_law wsX1_missing := goodIn_r _ [383, 77, 24, 14, 15, 305, 306, 263, 307, 384, 385, 386, 23, 387, 388, 389, 262, 264, 390, 32, 391, 392, 393, 200, 201, 202, 394, 395, 396, 159, 2, 160, 397, 398, 399, 400, 33, 401, 402, 403, 404, 405, 406, 407, 408, 301, 302, 303, 304, 308, 309, 310, 311, 312, 313, 314, 315, 316, 317, 567, 568, 569, 570, 571, 572, 573, 574, 575, 576, 577, 578, 579, 596, 597, 598, 599, 600] (by decide +kernel) (by decide +kernel)
set_option maxRecDepth 20000 in
theorem gL_law_X1_missing : GoodIn wsL_law (wsV RL 117 RX1 yX1_missing wsX1_missing) := goodIn_app (goodIn_of _ (by decide +kernel)) ggL_law_X1_missing
set_option maxRecDepth 20000 in
theorem ggL_law_X2_missing : GoodIn wsL_law wsX2_missing := goodIn_r _ [412, 94, 413, 414, 415, 5, 416, 109, 417, 306, 263, 307, 418, 419, 420, 421, 50, 51, 422, 423, 424, 425, 426, 427, 428, 429, 430, 431, 40, 38, 432, 262, 264, 173, 174, 175, 433, 434, 435, 436, 437, 438, 439, 440, 334, 335, 336, 337, 338, 339, 580, 581, 582, 583, 584, 585, 586, 587, 588, 589, 590, 591, 592, 593, 594, 595] (by decide +kernel) (by decide +kernel)
set_option maxRecDepth 20000 in
theorem gL_law_X2_missing : GoodIn wsL_law (wsV RL 120 RX2 yX2_missing wsX2_missing) := goodIn_app (goodIn_of _ (by decide +kernel)) ggL_law_X2_missing
set_option maxRecDepth 20000 in
theorem ggL_law_L_advice : GoodIn wsL_law wsL_advice := goodIn_ca (goodIn_r _ [443, 57, 444, 445, 446, 2, 447, 62, 63, 76, 14, 448, 381, 382, 383, 77, 24, 15, 305, 306, 263, 307, 384, 385, 386, 23, 387, 388, 389, 262, 264, 390, 32, 391, 392, 393, 200, 201, 202, 394, 395, 396, 159, 160, 397, 398, 399, 400, 33, 401, 402, 403, 404, 405, 406, 407, 408, 301, 302, 303, 304, 308, 309, 310, 311, 312, 313, 314, 315, 316, 317, 86, 87, 88, 89, 567, 568, 569, 570, 571, 572, 573, 574, 575, 576, 577, 578, 579, 596, 597, 598, 599, 600] (by decide +kernel) (by decide +kernel)) (goodIn_sub (fun _ h => List.mem_append_left _ (List.mem_append_left _ (List.mem_append_right _ h))) (by decide +kernel))
set_option maxRecDepth 20000 in
theorem gL_law_L_advice : GoodIn wsL_law (va_wsS RL 121 yL_advice wsL_advice) := goodIn_app (goodIn_of _ (by decide +kernel)) ggL_law_L_advice
set_option maxRecDepth 20000 in
theorem ggL_law_X2_advice : GoodIn wsL_law wsX2_advice := goodIn_r _ [452, 94, 38, 413, 414, 415, 5, 416, 109, 417, 306, 263, 307, 418, 419, 420, 421, 50, 51, 422, 423, 424, 425, 426, 427, 428, 429, 430, 431, 40, 432, 262, 264, 173, 174, 175, 433, 434, 435, 436, 437, 438, 439, 440, 334, 335, 336, 337, 338, 339, 101, 102, 103, 104, 580, 581, 582, 583, 584, 585, 586, 587, 588, 589, 590, 591, 592, 593, 594, 595] (by decide +kernel) (by decide +kernel)
set_option maxRecDepth 20000 in
theorem gL_law_X2_advice : GoodIn wsL_law (wsV RL 124 RX2 yX2_advice wsX2_advice) := goodIn_app (goodIn_of _ (by decide +kernel)) ggL_law_X2_advice
set_option maxRecDepth 20000 in
theorem ggL_law_L_setWinds : GoodIn wsL_law wsL_setWinds := goodIn_ca (goodIn_r _ [455, 151, 456, 457, 458, 2, 459, 156, 157, 25, 26, 460, 461, 462, 567, 568, 569, 570, 571, 572, 573, 574, 575, 576, 577, 578, 579] (by decide +kernel) (by decide +kernel)) (goodIn_sub (fun _ h => List.mem_append_right _ h) (by decide +kernel))
set_option maxRecDepth 20000 in
theorem gL_law_L_setWinds : GoodIn wsL_law (va_wsS RL 125 yL_setWinds wsL_setWinds) := goodIn_app (goodIn_of _ (by decide +kernel)) ggL_law_L_setWinds
set_option maxRecDepth 20000 in
theorem ggL_law_X2_setWinds : GoodIn wsL_law wsX2_setWinds := goodIn_r _ [466, 94, 44, 45, 98, 99, 5, 100, 101, 102, 103, 104, 580, 581, 582, 583, 584, 585, 586, 587, 588, 589, 590, 591, 592, 593, 594, 595] (by decide +kernel) (by decide +kernel)
set_option maxRecDepth 20000 in
theorem gL_law_X2_setWinds : GoodIn wsL_law (wsV RL 127 RX2 yX2_setWinds wsX2_setWinds) := goodIn_app (goodIn_of _ (by decide +kernel)) ggL_law_X2_setWinds
set_option maxRecDepth 20000 in
theorem ggL_law_L_setPoints : GoodIn wsL_law wsL_setPoints := goodIn_ca (goodIn_r _ [469, 151, 470, 471, 472, 2, 473, 156, 157, 28, 27, 567, 568, 569, 570, 571, 572, 573, 574, 575, 576, 577, 578, 579] (by decide +kernel) (by decide +kernel)) (goodIn_sub (fun _ h => List.mem_append_right _ h) (by decide +kernel))
set_option maxRecDepth 20000 in
theorem gL_law_L_setPoints : GoodIn wsL_law (va_wsS RL 128 yL_setPoints wsL_setPoints) := goodIn_app (goodIn_of _ (by decide +kernel)) ggL_law_L_setPoints
set_option maxRecDepth 20000 in
theorem ggL_law_X2_setPoints : GoodIn wsL_law wsX2_setPoints := goodIn_r _ [477, 94, 47, 46, 98, 99, 5, 100, 101, 102, 103, 104, 580, 581, 582, 583, 584, 585, 586, 587, 588, 589, 590, 591, 592, 593, 594, 595] (by decide +kernel) (by decide +kernel)
set_option maxRecDepth 20000 in
theorem gL_law_X2_setPoints : GoodIn wsL_law (wsV RL 130 RX2 yX2_setPoints wsX2_setPoints) := goodIn_app (goodIn_of _ (by decide +kernel)) ggL_law_X2_setPoints
set_option maxRecDepth 20000 in
theorem ggL_law_L_fans : GoodIn wsL_law wsL_fans := goodIn_ca (goodIn_r _ [480, 57, 481, 482, 483, 2, 484, 485, 486, 487, 488, 257, 258, 259, 260, 77, 261, 262, 263, 264, 72, 73, 74, 75, 76, 265, 266, 267, 268, 14, 269, 270, 271, 272, 273, 274, 275, 276, 277, 278, 279, 280, 17, 18, 281, 282, 283, 284, 285, 286, 287, 288, 25, 26, 289, 290, 291, 292, 293, 294, 295, 158, 159, 160, 296, 297, 298, 299, 300, 301, 302, 303, 304, 305, 306, 307, 308, 309, 310, 311, 312, 313, 314, 315, 316, 317, 489, 490, 491, 492, 15, 493, 494, 495, 496, 497, 498, 499, 500, 501, 502, 503, 20, 504, 505, 506, 62, 63, 567, 568, 569, 570, 571, 572, 573, 574, 575, 576, 577, 578, 579] (by decide +kernel) (by decide +kernel)) (goodIn_sub (fun _ h => List.mem_append_left _ (List.mem_append_left _ (List.mem_append_right _ h))) (by decide +kernel))
set_option maxRecDepth 20000 in
theorem gL_law_L_fans : GoodIn wsL_law (va_wsS RL 131 yL_fans wsL_fans) := goodIn_app (goodIn_of _ (by decide +kernel)) ggL_law_L_fans
set_option maxRecDepth 20000 in
theorem ggL_law_X2_fans : GoodIn wsL_law wsX2_fans := goodIn_r _ [510, 94, 322, 323, 324, 5, 325, 38, 105, 106, 107, 108, 109, 110, 111, 112, 113, 326, 327, 328, 329, 330, 331, 332, 333, 334, 335, 336, 337, 338, 339, 340, 341, 342, 343, 48, 344, 345, 346, 347, 49, 173, 174, 175, 511, 512, 513, 514, 432, 262, 263, 264, 515, 516, 517, 518, 41, 42, 519, 520, 521, 522, 44, 45, 523, 524, 525, 526, 43, 40, 527, 494, 495, 496, 497, 498, 499, 101, 102, 103, 104, 580, 581, 582, 583, 584, 585, 586, 587, 588, 589, 590, 591, 592, 593, 594, 595] (by decide +kernel) (by decide +kernel)
set_option maxRecDepth 20000 in
theorem gL_law_X2_fans : GoodIn wsL_law (wsV RL 134 RX2 yX2_fans wsX2_fans) := goodIn_app (goodIn_of _ (by decide +kernel)) ggL_law_X2_fans
set_option maxRecDepth 20000 in
theorem ggL_law_L_points : GoodIn wsL_law wsL_points := goodIn_ca (goodIn_r _ [530, 57, 531, 532, 533, 2, 534, 485, 486, 487, 488, 257, 258, 259, 260, 77, 261, 262, 263, 264, 72, 73, 74, 75, 76, 265, 266, 267, 268, 14, 269, 270, 271, 272, 273, 274, 275, 276, 277, 278, 279, 280, 17, 18, 281, 282, 283, 284, 285, 286, 287, 288, 25, 26, 289, 290, 291, 292, 293, 294, 295, 158, 159, 160, 296, 297, 298, 299, 300, 301, 302, 303, 304, 305, 306, 307, 308, 309, 310, 311, 312, 313, 314, 315, 316, 317, 489, 490, 491, 492, 15, 493, 494, 495, 496, 497, 498, 499, 500, 501, 502, 503, 20, 504, 505, 506, 62, 63, 535, 536, 537, 538, 27, 28, 567, 568, 569, 570, 571, 572, 573, 574, 575, 576, 577, 578, 579] (by decide +kernel) (by decide +kernel)) (goodIn_sub (fun _ h => List.mem_append_left _ (List.mem_append_left _ (List.mem_append_right _ h))) (by decide +kernel))
set_option maxRecDepth 20000 in
theorem gL_law_L_points : GoodIn wsL_law (va_wsS RL 135 yL_points wsL_points) := goodIn_app (goodIn_of _ (by decide +kernel)) ggL_law_L_points
set_option maxRecDepth 20000 in
theorem ggL_law_X2_points : GoodIn wsL_law wsX2_points := goodIn_r _ [542, 94, 322, 323, 324, 5, 325, 38, 105, 106, 107, 108, 109, 110, 111, 112, 113, 326, 327, 328, 329, 330, 331, 332, 333, 334, 335, 336, 337, 338, 339, 340, 341, 342, 343, 48, 344, 345, 346, 347, 49, 173, 174, 175, 543, 544, 545, 546, 46, 47, 417, 306, 263, 307, 511, 512, 513, 514, 432, 262, 264, 515, 516, 517, 518, 41, 42, 519, 520, 521, 522, 44, 45, 523, 524, 525, 526, 43, 40, 527, 494, 495, 496, 497, 498, 499, 101, 102, 103, 104, 580, 581, 582, 583, 584, 585, 586, 587, 588, 589, 590, 591, 592, 593, 594, 595] (by decide +kernel) (by decide +kernel)
set_option maxRecDepth 20000 in
theorem gL_law_X2_points : GoodIn wsL_law (wsV RL 137 RX2 yX2_points wsX2_points) := goodIn_app (goodIn_of _ (by decide +kernel)) ggL_law_X2_points
set_option maxRecDepth 20000 in
theorem ggL_law_X1_meanPoints : GoodIn wsL_law wsX1_meanPoints := goodIn_r _ [550, 368, 349, 350, 2, 351, 14, 15, 72, 73, 74, 75, 76, 77, 86, 87, 88, 89, 257, 258, 259, 260, 261, 262, 263, 264, 265, 266, 267, 268, 269, 270, 271, 272, 273, 274, 275, 276, 277, 278, 279, 280, 17, 18, 281, 282, 283, 284, 285, 286, 287, 288, 25, 26, 289, 290, 291, 292, 293, 294, 295, 158, 159, 160, 296, 297, 298, 299, 300, 301, 302, 303, 304, 305, 306, 307, 308, 309, 310, 311, 312, 313, 314, 315, 316, 317, 82, 83, 84, 85, 16, 369, 370, 371, 485, 486, 487, 488, 489, 490, 491, 492, 493, 494, 495, 496, 497, 498, 499, 500, 501, 502, 503, 20, 535, 536, 537, 538, 27, 28, 567, 568, 569, 570, 571, 572, 573, 574, 575, 576, 577, 578, 579] (by decide +kernel) (by decide +kernel)
set_option maxRecDepth 20000 in
theorem gL_law_X1_meanPoints : GoodIn wsL_law (wsV RL 138 RX1 yX1_meanPoints wsX1_meanPoints) := goodIn_app (goodIn_of _ (by decide +kernel)) ggL_law_X1_meanPoints
set_option maxRecDepth 20000 in
theorem ggL_law_X2_meanPoints : GoodIn wsL_law wsX2_meanPoints := goodIn_r _ [554, 94, 38, 356, 357, 358, 5, 359, 360, 361, 362, 363, 40, 105, 106, 107, 108, 109, 110, 111, 112, 113, 322, 323, 324, 325, 326, 327, 328, 329, 330, 331, 332, 333, 334, 335, 336, 337, 338, 339, 340, 341, 342, 343, 48, 344, 345, 346, 347, 49, 173, 174, 175, 376, 377, 378, 379, 114, 115, 116, 117, 39, 543, 544, 545, 546, 46, 47, 417, 306, 263, 307, 511, 512, 513, 514, 432, 262, 264, 515, 516, 517, 518, 41, 42, 519, 520, 521, 522, 44, 45, 523, 524, 525, 526, 43, 527, 494, 495, 496, 497, 498, 499, 580, 581, 582, 583, 584, 585, 586, 587, 588, 589, 590, 591, 592, 593, 594, 595] (by decide +kernel) (by decide +kernel)
set_option maxRecDepth 20000 in
theorem gL_law_X2_meanPoints : GoodIn wsL_law (wsV RL 142 RX2 yX2_meanPoints wsX2_meanPoints) := goodIn_app (goodIn_of _ (by decide +kernel)) ggL_law_X2_meanPoints
set_option maxRecDepth 20000 in
theorem ggL_law_X1_digest : GoodIn wsL_law wsX1_digest := goodIn_r _ [558, 559, 560, 14, 16, 77, 25, 26, 27, 28, 241, 242, 243, 2, 244, 17, 18, 20, 368, 349, 350, 351, 15, 72, 73, 74, 75, 76, 86, 87, 88, 89, 257, 258, 259, 260, 261, 262, 263, 264, 265, 266, 267, 268, 269, 270, 271, 272, 273, 274, 275, 276, 277, 278, 279, 280, 281, 282, 283, 284, 285, 286, 287, 288, 289, 290, 291, 292, 293, 294, 295, 158, 159, 160, 296, 297, 298, 299, 300, 301, 302, 303, 304, 305, 306, 307, 308, 309, 310, 311, 312, 313, 314, 315, 316, 317, 448, 381, 382, 383, 24, 384, 385, 386, 23, 387, 388, 389, 390, 32, 391, 392, 393, 200, 201, 202, 394, 395, 396, 397, 398, 399, 400, 33, 401, 402, 403, 404, 405, 406, 407, 408, 567, 568, 569, 570, 571, 572, 573, 574, 575, 576, 577, 578, 579, 596, 597, 598, 599, 600] (by decide +kernel) (by decide +kernel)
set_option maxRecDepth 20000 in
theorem gL_law_X1_digest : GoodIn wsL_law (wsV RL 143 RX1 yX1_digest wsX1_digest) := goodIn_app (goodIn_of _ (by decide +kernel)) ggL_law_X1_digest
set_option maxRecDepth 20000 in
theorem ggL_law_X2_digest : GoodIn wsL_law wsX2_digest := goodIn_r _ [564, 94, 565, 566, 38, 39, 109, 44, 45, 46, 47, 249, 250, 251, 5, 252, 41, 42, 43, 356, 357, 358, 359, 360, 361, 362, 363, 40, 105, 106, 107, 108, 110, 111, 112, 113, 322, 323, 324, 325, 326, 327, 328, 329, 330, 331, 332, 333, 334, 335, 336, 337, 338, 339, 340, 341, 342, 343, 48, 344, 345, 346, 347, 49, 173, 174, 175, 413, 414, 415, 416, 417, 306, 263, 307, 418, 419, 420, 421, 50, 51, 422, 423, 424, 425, 426, 427, 428, 429, 430, 431, 432, 262, 264, 433, 434, 435, 436, 437, 438, 439, 440, 580, 581, 582, 583, 584, 585, 586, 587, 588, 589, 590, 591, 592, 593, 594, 595] (by decide +kernel) (by decide +kernel)
set_option maxRecDepth 20000 in
theorem gL_law_X2_digest : GoodIn wsL_law (wsV RL 146 RX2 yX2_digest wsX2_digest) := goodIn_app (goodIn_of _ (by decide +kernel)) ggL_law_X2_digest
theorem inlX0 : ∀ w ∈ wsX00, w ∈ wsL_law := fun _ h => List.mem_append_left _ (List.mem_append_left _ (List.mem_append_left _ (List.mem_append_left _ (List.mem_append_right _ h))))
theorem inX0 : ∀ w ∈ wsX00, w ∈ lw_tbl := fun w h => wsL_law_in w (inlX0 w h)
theorem inlX1 : ∀ w ∈ wsX10, w ∈ wsL_law := fun _ h => List.mem_append_left _ (List.mem_append_left _ (List.mem_append_left _ (List.mem_append_left _ (List.mem_append_left _ (List.mem_append_left _ (List.mem_append_right _ h))))))
theorem inX1 : ∀ w ∈ wsX10, w ∈ lw_tbl := fun w h => wsL_law_in w (inlX1 w h)
theorem inlX2 : ∀ w ∈ wsX20, w ∈ wsL_law := fun _ h => List.mem_append_left _ (List.mem_append_left _ (List.mem_append_left _ (List.mem_append_left _ (List.mem_append_left _ (List.mem_append_right _ h)))))
theorem inX2 : ∀ w ∈ wsX20, w ∈ lw_tbl := fun w h => wsL_law_in w (inlX2 w h)
theorem inJx145de : ∀ w ∈ wsJx145de0, w ∈ lw_tbl := by decide +kernel
theorem inJ6 : ∀ w ∈ wsJ60, w ∈ lw_tbl := by decide +kernel
theorem inJ9 : ∀ w ∈ wsJ90, w ∈ lw_tbl := by decide +kernel
theorem inJ0 : ∀ w ∈ wsJ00, w ∈ lw_tbl := by decide +kernel
theorem inJ10 : ∀ w ∈ wsJ100, w ∈ lw_tbl := by decide +kernel
theorem inJ7 : ∀ w ∈ wsJ70, w ∈ lw_tbl := by decide +kernel
