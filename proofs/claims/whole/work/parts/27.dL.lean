set_option maxRecDepth 20000 in
theorem ggL_setGrey_X4_setGrey : GoodIn wsL_setGrey wsX4_setGrey := goodIn_ca (goodIn_ca (goodIn_r _ [7, 8, 9, 10, 11, 6, 12, 13, 14, 15, 16, 17, 18, 19, 20, 21, 22, 23, 24, 25, 26, 27, 28, 29, 30, 31, 32, 33, 34, 35, 36, 37, 38, 39, 40, 41, 42, 43, 44, 45, 46, 47, 48, 49, 50, 51, 52, 53, 54, 55, 56, 57, 58, 59, 60, 61, 62, 63, 64, 65, 66, 67, 68] (by decide +kernel) (by decide +kernel)) (goodIn_sub (fun _ h => List.mem_cons_of_mem _ (List.mem_append_left _ (List.mem_append_right _ h))) (by decide +kernel))) (goodIn_sub (fun _ h => List.mem_cons_of_mem _ (List.mem_append_right _ h)) (by decide +kernel))
set_option maxRecDepth 20000 in
theorem gL_setGrey_X4_setGrey : GoodIn wsL_setGrey (wsV RL 7 RX4 yX4_setGrey wsX4_setGrey) := goodIn_app (goodIn_of _ (by decide +kernel)) ggL_setGrey_X4_setGrey
theorem dL_setGrey_0 : decode cL_setGrey 0 = .ok (.aload_n 3, 1) := by decide +kernel
theorem dL_setGrey_1 : decode cL_setGrey 1 = .ok (.iconst 0, 1) := by decide +kernel
theorem dL_setGrey_2 : decode cL_setGrey 2 = .ok (.aload_n 0, 1) := by decide +kernel
theorem dL_setGrey_3 : decode cL_setGrey 3 = .ok (.iload_n 1, 1) := by decide +kernel
theorem dL_setGrey_4 : decode cL_setGrey 4 = .ok (.iload_n 2, 1) := by decide +kernel
theorem dL_setGrey_5 : decode cL_setGrey 5 = .ok (.invokevirtual 7, 3) := by decide +kernel
theorem dL_setGrey_8 : decode cL_setGrey 8 = .ok (.i2l, 1) := by decide +kernel
theorem dL_setGrey_9 : decode cL_setGrey 9 = .ok (.lastore, 1) := by decide +kernel
theorem dL_setGrey_10 : decode cL_setGrey 10 = .ok (.goto 11, 3) := by decide +kernel
theorem dL_setGrey_13 : decode cL_setGrey 13 = .ok (.astore 4, 2) := by decide +kernel
theorem dL_setGrey_15 : decode cL_setGrey 15 = .ok (.iconst 1, 1) := by decide +kernel
theorem dL_setGrey_16 : decode cL_setGrey 16 = .ok (.ireturn, 1) := by decide +kernel
theorem dL_setGrey_17 : decode cL_setGrey 17 = .ok (.astore 4, 2) := by decide +kernel
theorem dL_setGrey_19 : decode cL_setGrey 19 = .ok (.iconst 2, 1) := by decide +kernel
theorem dL_setGrey_20 : decode cL_setGrey 20 = .ok (.ireturn, 1) := by decide +kernel
theorem dL_setGrey_21 : decode cL_setGrey 21 = .ok (.iconst 0, 1) := by decide +kernel
theorem dL_setGrey_22 : decode cL_setGrey 22 = .ok (.ireturn, 1) := by decide +kernel
set_option maxRecDepth 20000 in
theorem ggL_shadeRow_X4_shadeRow : GoodIn wsL_shadeRow wsX4_shadeRow := goodIn_ca (goodIn_ca (goodIn_r _ [7, 8, 9, 10, 11, 6, 12, 13, 14, 15, 16, 17, 18, 19, 20, 21, 22, 23, 24, 25, 26, 27, 28, 29, 30, 31, 32, 33, 34, 35, 36, 37, 38, 39, 40, 41, 42, 43, 44, 45, 46, 47, 48, 49, 50, 51, 52, 53, 54, 55, 56, 57, 58, 59, 60, 61, 62] (by decide +kernel) (by decide +kernel)) (goodIn_sub (fun _ h => List.mem_cons_of_mem _ (List.mem_append_left _ (List.mem_append_right _ h))) (by decide +kernel))) (goodIn_sub (fun _ h => List.mem_cons_of_mem _ (List.mem_append_right _ h)) (by decide +kernel))
set_option maxRecDepth 20000 in
theorem gL_shadeRow_X4_shadeRow : GoodIn wsL_shadeRow (wsV RL 17 RX4 yX4_shadeRow wsX4_shadeRow) := goodIn_app (goodIn_of _ (by decide +kernel)) ggL_shadeRow_X4_shadeRow
theorem dL_shadeRow_0 : decode cL_shadeRow 0 = .ok (.aload 4, 2) := by decide +kernel
theorem dL_shadeRow_2 : decode cL_shadeRow 2 = .ok (.iconst 0, 1) := by decide +kernel
theorem dL_shadeRow_3 : decode cL_shadeRow 3 = .ok (.aload_n 0, 1) := by decide +kernel
theorem dL_shadeRow_4 : decode cL_shadeRow 4 = .ok (.iload_n 1, 1) := by decide +kernel
theorem dL_shadeRow_5 : decode cL_shadeRow 5 = .ok (.iload_n 2, 1) := by decide +kernel
theorem dL_shadeRow_6 : decode cL_shadeRow 6 = .ok (.iload_n 3, 1) := by decide +kernel
theorem dL_shadeRow_7 : decode cL_shadeRow 7 = .ok (.invokevirtual 17, 3) := by decide +kernel
theorem dL_shadeRow_10 : decode cL_shadeRow 10 = .ok (.i2l, 1) := by decide +kernel
theorem dL_shadeRow_11 : decode cL_shadeRow 11 = .ok (.lastore, 1) := by decide +kernel
theorem dL_shadeRow_12 : decode cL_shadeRow 12 = .ok (.goto 11, 3) := by decide +kernel
theorem dL_shadeRow_15 : decode cL_shadeRow 15 = .ok (.astore 5, 2) := by decide +kernel
theorem dL_shadeRow_17 : decode cL_shadeRow 17 = .ok (.iconst 1, 1) := by decide +kernel
theorem dL_shadeRow_18 : decode cL_shadeRow 18 = .ok (.ireturn, 1) := by decide +kernel
theorem dL_shadeRow_19 : decode cL_shadeRow 19 = .ok (.astore 5, 2) := by decide +kernel
theorem dL_shadeRow_21 : decode cL_shadeRow 21 = .ok (.iconst 2, 1) := by decide +kernel
theorem dL_shadeRow_22 : decode cL_shadeRow 22 = .ok (.ireturn, 1) := by decide +kernel
theorem dL_shadeRow_23 : decode cL_shadeRow 23 = .ok (.iconst 0, 1) := by decide +kernel
theorem dL_shadeRow_24 : decode cL_shadeRow 24 = .ok (.ireturn, 1) := by decide +kernel
set_option maxRecDepth 20000 in
theorem ggL_fill_X4_fill : GoodIn wsL_fill wsX4_fill := goodIn_ca (goodIn_ca (goodIn_r _ [7, 8, 9, 10, 11, 12, 13, 14, 15, 6, 16, 17, 18, 19, 20, 21, 22, 23, 24, 25, 26, 27, 28, 29, 30, 31, 32, 33, 34, 35, 36, 37, 38, 39, 40, 41, 42, 43, 44, 45, 46, 47, 48, 49, 50, 51, 52, 53, 54, 55, 56, 57, 58, 59, 60, 61, 62, 63, 64, 65, 66, 67, 68, 69, 70, 71, 72, 73, 74, 75] (by decide +kernel) (by decide +kernel)) (goodIn_sub (fun _ h => List.mem_cons_of_mem _ (List.mem_append_left _ (List.mem_append_right _ h))) (by decide +kernel))) (goodIn_sub (fun _ h => List.mem_cons_of_mem _ (List.mem_append_right _ h)) (by decide +kernel))
set_option maxRecDepth 20000 in
theorem gL_fill_X4_fill : GoodIn wsL_fill (wsV RL 21 RX4 yX4_fill wsX4_fill) := goodIn_app (goodIn_of _ (by decide +kernel)) ggL_fill_X4_fill
theorem dL_fill_0 : decode cL_fill 0 = .ok (.aload 5, 2) := by decide +kernel
theorem dL_fill_2 : decode cL_fill 2 = .ok (.iconst 0, 1) := by decide +kernel
theorem dL_fill_3 : decode cL_fill 3 = .ok (.aload_n 0, 1) := by decide +kernel
theorem dL_fill_4 : decode cL_fill 4 = .ok (.iload_n 1, 1) := by decide +kernel
theorem dL_fill_5 : decode cL_fill 5 = .ok (.iload_n 2, 1) := by decide +kernel
theorem dL_fill_6 : decode cL_fill 6 = .ok (.iload_n 3, 1) := by decide +kernel
theorem dL_fill_7 : decode cL_fill 7 = .ok (.iload 4, 2) := by decide +kernel
theorem dL_fill_9 : decode cL_fill 9 = .ok (.invokevirtual 21, 3) := by decide +kernel
theorem dL_fill_12 : decode cL_fill 12 = .ok (.i2l, 1) := by decide +kernel
theorem dL_fill_13 : decode cL_fill 13 = .ok (.lastore, 1) := by decide +kernel
theorem dL_fill_14 : decode cL_fill 14 = .ok (.goto 11, 3) := by decide +kernel
theorem dL_fill_17 : decode cL_fill 17 = .ok (.astore 6, 2) := by decide +kernel
theorem dL_fill_19 : decode cL_fill 19 = .ok (.iconst 1, 1) := by decide +kernel
theorem dL_fill_20 : decode cL_fill 20 = .ok (.ireturn, 1) := by decide +kernel
theorem dL_fill_21 : decode cL_fill 21 = .ok (.astore 6, 2) := by decide +kernel
theorem dL_fill_23 : decode cL_fill 23 = .ok (.iconst 2, 1) := by decide +kernel
theorem dL_fill_24 : decode cL_fill 24 = .ok (.ireturn, 1) := by decide +kernel
theorem dL_fill_25 : decode cL_fill 25 = .ok (.iconst 0, 1) := by decide +kernel
theorem dL_fill_26 : decode cL_fill 26 = .ok (.ireturn, 1) := by decide +kernel
set_option maxRecDepth 20000 in
theorem ggL_thaw_X4_thaw : GoodIn wsL_thaw wsX4_thaw := goodIn_ca (goodIn_r _ [6, 7, 8, 9, 10, 5, 11, 12, 13, 14, 15, 16, 17, 18, 19, 20, 21, 22, 23, 24, 25, 26, 27, 28, 29, 30, 31, 32, 33, 34, 35, 36, 37, 38, 39, 40, 41, 42, 43, 44, 45, 46, 47, 48, 49, 50, 51, 52, 53, 54, 55, 56, 57, 58, 59, 60, 61, 62, 63, 64] (by decide +kernel) (by decide +kernel)) (goodIn_sub (fun _ h => List.mem_cons_of_mem _ (List.mem_append_right _ h)) (by decide +kernel))
set_option maxRecDepth 20000 in
theorem gL_thaw_X4_thaw : GoodIn wsL_thaw (wsV RL 25 RX4 yX4_thaw wsX4_thaw) := goodIn_app (goodIn_of _ (by decide +kernel)) ggL_thaw_X4_thaw
theorem dL_thaw_0 : decode cL_thaw 0 = .ok (.aload_n 2, 1) := by decide +kernel
theorem dL_thaw_1 : decode cL_thaw 1 = .ok (.iconst 0, 1) := by decide +kernel
theorem dL_thaw_2 : decode cL_thaw 2 = .ok (.aload_n 0, 1) := by decide +kernel
theorem dL_thaw_3 : decode cL_thaw 3 = .ok (.iload_n 1, 1) := by decide +kernel
theorem dL_thaw_4 : decode cL_thaw 4 = .ok (.invokevirtual 25, 3) := by decide +kernel
theorem dL_thaw_7 : decode cL_thaw 7 = .ok (.i2l, 1) := by decide +kernel
theorem dL_thaw_8 : decode cL_thaw 8 = .ok (.lastore, 1) := by decide +kernel
theorem dL_thaw_9 : decode cL_thaw 9 = .ok (.goto 6, 3) := by decide +kernel
theorem dL_thaw_12 : decode cL_thaw 12 = .ok (.astore_n 3, 1) := by decide +kernel
theorem dL_thaw_13 : decode cL_thaw 13 = .ok (.iconst 1, 1) := by decide +kernel
theorem dL_thaw_14 : decode cL_thaw 14 = .ok (.ireturn, 1) := by decide +kernel
theorem dL_thaw_15 : decode cL_thaw 15 = .ok (.iconst 0, 1) := by decide +kernel
theorem dL_thaw_16 : decode cL_thaw 16 = .ok (.ireturn, 1) := by decide +kernel
set_option maxRecDepth 20000 in
theorem ggL_setRule_X4_setRule : GoodIn wsL_setRule wsX4_setRule := goodIn_ca (goodIn_r _ [6, 7, 8, 9, 10, 11, 5, 12, 13, 14, 15, 16, 17, 18, 19, 20, 21, 22, 23, 24, 25, 26, 27, 28, 29, 30, 31, 32, 33, 34, 35, 36, 37, 38, 39, 40, 41, 42, 43, 44, 45, 46, 47, 48, 49, 50, 51, 52, 53] (by decide +kernel) (by decide +kernel)) (goodIn_sub (fun _ h => List.mem_cons_of_mem _ (List.mem_append_right _ h)) (by decide +kernel))
set_option maxRecDepth 20000 in
theorem gL_setRule_X4_setRule : GoodIn wsL_setRule (wsV RL 29 RX4 yX4_setRule wsX4_setRule) := goodIn_app (goodIn_of _ (by decide +kernel)) ggL_setRule_X4_setRule
theorem dL_setRule_0 : decode cL_setRule 0 = .ok (.aload_n 2, 1) := by decide +kernel
theorem dL_setRule_1 : decode cL_setRule 1 = .ok (.iconst 0, 1) := by decide +kernel
theorem dL_setRule_2 : decode cL_setRule 2 = .ok (.aload_n 0, 1) := by decide +kernel
theorem dL_setRule_3 : decode cL_setRule 3 = .ok (.iload_n 1, 1) := by decide +kernel
theorem dL_setRule_4 : decode cL_setRule 4 = .ok (.invokevirtual 29, 3) := by decide +kernel
theorem dL_setRule_7 : decode cL_setRule 7 = .ok (.i2l, 1) := by decide +kernel
theorem dL_setRule_8 : decode cL_setRule 8 = .ok (.lastore, 1) := by decide +kernel
theorem dL_setRule_9 : decode cL_setRule 9 = .ok (.goto 6, 3) := by decide +kernel
theorem dL_setRule_12 : decode cL_setRule 12 = .ok (.astore_n 3, 1) := by decide +kernel
theorem dL_setRule_13 : decode cL_setRule 13 = .ok (.iconst 1, 1) := by decide +kernel
theorem dL_setRule_14 : decode cL_setRule 14 = .ok (.ireturn, 1) := by decide +kernel
theorem dL_setRule_15 : decode cL_setRule 15 = .ok (.iconst 0, 1) := by decide +kernel
theorem dL_setRule_16 : decode cL_setRule 16 = .ok (.ireturn, 1) := by decide +kernel
set_option maxRecDepth 20000 in
theorem ggL_setThreshold_X4_setThreshold : GoodIn wsL_setThreshold wsX4_setThreshold := goodIn_ca (goodIn_r _ [6, 7, 8, 9, 10, 11, 5, 12, 13, 14, 15, 16, 17, 18, 19, 20, 21, 22, 23, 24, 25, 26, 27, 28, 29, 30, 31, 32, 33, 34, 35, 36, 37, 38, 39, 40, 41, 42, 43, 44, 45, 46, 47, 48, 49, 50] (by decide +kernel) (by decide +kernel)) (goodIn_sub (fun _ h => List.mem_cons_of_mem _ (List.mem_append_right _ h)) (by decide +kernel))
set_option maxRecDepth 20000 in
theorem gL_setThreshold_X4_setThreshold : GoodIn wsL_setThreshold (wsV RL 32 RX4 yX4_setThreshold wsX4_setThreshold) := goodIn_app (goodIn_of _ (by decide +kernel)) ggL_setThreshold_X4_setThreshold
theorem dL_setThreshold_0 : decode cL_setThreshold 0 = .ok (.aload_n 2, 1) := by decide +kernel
theorem dL_setThreshold_1 : decode cL_setThreshold 1 = .ok (.iconst 0, 1) := by decide +kernel
theorem dL_setThreshold_2 : decode cL_setThreshold 2 = .ok (.aload_n 0, 1) := by decide +kernel
theorem dL_setThreshold_3 : decode cL_setThreshold 3 = .ok (.iload_n 1, 1) := by decide +kernel
theorem dL_setThreshold_4 : decode cL_setThreshold 4 = .ok (.invokevirtual 32, 3) := by decide +kernel
theorem dL_setThreshold_7 : decode cL_setThreshold 7 = .ok (.i2l, 1) := by decide +kernel
theorem dL_setThreshold_8 : decode cL_setThreshold 8 = .ok (.lastore, 1) := by decide +kernel
theorem dL_setThreshold_9 : decode cL_setThreshold 9 = .ok (.goto 6, 3) := by decide +kernel
theorem dL_setThreshold_12 : decode cL_setThreshold 12 = .ok (.astore_n 3, 1) := by decide +kernel
theorem dL_setThreshold_13 : decode cL_setThreshold 13 = .ok (.iconst 1, 1) := by decide +kernel
theorem dL_setThreshold_14 : decode cL_setThreshold 14 = .ok (.ireturn, 1) := by decide +kernel
theorem dL_setThreshold_15 : decode cL_setThreshold 15 = .ok (.iconst 0, 1) := by decide +kernel
theorem dL_setThreshold_16 : decode cL_setThreshold 16 = .ok (.ireturn, 1) := by decide +kernel
set_option maxRecDepth 20000 in
theorem ggL_greyOf_X4_greyOf : GoodIn wsL_greyOf wsX4_greyOf := goodIn_ca (goodIn_r _ [6, 7, 8, 9, 10, 5, 11, 12, 13, 14, 15, 16, 17, 18, 19, 20, 21, 22, 23, 24, 25, 26, 27, 28, 29] (by decide +kernel) (by decide +kernel)) (goodIn_sub (fun _ h => List.mem_cons_of_mem _ (List.mem_append_right _ h)) (by decide +kernel))
set_option maxRecDepth 20000 in
theorem gL_greyOf_X4_greyOf : GoodIn wsL_greyOf (wsV RL 35 RX4 yX4_greyOf wsX4_greyOf) := goodIn_app (goodIn_of _ (by decide +kernel)) ggL_greyOf_X4_greyOf
theorem dL_greyOf_0 : decode cL_greyOf 0 = .ok (.aload_n 2, 1) := by decide +kernel
theorem dL_greyOf_1 : decode cL_greyOf 1 = .ok (.iconst 0, 1) := by decide +kernel
theorem dL_greyOf_2 : decode cL_greyOf 2 = .ok (.aload_n 0, 1) := by decide +kernel
theorem dL_greyOf_3 : decode cL_greyOf 3 = .ok (.iload_n 1, 1) := by decide +kernel
theorem dL_greyOf_4 : decode cL_greyOf 4 = .ok (.invokevirtual 35, 3) := by decide +kernel
theorem dL_greyOf_7 : decode cL_greyOf 7 = .ok (.i2l, 1) := by decide +kernel
theorem dL_greyOf_8 : decode cL_greyOf 8 = .ok (.lastore, 1) := by decide +kernel
theorem dL_greyOf_9 : decode cL_greyOf 9 = .ok (.goto 6, 3) := by decide +kernel
theorem dL_greyOf_12 : decode cL_greyOf 12 = .ok (.astore_n 3, 1) := by decide +kernel
theorem dL_greyOf_13 : decode cL_greyOf 13 = .ok (.iconst 1, 1) := by decide +kernel
theorem dL_greyOf_14 : decode cL_greyOf 14 = .ok (.ireturn, 1) := by decide +kernel
theorem dL_greyOf_15 : decode cL_greyOf 15 = .ok (.iconst 0, 1) := by decide +kernel
theorem dL_greyOf_16 : decode cL_greyOf 16 = .ok (.ireturn, 1) := by decide +kernel
set_option maxRecDepth 20000 in
theorem ggL_cellAt_X4_cellAt : GoodIn wsL_cellAt wsX4_cellAt := goodIn_ca (goodIn_r _ [6, 7, 8, 9, 5, 10, 11, 12, 13, 14, 15, 16, 17, 18, 19, 20, 21, 22, 23, 24, 25, 26, 27, 28, 29, 30, 31, 32] (by decide +kernel) (by decide +kernel)) (goodIn_sub (fun _ h => List.mem_cons_of_mem _ (List.mem_append_right _ h)) (by decide +kernel))
set_option maxRecDepth 20000 in
theorem gL_cellAt_X4_cellAt : GoodIn wsL_cellAt (wsV RL 38 RX4 yX4_cellAt wsX4_cellAt) := goodIn_app (goodIn_of _ (by decide +kernel)) ggL_cellAt_X4_cellAt
theorem dL_cellAt_0 : decode cL_cellAt 0 = .ok (.aload_n 2, 1) := by decide +kernel
theorem dL_cellAt_1 : decode cL_cellAt 1 = .ok (.iconst 0, 1) := by decide +kernel
theorem dL_cellAt_2 : decode cL_cellAt 2 = .ok (.aload_n 0, 1) := by decide +kernel
theorem dL_cellAt_3 : decode cL_cellAt 3 = .ok (.iload_n 1, 1) := by decide +kernel
theorem dL_cellAt_4 : decode cL_cellAt 4 = .ok (.invokevirtual 38, 3) := by decide +kernel
theorem dL_cellAt_7 : decode cL_cellAt 7 = .ok (.i2l, 1) := by decide +kernel
theorem dL_cellAt_8 : decode cL_cellAt 8 = .ok (.lastore, 1) := by decide +kernel
theorem dL_cellAt_9 : decode cL_cellAt 9 = .ok (.goto 6, 3) := by decide +kernel
theorem dL_cellAt_12 : decode cL_cellAt 12 = .ok (.astore_n 3, 1) := by decide +kernel
theorem dL_cellAt_13 : decode cL_cellAt 13 = .ok (.iconst 1, 1) := by decide +kernel
theorem dL_cellAt_14 : decode cL_cellAt 14 = .ok (.ireturn, 1) := by decide +kernel
theorem dL_cellAt_15 : decode cL_cellAt 15 = .ok (.iconst 0, 1) := by decide +kernel
theorem dL_cellAt_16 : decode cL_cellAt 16 = .ok (.ireturn, 1) := by decide +kernel
set_option maxRecDepth 20000 in
theorem ggL_valueOf_X4_valueOf : GoodIn wsL_valueOf wsX4_valueOf := goodIn_ca (goodIn_r _ [6, 7, 8, 9, 10, 5, 11, 12, 13, 14, 15, 16, 17, 18, 19, 20, 21, 22, 23, 24, 25, 26, 27, 28, 29, 30, 31, 32, 33, 34, 35, 36, 37, 38, 39, 40, 41, 42, 43, 44, 45, 46, 47, 48, 49, 50, 51, 52, 53, 54, 55, 56, 57, 58, 59, 60, 61, 62, 63, 64, 65, 66, 67, 68, 69, 70, 71, 72, 73, 74, 75, 76, 77, 78, 79, 80, 81, 82, 83, 84] (by decide +kernel) (by decide +kernel)) (goodIn_sub (fun _ h => List.mem_cons_of_mem _ (List.mem_append_right _ h)) (by decide +kernel))
set_option maxRecDepth 20000 in
theorem gL_valueOf_X4_valueOf : GoodIn wsL_valueOf (wsV RL 41 RX4 yX4_valueOf wsX4_valueOf) := goodIn_app (goodIn_of _ (by decide +kernel)) ggL_valueOf_X4_valueOf
theorem dL_valueOf_0 : decode cL_valueOf 0 = .ok (.aload_n 2, 1) := by decide +kernel
theorem dL_valueOf_1 : decode cL_valueOf 1 = .ok (.iconst 0, 1) := by decide +kernel
theorem dL_valueOf_2 : decode cL_valueOf 2 = .ok (.aload_n 0, 1) := by decide +kernel
theorem dL_valueOf_3 : decode cL_valueOf 3 = .ok (.iload_n 1, 1) := by decide +kernel
theorem dL_valueOf_4 : decode cL_valueOf 4 = .ok (.invokevirtual 41, 3) := by decide +kernel
theorem dL_valueOf_7 : decode cL_valueOf 7 = .ok (.i2l, 1) := by decide +kernel
theorem dL_valueOf_8 : decode cL_valueOf 8 = .ok (.lastore, 1) := by decide +kernel
theorem dL_valueOf_9 : decode cL_valueOf 9 = .ok (.goto 6, 3) := by decide +kernel
theorem dL_valueOf_12 : decode cL_valueOf 12 = .ok (.astore_n 3, 1) := by decide +kernel
theorem dL_valueOf_13 : decode cL_valueOf 13 = .ok (.iconst 1, 1) := by decide +kernel
theorem dL_valueOf_14 : decode cL_valueOf 14 = .ok (.ireturn, 1) := by decide +kernel
theorem dL_valueOf_15 : decode cL_valueOf 15 = .ok (.iconst 0, 1) := by decide +kernel
theorem dL_valueOf_16 : decode cL_valueOf 16 = .ok (.ireturn, 1) := by decide +kernel
set_option maxRecDepth 20000 in
theorem ggL_errorOf_X4_errorOf : GoodIn wsL_errorOf wsX4_errorOf := goodIn_ca (goodIn_r _ [6, 7, 8, 9, 10, 5, 11, 12, 13, 14, 15, 16, 17, 18, 19, 20, 21, 22, 23, 24, 25, 26, 27, 28, 29, 30, 31, 32, 33, 34, 35, 36, 37, 38, 39, 40, 41, 42, 43, 44, 45, 46, 47, 48, 49, 50, 51, 52, 53, 54, 55, 56, 57, 58, 59, 60, 61, 62, 63, 64, 65, 66, 67, 68, 69, 70, 71, 72, 73, 74, 75, 76, 77, 78, 79, 80, 81, 82, 83, 84] (by decide +kernel) (by decide +kernel)) (goodIn_sub (fun _ h => List.mem_cons_of_mem _ (List.mem_append_right _ h)) (by decide +kernel))
set_option maxRecDepth 20000 in
theorem gL_errorOf_X4_errorOf : GoodIn wsL_errorOf (wsV RL 44 RX4 yX4_errorOf wsX4_errorOf) := goodIn_app (goodIn_of _ (by decide +kernel)) ggL_errorOf_X4_errorOf
theorem dL_errorOf_0 : decode cL_errorOf 0 = .ok (.aload_n 2, 1) := by decide +kernel
theorem dL_errorOf_1 : decode cL_errorOf 1 = .ok (.iconst 0, 1) := by decide +kernel
theorem dL_errorOf_2 : decode cL_errorOf 2 = .ok (.aload_n 0, 1) := by decide +kernel
theorem dL_errorOf_3 : decode cL_errorOf 3 = .ok (.iload_n 1, 1) := by decide +kernel
theorem dL_errorOf_4 : decode cL_errorOf 4 = .ok (.invokevirtual 44, 3) := by decide +kernel
theorem dL_errorOf_7 : decode cL_errorOf 7 = .ok (.i2l, 1) := by decide +kernel
theorem dL_errorOf_8 : decode cL_errorOf 8 = .ok (.lastore, 1) := by decide +kernel
theorem dL_errorOf_9 : decode cL_errorOf 9 = .ok (.goto 6, 3) := by decide +kernel
theorem dL_errorOf_12 : decode cL_errorOf 12 = .ok (.astore_n 3, 1) := by decide +kernel
theorem dL_errorOf_13 : decode cL_errorOf 13 = .ok (.iconst 1, 1) := by decide +kernel
theorem dL_errorOf_14 : decode cL_errorOf 14 = .ok (.ireturn, 1) := by decide +kernel
theorem dL_errorOf_15 : decode cL_errorOf 15 = .ok (.iconst 0, 1) := by decide +kernel
theorem dL_errorOf_16 : decode cL_errorOf 16 = .ok (.ireturn, 1) := by decide +kernel
set_option maxRecDepth 20000 in
theorem ggL_handedOn_X4_handedOn : GoodIn wsL_handedOn wsX4_handedOn := goodIn_ca (goodIn_r _ [6, 7, 8, 9, 10, 11, 12, 13, 5, 14, 15, 16, 17, 18, 19, 20, 21, 22, 23, 24, 25, 26, 27, 28, 29, 30, 31, 32, 33, 34, 35, 36, 37, 38, 39, 40, 41, 42, 43, 44, 45, 46, 47, 48, 49, 50, 51, 52, 53, 54, 55, 56, 57, 58, 59, 60, 61, 62, 63, 64, 65, 66, 67, 68, 69, 70, 71, 72, 73, 74, 75, 76, 77, 78, 79, 80, 81, 82, 83, 84, 85, 86, 87] (by decide +kernel) (by decide +kernel)) (goodIn_sub (fun _ h => List.mem_cons_of_mem _ (List.mem_append_right _ h)) (by decide +kernel))
set_option maxRecDepth 20000 in
theorem gL_handedOn_X4_handedOn : GoodIn wsL_handedOn (wsV RL 47 RX4 yX4_handedOn wsX4_handedOn) := goodIn_app (goodIn_of _ (by decide +kernel)) ggL_handedOn_X4_handedOn
theorem dL_handedOn_0 : decode cL_handedOn 0 = .ok (.aload_n 3, 1) := by decide +kernel
theorem dL_handedOn_1 : decode cL_handedOn 1 = .ok (.iconst 0, 1) := by decide +kernel
theorem dL_handedOn_2 : decode cL_handedOn 2 = .ok (.aload_n 0, 1) := by decide +kernel
theorem dL_handedOn_3 : decode cL_handedOn 3 = .ok (.iload_n 1, 1) := by decide +kernel
theorem dL_handedOn_4 : decode cL_handedOn 4 = .ok (.iload_n 2, 1) := by decide +kernel
theorem dL_handedOn_5 : decode cL_handedOn 5 = .ok (.invokevirtual 47, 3) := by decide +kernel
theorem dL_handedOn_8 : decode cL_handedOn 8 = .ok (.i2l, 1) := by decide +kernel
theorem dL_handedOn_9 : decode cL_handedOn 9 = .ok (.lastore, 1) := by decide +kernel
theorem dL_handedOn_10 : decode cL_handedOn 10 = .ok (.goto 7, 3) := by decide +kernel
theorem dL_handedOn_13 : decode cL_handedOn 13 = .ok (.astore 4, 2) := by decide +kernel
theorem dL_handedOn_15 : decode cL_handedOn 15 = .ok (.iconst 1, 1) := by decide +kernel
theorem dL_handedOn_16 : decode cL_handedOn 16 = .ok (.ireturn, 1) := by decide +kernel
theorem dL_handedOn_17 : decode cL_handedOn 17 = .ok (.iconst 0, 1) := by decide +kernel
theorem dL_handedOn_18 : decode cL_handedOn 18 = .ok (.ireturn, 1) := by decide +kernel
set_option maxRecDepth 20000 in
theorem ggL_squareError_X4_squareError : GoodIn wsL_squareError wsX4_squareError := goodIn_ca (goodIn_r _ [6, 7, 8, 9, 10, 5, 11, 12, 13, 14, 15, 16, 17, 18, 19, 20, 21, 22, 23, 24, 25, 26, 27, 28, 29, 30, 31, 32, 33, 34, 35, 36, 37, 38, 39, 40, 41, 42, 43, 44, 45, 46, 47, 48, 49, 50, 51, 52, 53, 54, 55, 56, 57, 58, 59, 60, 61, 62, 63, 64, 65, 66, 67, 68, 69, 70, 71, 72, 73, 74, 75, 76, 77, 78, 79, 80, 81, 82, 83, 84, 85, 86, 87, 88, 89] (by decide +kernel) (by decide +kernel)) (goodIn_sub (fun _ h => List.mem_cons_of_mem _ (List.mem_append_right _ h)) (by decide +kernel))
set_option maxRecDepth 20000 in
theorem gL_squareError_X4_squareError : GoodIn wsL_squareError (wsV RL 50 RX4 yX4_squareError wsX4_squareError) := goodIn_app (goodIn_of _ (by decide +kernel)) ggL_squareError_X4_squareError
theorem dL_squareError_0 : decode cL_squareError 0 = .ok (.aload_n 2, 1) := by decide +kernel
theorem dL_squareError_1 : decode cL_squareError 1 = .ok (.iconst 0, 1) := by decide +kernel
theorem dL_squareError_2 : decode cL_squareError 2 = .ok (.aload_n 0, 1) := by decide +kernel
theorem dL_squareError_3 : decode cL_squareError 3 = .ok (.iload_n 1, 1) := by decide +kernel
theorem dL_squareError_4 : decode cL_squareError 4 = .ok (.invokevirtual 50, 3) := by decide +kernel
theorem dL_squareError_7 : decode cL_squareError 7 = .ok (.i2l, 1) := by decide +kernel
theorem dL_squareError_8 : decode cL_squareError 8 = .ok (.lastore, 1) := by decide +kernel
theorem dL_squareError_9 : decode cL_squareError 9 = .ok (.goto 6, 3) := by decide +kernel
theorem dL_squareError_12 : decode cL_squareError 12 = .ok (.astore_n 3, 1) := by decide +kernel
theorem dL_squareError_13 : decode cL_squareError 13 = .ok (.iconst 1, 1) := by decide +kernel
theorem dL_squareError_14 : decode cL_squareError 14 = .ok (.ireturn, 1) := by decide +kernel
theorem dL_squareError_15 : decode cL_squareError 15 = .ok (.iconst 0, 1) := by decide +kernel
theorem dL_squareError_16 : decode cL_squareError 16 = .ok (.ireturn, 1) := by decide +kernel
set_option maxRecDepth 20000 in
theorem ggL_thresholdFor_X4_thresholdFor : GoodIn wsL_thresholdFor wsX4_thresholdFor := goodIn_ca (goodIn_r _ [6, 7, 8, 9, 10, 11, 12, 5, 13, 14, 15, 16, 17, 18, 19, 20, 21, 22, 23, 24, 25, 26, 27, 28, 29, 30, 31, 32, 33, 34, 35, 36, 37, 38, 39, 40, 41, 42, 43, 44, 45, 46, 47, 48, 49, 50, 51, 52, 53, 54, 55, 56, 57, 58, 59, 60, 61, 62, 63, 64, 65, 66, 67, 68, 69, 70, 71, 72, 73, 74, 75, 76, 77, 78, 79, 80] (by decide +kernel) (by decide +kernel)) (goodIn_sub (fun _ h => List.mem_cons_of_mem _ (List.mem_append_right _ h)) (by decide +kernel))
set_option maxRecDepth 20000 in
theorem gL_thresholdFor_X4_thresholdFor : GoodIn wsL_thresholdFor (wsV RL 53 RX4 yX4_thresholdFor wsX4_thresholdFor) := goodIn_app (goodIn_of _ (by decide +kernel)) ggL_thresholdFor_X4_thresholdFor
theorem dL_thresholdFor_0 : decode cL_thresholdFor 0 = .ok (.aload_n 2, 1) := by decide +kernel
theorem dL_thresholdFor_1 : decode cL_thresholdFor 1 = .ok (.iconst 0, 1) := by decide +kernel
theorem dL_thresholdFor_2 : decode cL_thresholdFor 2 = .ok (.aload_n 0, 1) := by decide +kernel
theorem dL_thresholdFor_3 : decode cL_thresholdFor 3 = .ok (.iload_n 1, 1) := by decide +kernel
theorem dL_thresholdFor_4 : decode cL_thresholdFor 4 = .ok (.invokevirtual 53, 3) := by decide +kernel
theorem dL_thresholdFor_7 : decode cL_thresholdFor 7 = .ok (.i2l, 1) := by decide +kernel
theorem dL_thresholdFor_8 : decode cL_thresholdFor 8 = .ok (.lastore, 1) := by decide +kernel
theorem dL_thresholdFor_9 : decode cL_thresholdFor 9 = .ok (.goto 6, 3) := by decide +kernel
theorem dL_thresholdFor_12 : decode cL_thresholdFor 12 = .ok (.astore_n 3, 1) := by decide +kernel
theorem dL_thresholdFor_13 : decode cL_thresholdFor 13 = .ok (.iconst 1, 1) := by decide +kernel
theorem dL_thresholdFor_14 : decode cL_thresholdFor 14 = .ok (.ireturn, 1) := by decide +kernel
theorem dL_thresholdFor_15 : decode cL_thresholdFor 15 = .ok (.iconst 0, 1) := by decide +kernel
theorem dL_thresholdFor_16 : decode cL_thresholdFor 16 = .ok (.ireturn, 1) := by decide +kernel
set_option maxRecDepth 20000 in
theorem ggL_appendText_X4_appendText : GoodIn wsL_appendText wsX4_appendText := goodIn_ca (goodIn_ca (goodIn_r _ [7, 8, 9, 10, 11, 12, 13, 14, 15, 16, 17, 18, 6, 19, 20, 21, 22, 23, 24, 25, 26, 27, 28, 29, 30, 31, 32, 33, 34, 35, 36, 37, 38, 39, 40, 41, 42, 43, 44] (by decide +kernel) (by decide +kernel)) (goodIn_sub (fun _ h => List.mem_cons_of_mem _ (List.mem_append_left _ (List.mem_append_right _ h))) (by decide +kernel))) (goodIn_sub (fun _ h => List.mem_cons_of_mem _ (List.mem_append_right _ h)) (by decide +kernel))
set_option maxRecDepth 20000 in
theorem gL_appendText_X4_appendText : GoodIn wsL_appendText (wsV RL 56 RX4 yX4_appendText wsX4_appendText) := goodIn_app (goodIn_of _ (by decide +kernel)) ggL_appendText_X4_appendText
theorem dL_appendText_0 : decode cL_appendText 0 = .ok (.aload_n 3, 1) := by decide +kernel
theorem dL_appendText_1 : decode cL_appendText 1 = .ok (.iconst 0, 1) := by decide +kernel
theorem dL_appendText_2 : decode cL_appendText 2 = .ok (.aload_n 0, 1) := by decide +kernel
theorem dL_appendText_3 : decode cL_appendText 3 = .ok (.lload_n 1, 1) := by decide +kernel
theorem dL_appendText_4 : decode cL_appendText 4 = .ok (.invokevirtual 56, 3) := by decide +kernel
theorem dL_appendText_7 : decode cL_appendText 7 = .ok (.i2l, 1) := by decide +kernel
theorem dL_appendText_8 : decode cL_appendText 8 = .ok (.lastore, 1) := by decide +kernel
theorem dL_appendText_9 : decode cL_appendText 9 = .ok (.goto 11, 3) := by decide +kernel
theorem dL_appendText_12 : decode cL_appendText 12 = .ok (.astore 4, 2) := by decide +kernel
theorem dL_appendText_14 : decode cL_appendText 14 = .ok (.iconst 1, 1) := by decide +kernel
theorem dL_appendText_15 : decode cL_appendText 15 = .ok (.ireturn, 1) := by decide +kernel
theorem dL_appendText_16 : decode cL_appendText 16 = .ok (.astore 4, 2) := by decide +kernel
theorem dL_appendText_18 : decode cL_appendText 18 = .ok (.iconst 2, 1) := by decide +kernel
theorem dL_appendText_19 : decode cL_appendText 19 = .ok (.ireturn, 1) := by decide +kernel
theorem dL_appendText_20 : decode cL_appendText 20 = .ok (.iconst 0, 1) := by decide +kernel
theorem dL_appendText_21 : decode cL_appendText 21 = .ok (.ireturn, 1) := by decide +kernel
set_option maxRecDepth 20000 in
theorem ggL_runText_X4_runText : GoodIn wsL_runText wsX4_runText := goodIn_ca (goodIn_r _ [6, 7, 8, 9, 10, 11, 12, 13, 14, 15, 16, 17, 18, 19, 20, 21, 22, 23, 24, 25, 26, 27, 28, 29, 30, 31, 32, 33, 34, 5, 35, 36, 37, 38, 39, 40, 41, 42, 43, 44, 45, 46, 47, 48, 49, 50, 51, 52, 53, 54, 55, 56, 57, 58, 59, 60, 61, 62, 63, 64, 65, 66, 67, 68, 69, 70, 71, 72, 73, 74, 75, 76, 77, 78, 79, 80, 81, 82, 83, 84, 85, 86, 87, 88, 89, 90, 91, 92, 93, 94, 95, 96, 97, 98, 99, 100, 101, 102, 103, 104, 105, 106, 107, 108, 109, 110, 111, 112, 113, 114, 115, 116, 117, 118, 119, 120, 121, 122, 123, 124, 125, 126, 127, 128, 129, 130, 131, 132, 133, 134, 135, 136, 137, 138, 139, 140, 141, 142, 143] (by decide +kernel) (by decide +kernel)) (goodIn_sub (fun _ h => List.mem_cons_of_mem _ (List.mem_append_right _ h)) (by decide +kernel))
set_option maxRecDepth 20000 in
theorem gL_runText_X4_runText : GoodIn wsL_runText (wsV RL 62 RX4 yX4_runText wsX4_runText) := goodIn_app (goodIn_of _ (by decide +kernel)) ggL_runText_X4_runText
theorem dL_runText_0 : decode cL_runText 0 = .ok (.aload_n 1, 1) := by decide +kernel
theorem dL_runText_1 : decode cL_runText 1 = .ok (.iconst 0, 1) := by decide +kernel
theorem dL_runText_2 : decode cL_runText 2 = .ok (.aload_n 0, 1) := by decide +kernel
theorem dL_runText_3 : decode cL_runText 3 = .ok (.invokevirtual 62, 3) := by decide +kernel
theorem dL_runText_6 : decode cL_runText 6 = .ok (.i2l, 1) := by decide +kernel
theorem dL_runText_7 : decode cL_runText 7 = .ok (.lastore, 1) := by decide +kernel
theorem dL_runText_8 : decode cL_runText 8 = .ok (.goto 6, 3) := by decide +kernel
theorem dL_runText_11 : decode cL_runText 11 = .ok (.astore_n 2, 1) := by decide +kernel
theorem dL_runText_12 : decode cL_runText 12 = .ok (.iconst 1, 1) := by decide +kernel
theorem dL_runText_13 : decode cL_runText 13 = .ok (.ireturn, 1) := by decide +kernel
theorem dL_runText_14 : decode cL_runText 14 = .ok (.iconst 0, 1) := by decide +kernel
theorem dL_runText_15 : decode cL_runText 15 = .ok (.ireturn, 1) := by decide +kernel
set_option maxRecDepth 20000 in
theorem ggL_undo_X4_undo : GoodIn wsL_undo wsX4_undo := goodIn_ca (goodIn_r _ [6, 7, 8, 9, 10, 11, 5, 12, 13, 14, 15, 16, 17, 18, 19, 20, 21, 22, 23, 24, 25, 26, 27, 28, 29, 30, 31, 32, 33, 34, 35, 36, 37, 38, 39, 40, 41, 42, 43, 44, 45, 46] (by decide +kernel) (by decide +kernel)) (goodIn_sub (fun _ h => List.mem_cons_of_mem _ (List.mem_append_right _ h)) (by decide +kernel))
set_option maxRecDepth 20000 in
theorem gL_undo_X4_undo : GoodIn wsL_undo (wsV RL 66 RX4 yX4_undo wsX4_undo) := goodIn_app (goodIn_of _ (by decide +kernel)) ggL_undo_X4_undo
theorem dL_undo_0 : decode cL_undo 0 = .ok (.aload_n 1, 1) := by decide +kernel
theorem dL_undo_1 : decode cL_undo 1 = .ok (.iconst 0, 1) := by decide +kernel
theorem dL_undo_2 : decode cL_undo 2 = .ok (.aload_n 0, 1) := by decide +kernel
theorem dL_undo_3 : decode cL_undo 3 = .ok (.invokevirtual 66, 3) := by decide +kernel
theorem dL_undo_6 : decode cL_undo 6 = .ok (.i2l, 1) := by decide +kernel
theorem dL_undo_7 : decode cL_undo 7 = .ok (.lastore, 1) := by decide +kernel
theorem dL_undo_8 : decode cL_undo 8 = .ok (.goto 6, 3) := by decide +kernel
theorem dL_undo_11 : decode cL_undo 11 = .ok (.astore_n 2, 1) := by decide +kernel
theorem dL_undo_12 : decode cL_undo 12 = .ok (.iconst 1, 1) := by decide +kernel
theorem dL_undo_13 : decode cL_undo 13 = .ok (.ireturn, 1) := by decide +kernel
theorem dL_undo_14 : decode cL_undo 14 = .ok (.iconst 0, 1) := by decide +kernel
theorem dL_undo_15 : decode cL_undo 15 = .ok (.ireturn, 1) := by decide +kernel
set_option maxRecDepth 20000 in
theorem ggL_saveState_X4_saveState : GoodIn wsL_saveState wsX4_saveState := goodIn_ca (goodIn_r _ [6, 7, 8, 9, 10, 11, 5, 12, 13, 14, 15, 16, 17, 18, 19, 20, 21, 22, 23, 24, 25, 26, 27, 28, 29, 30, 31, 32, 33, 34, 35, 36, 37, 38, 39, 40, 41, 42, 43, 44] (by decide +kernel) (by decide +kernel)) (goodIn_sub (fun _ h => List.mem_cons_of_mem _ (List.mem_append_right _ h)) (by decide +kernel))
set_option maxRecDepth 20000 in
theorem gL_saveState_X4_saveState : GoodIn wsL_saveState (wsV RL 69 RX4 yX4_saveState wsX4_saveState) := goodIn_app (goodIn_of _ (by decide +kernel)) ggL_saveState_X4_saveState
theorem dL_saveState_0 : decode cL_saveState 0 = .ok (.aload_n 2, 1) := by decide +kernel
theorem dL_saveState_1 : decode cL_saveState 1 = .ok (.iconst 0, 1) := by decide +kernel
theorem dL_saveState_2 : decode cL_saveState 2 = .ok (.aload_n 0, 1) := by decide +kernel
theorem dL_saveState_3 : decode cL_saveState 3 = .ok (.iload_n 1, 1) := by decide +kernel
theorem dL_saveState_4 : decode cL_saveState 4 = .ok (.invokevirtual 69, 3) := by decide +kernel
theorem dL_saveState_7 : decode cL_saveState 7 = .ok (.i2l, 1) := by decide +kernel
theorem dL_saveState_8 : decode cL_saveState 8 = .ok (.lastore, 1) := by decide +kernel
theorem dL_saveState_9 : decode cL_saveState 9 = .ok (.goto 6, 3) := by decide +kernel
theorem dL_saveState_12 : decode cL_saveState 12 = .ok (.astore_n 3, 1) := by decide +kernel
theorem dL_saveState_13 : decode cL_saveState 13 = .ok (.iconst 1, 1) := by decide +kernel
theorem dL_saveState_14 : decode cL_saveState 14 = .ok (.ireturn, 1) := by decide +kernel
theorem dL_saveState_15 : decode cL_saveState 15 = .ok (.iconst 0, 1) := by decide +kernel
theorem dL_saveState_16 : decode cL_saveState 16 = .ok (.ireturn, 1) := by decide +kernel
set_option maxRecDepth 20000 in
theorem ggL_loadState_X4_loadState : GoodIn wsL_loadState wsX4_loadState := goodIn_ca (goodIn_ca (goodIn_r _ [7, 8, 9, 10, 11, 12, 13, 6, 14, 15, 16, 17, 18, 19, 20, 21, 22, 23, 24, 25, 26, 27, 28, 29, 30, 31, 32, 33, 34, 35, 36, 37, 38, 39, 40, 41, 42, 43, 44, 45, 46, 47, 48, 49, 50, 51, 52, 53, 54, 55, 56, 57, 58, 59, 60, 61, 62, 63, 64, 65] (by decide +kernel) (by decide +kernel)) (goodIn_sub (fun _ h => List.mem_cons_of_mem _ (List.mem_append_left _ (List.mem_append_right _ h))) (by decide +kernel))) (goodIn_sub (fun _ h => List.mem_cons_of_mem _ (List.mem_append_right _ h)) (by decide +kernel))
set_option maxRecDepth 20000 in
theorem gL_loadState_X4_loadState : GoodIn wsL_loadState (wsV RL 72 RX4 yX4_loadState wsX4_loadState) := goodIn_app (goodIn_of _ (by decide +kernel)) ggL_loadState_X4_loadState
theorem dL_loadState_0 : decode cL_loadState 0 = .ok (.aload_n 2, 1) := by decide +kernel
theorem dL_loadState_1 : decode cL_loadState 1 = .ok (.iconst 0, 1) := by decide +kernel
theorem dL_loadState_2 : decode cL_loadState 2 = .ok (.aload_n 0, 1) := by decide +kernel
theorem dL_loadState_3 : decode cL_loadState 3 = .ok (.iload_n 1, 1) := by decide +kernel
theorem dL_loadState_4 : decode cL_loadState 4 = .ok (.invokevirtual 72, 3) := by decide +kernel
theorem dL_loadState_7 : decode cL_loadState 7 = .ok (.i2l, 1) := by decide +kernel
theorem dL_loadState_8 : decode cL_loadState 8 = .ok (.lastore, 1) := by decide +kernel
theorem dL_loadState_9 : decode cL_loadState 9 = .ok (.goto 9, 3) := by decide +kernel
theorem dL_loadState_12 : decode cL_loadState 12 = .ok (.astore_n 3, 1) := by decide +kernel
theorem dL_loadState_13 : decode cL_loadState 13 = .ok (.iconst 1, 1) := by decide +kernel
theorem dL_loadState_14 : decode cL_loadState 14 = .ok (.ireturn, 1) := by decide +kernel
theorem dL_loadState_15 : decode cL_loadState 15 = .ok (.astore_n 3, 1) := by decide +kernel
theorem dL_loadState_16 : decode cL_loadState 16 = .ok (.iconst 2, 1) := by decide +kernel
theorem dL_loadState_17 : decode cL_loadState 17 = .ok (.ireturn, 1) := by decide +kernel
theorem dL_loadState_18 : decode cL_loadState 18 = .ok (.iconst 0, 1) := by decide +kernel
theorem dL_loadState_19 : decode cL_loadState 19 = .ok (.ireturn, 1) := by decide +kernel
