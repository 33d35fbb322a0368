set_option maxRecDepth 20000 in
theorem ggL_makes_X3_carveOut : GoodIn wsL_makes wsX3_carveOut := goodIn_ca (goodIn_ca (goodIn_r _ [6, 7, 8, 9, 10, 5, 11, 12, 13, 14, 15, 16, 17, 18, 19, 20, 21, 22, 23, 24, 25, 26, 27, 28, 29, 30, 31, 32, 33, 34, 35, 36, 37, 38, 39, 40, 41, 42, 43, 44, 45, 46, 47, 48, 49, 50, 51, 52, 53, 54, 55, 56, 57, 58, 59, 60, 61, 62, 63, 64, 65, 66, 67, 68, 69, 70, 71, 72, 73, 74, 75, 76, 85, 86, 87, 88, 89, 90, 91, 92, 93, 94, 95, 96, 97, 98, 99, 100] (by decide +kernel) (by decide +kernel)) (goodIn_sub (fun _ h => List.mem_cons_of_mem _ (List.mem_append_left _ (List.mem_append_right _ h))) (by decide +kernel))) (goodIn_sub (fun _ h => List.mem_cons_of_mem _ (List.mem_append_right _ h)) (by decide +kernel))
set_option maxRecDepth 20000 in
theorem gL_makes_X3_carveOut : GoodIn wsL_makes (wsV RL 7 RX3 yX3_carveOut wsX3_carveOut) := goodIn_app (goodIn_of _ (by decide +kernel)) ggL_makes_X3_carveOut
set_option maxRecDepth 20000 in
theorem ggL_makes_X3_makePart : GoodIn wsL_makes wsX3_makePart := goodIn_ca (goodIn_ca (goodIn_r _ [80, 61, 8, 9, 10, 5, 11, 12, 13, 14, 15, 16, 17, 18, 19, 20, 21, 22, 23, 24, 25, 26, 27, 28, 29, 30, 31, 32, 33, 34, 35, 36, 37, 38, 39, 40, 41, 42, 43, 44, 45, 46, 47, 48, 49, 50, 51, 52, 53, 54, 55, 56, 81, 82, 83, 84, 66, 67, 7, 68, 69, 70, 71, 72, 57, 58, 59, 60, 91, 92, 93, 94, 95, 96, 85, 86, 87, 88, 89, 90, 97, 98, 99, 100] (by decide +kernel) (by decide +kernel)) (goodIn_sub (fun _ h => List.mem_cons_of_mem _ (List.mem_append_left _ (List.mem_append_right _ h))) (by decide +kernel))) (goodIn_sub (fun _ h => List.mem_cons_of_mem _ (List.mem_append_right _ h)) (by decide +kernel))
set_option maxRecDepth 20000 in
theorem gL_makes_X3_makePart : GoodIn wsL_makes (wsV RL 13 RX3 yX3_makePart wsX3_makePart) := goodIn_app (goodIn_of _ (by decide +kernel)) ggL_makes_X3_makePart
theorem dL_makes_0 : decode cL_makes 0 = .ok (.iload_n 1, 1) := by decide +kernel
theorem dL_makes_1 : decode cL_makes 1 = .ok (.ifCond .eq 16, 3) := by decide +kernel
theorem dL_makes_4 : decode cL_makes 4 = .ok (.aload_n 0, 1) := by decide +kernel
theorem dL_makes_5 : decode cL_makes 5 = .ok (.iload_n 2, 1) := by decide +kernel
theorem dL_makes_6 : decode cL_makes 6 = .ok (.iload_n 3, 1) := by decide +kernel
theorem dL_makes_7 : decode cL_makes 7 = .ok (.iload 4, 2) := by decide +kernel
theorem dL_makes_9 : decode cL_makes 9 = .ok (.iload 5, 2) := by decide +kernel
theorem dL_makes_11 : decode cL_makes 11 = .ok (.invokevirtual 7, 3) := by decide +kernel
theorem dL_makes_14 : decode cL_makes 14 = .ok (.goto 13, 3) := by decide +kernel
theorem dL_makes_17 : decode cL_makes 17 = .ok (.aload_n 0, 1) := by decide +kernel
theorem dL_makes_18 : decode cL_makes 18 = .ok (.iload_n 2, 1) := by decide +kernel
theorem dL_makes_19 : decode cL_makes 19 = .ok (.iload_n 3, 1) := by decide +kernel
theorem dL_makes_20 : decode cL_makes 20 = .ok (.iload 4, 2) := by decide +kernel
theorem dL_makes_22 : decode cL_makes 22 = .ok (.iload 5, 2) := by decide +kernel
theorem dL_makes_24 : decode cL_makes 24 = .ok (.invokevirtual 13, 3) := by decide +kernel
theorem dL_makes_27 : decode cL_makes 27 = .ok (.ireturn, 1) := by decide +kernel
theorem dL_makes_28 : decode cL_makes 28 = .ok (.astore 6, 2) := by decide +kernel
theorem dL_makes_30 : decode cL_makes 30 = .ok (.bipush (-3), 2) := by decide +kernel
theorem dL_makes_32 : decode cL_makes 32 = .ok (.ireturn, 1) := by decide +kernel
set_option maxRecDepth 20000 in
theorem ggL_splits_X3_split : GoodIn wsL_splits wsX3_split := goodIn_ca (goodIn_ca (goodIn_ca (goodIn_r _ [8, 9, 10, 11, 12, 13, 14, 15, 16, 17, 18, 7, 19, 20, 21, 22, 23, 24, 25, 26, 27, 28, 29, 30, 31, 32, 33, 34, 35, 36, 37, 38, 39, 40, 41, 42, 43, 44, 45, 46, 47, 48, 49, 50, 51, 52, 53, 54, 55, 56, 57, 58, 59, 60, 61, 62, 63, 64, 65, 66, 67, 68, 69, 70, 71, 72, 73, 74, 75, 76, 77, 78, 79, 80, 81, 82, 83, 84, 85, 86, 87, 88, 89, 90, 91, 92, 93, 94, 95, 96, 97, 98, 99, 100, 101, 102, 103] (by decide +kernel) (by decide +kernel)) (goodIn_sub (fun _ h => List.mem_cons_of_mem _ (List.mem_append_left _ (List.mem_append_left _ (List.mem_append_right _ h)))) (by decide +kernel))) (goodIn_sub (fun _ h => List.mem_cons_of_mem _ (List.mem_append_left _ (List.mem_append_right _ h))) (by decide +kernel))) (goodIn_sub (fun _ h => List.mem_cons_of_mem _ (List.mem_append_right _ h)) (by decide +kernel))
set_option maxRecDepth 20000 in
theorem gL_splits_X3_split : GoodIn wsL_splits (wsV RL 18 RX3 yX3_split wsX3_split) := goodIn_app (goodIn_of _ (by decide +kernel)) ggL_splits_X3_split
theorem dL_splits_0 : decode cL_splits 0 = .ok (.aload_n 0, 1) := by decide +kernel
theorem dL_splits_1 : decode cL_splits 1 = .ok (.iload_n 1, 1) := by decide +kernel
theorem dL_splits_2 : decode cL_splits 2 = .ok (.iload_n 2, 1) := by decide +kernel
theorem dL_splits_3 : decode cL_splits 3 = .ok (.invokevirtual 18, 3) := by decide +kernel
theorem dL_splits_6 : decode cL_splits 6 = .ok (.ireturn, 1) := by decide +kernel
theorem dL_splits_7 : decode cL_splits 7 = .ok (.astore_n 3, 1) := by decide +kernel
theorem dL_splits_8 : decode cL_splits 8 = .ok (.iconst (-1), 1) := by decide +kernel
theorem dL_splits_9 : decode cL_splits 9 = .ok (.ireturn, 1) := by decide +kernel
theorem dL_splits_10 : decode cL_splits 10 = .ok (.astore_n 3, 1) := by decide +kernel
theorem dL_splits_11 : decode cL_splits 11 = .ok (.bipush (-2), 2) := by decide +kernel
theorem dL_splits_13 : decode cL_splits 13 = .ok (.ireturn, 1) := by decide +kernel
theorem dL_splits_14 : decode cL_splits 14 = .ok (.astore_n 3, 1) := by decide +kernel
theorem dL_splits_15 : decode cL_splits 15 = .ok (.bipush (-3), 2) := by decide +kernel
theorem dL_splits_17 : decode cL_splits 17 = .ok (.ireturn, 1) := by decide +kernel
set_option maxRecDepth 20000 in
theorem ggL_merges_X3_merge : GoodIn wsL_merges wsX3_merge := goodIn_ca (goodIn_ca (goodIn_r _ [7, 8, 9, 10, 11, 12, 13, 14, 15, 16, 17, 6, 18, 19, 20, 21, 22, 23, 24, 25, 26, 27, 28, 29, 30, 31, 32, 33, 34, 35, 36, 37, 38, 39, 40, 41, 42, 43, 44, 45, 46, 47, 48, 49, 50, 51, 52, 53, 54, 55, 56, 57, 58, 59, 60, 61, 62, 63, 64, 65, 66, 67] (by decide +kernel) (by decide +kernel)) (goodIn_sub (fun _ h => List.mem_cons_of_mem _ (List.mem_append_left _ (List.mem_append_right _ h))) (by decide +kernel))) (goodIn_sub (fun _ h => List.mem_cons_of_mem _ (List.mem_append_right _ h)) (by decide +kernel))
set_option maxRecDepth 20000 in
theorem gL_merges_X3_merge : GoodIn wsL_merges (wsV RL 26 RX3 yX3_merge wsX3_merge) := goodIn_app (goodIn_of _ (by decide +kernel)) ggL_merges_X3_merge
theorem dL_merges_0 : decode cL_merges 0 = .ok (.aload_n 0, 1) := by decide +kernel
theorem dL_merges_1 : decode cL_merges 1 = .ok (.iload_n 1, 1) := by decide +kernel
theorem dL_merges_2 : decode cL_merges 2 = .ok (.iload_n 2, 1) := by decide +kernel
theorem dL_merges_3 : decode cL_merges 3 = .ok (.invokevirtual 26, 3) := by decide +kernel
theorem dL_merges_6 : decode cL_merges 6 = .ok (.ireturn, 1) := by decide +kernel
theorem dL_merges_7 : decode cL_merges 7 = .ok (.astore_n 3, 1) := by decide +kernel
theorem dL_merges_8 : decode cL_merges 8 = .ok (.iconst (-1), 1) := by decide +kernel
theorem dL_merges_9 : decode cL_merges 9 = .ok (.ireturn, 1) := by decide +kernel
theorem dL_merges_10 : decode cL_merges 10 = .ok (.astore_n 3, 1) := by decide +kernel
theorem dL_merges_11 : decode cL_merges 11 = .ok (.bipush (-3), 2) := by decide +kernel
theorem dL_merges_13 : decode cL_merges 13 = .ok (.ireturn, 1) := by decide +kernel
set_option maxRecDepth 20000 in
theorem ggL_exchanges_X3_exchange : GoodIn wsL_exchanges wsX3_exchange := goodIn_ca (goodIn_ca (goodIn_r _ [7, 8, 9, 10, 11, 6, 12, 13, 14, 15, 16, 17, 18, 19, 20, 21, 22, 23, 24, 25, 26, 27, 28, 29, 30, 31, 32, 33, 34, 35, 36, 37, 38, 39, 40, 41, 42, 43, 44, 45, 46, 47, 48, 49, 50, 51, 52, 53, 54, 55, 56, 57, 58, 59, 60, 61, 62, 63, 64, 65, 66, 67, 68, 69, 70, 71] (by decide +kernel) (by decide +kernel)) (goodIn_sub (fun _ h => List.mem_cons_of_mem _ (List.mem_append_left _ (List.mem_append_right _ h))) (by decide +kernel))) (goodIn_sub (fun _ h => List.mem_cons_of_mem _ (List.mem_append_right _ h)) (by decide +kernel))
set_option maxRecDepth 20000 in
theorem gL_exchanges_X3_exchange : GoodIn wsL_exchanges (wsV RL 29 RX3 yX3_exchange wsX3_exchange) := goodIn_app (goodIn_of _ (by decide +kernel)) ggL_exchanges_X3_exchange
theorem dL_exchanges_0 : decode cL_exchanges 0 = .ok (.aload_n 0, 1) := by decide +kernel
theorem dL_exchanges_1 : decode cL_exchanges 1 = .ok (.iload_n 1, 1) := by decide +kernel
theorem dL_exchanges_2 : decode cL_exchanges 2 = .ok (.iload_n 2, 1) := by decide +kernel
theorem dL_exchanges_3 : decode cL_exchanges 3 = .ok (.invokevirtual 29, 3) := by decide +kernel
theorem dL_exchanges_6 : decode cL_exchanges 6 = .ok (.ireturn, 1) := by decide +kernel
theorem dL_exchanges_7 : decode cL_exchanges 7 = .ok (.astore_n 3, 1) := by decide +kernel
theorem dL_exchanges_8 : decode cL_exchanges 8 = .ok (.iconst (-1), 1) := by decide +kernel
theorem dL_exchanges_9 : decode cL_exchanges 9 = .ok (.ireturn, 1) := by decide +kernel
theorem dL_exchanges_10 : decode cL_exchanges 10 = .ok (.astore_n 3, 1) := by decide +kernel
theorem dL_exchanges_11 : decode cL_exchanges 11 = .ok (.bipush (-3), 2) := by decide +kernel
theorem dL_exchanges_13 : decode cL_exchanges 13 = .ok (.ireturn, 1) := by decide +kernel
set_option maxRecDepth 20000 in
theorem ggL_turns_X3_attach : GoodIn wsL_turns wsX3_attach := goodIn_ca (goodIn_ca (goodIn_r _ [7, 8, 9, 10, 11, 12, 6, 13, 14, 15, 16, 17, 18, 19, 20, 21, 22, 23, 24, 25, 26, 27, 28, 29, 30, 31, 32, 33, 34, 35, 36, 37, 38, 39, 40, 41, 42, 43, 44, 45, 46, 47, 48, 49, 50, 51, 52, 53, 54, 55, 56, 64, 65, 66, 67, 68, 69, 70, 71, 72, 73, 74, 75, 76, 77, 78, 79] (by decide +kernel) (by decide +kernel)) (goodIn_sub (fun _ h => List.mem_cons_of_mem _ (List.mem_append_left _ (List.mem_append_right _ h))) (by decide +kernel))) (goodIn_sub (fun _ h => List.mem_cons_of_mem _ (List.mem_append_right _ h)) (by decide +kernel))
set_option maxRecDepth 20000 in
theorem gL_turns_X3_attach : GoodIn wsL_turns (wsV RL 32 RX3 yX3_attach wsX3_attach) := goodIn_app (goodIn_of _ (by decide +kernel)) ggL_turns_X3_attach
set_option maxRecDepth 20000 in
theorem ggL_turns_X3_detach : GoodIn wsL_turns wsX3_detach := goodIn_ca (goodIn_ca (goodIn_r _ [60, 8, 9, 10, 11, 12, 6, 13, 14, 15, 16, 17, 18, 19, 20, 21, 22, 23, 24, 25, 61, 62, 63, 29, 30, 53, 54, 55, 56, 46, 47, 64, 65, 66, 67, 68, 69, 70, 71, 72, 73, 74, 75, 76, 77, 78, 79] (by decide +kernel) (by decide +kernel)) (goodIn_sub (fun _ h => List.mem_cons_of_mem _ (List.mem_append_left _ (List.mem_append_right _ h))) (by decide +kernel))) (goodIn_sub (fun _ h => List.mem_cons_of_mem _ (List.mem_append_right _ h)) (by decide +kernel))
set_option maxRecDepth 20000 in
theorem gL_turns_X3_detach : GoodIn wsL_turns (wsV RL 36 RX3 yX3_detach wsX3_detach) := goodIn_app (goodIn_of _ (by decide +kernel)) ggL_turns_X3_detach
theorem dL_turns_0 : decode cL_turns 0 = .ok (.iload_n 1, 1) := by decide +kernel
theorem dL_turns_1 : decode cL_turns 1 = .ok (.ifCond .eq 11, 3) := by decide +kernel
theorem dL_turns_4 : decode cL_turns 4 = .ok (.aload_n 0, 1) := by decide +kernel
theorem dL_turns_5 : decode cL_turns 5 = .ok (.iload_n 2, 1) := by decide +kernel
theorem dL_turns_6 : decode cL_turns 6 = .ok (.invokevirtual 32, 3) := by decide +kernel
theorem dL_turns_9 : decode cL_turns 9 = .ok (.goto 8, 3) := by decide +kernel
theorem dL_turns_12 : decode cL_turns 12 = .ok (.aload_n 0, 1) := by decide +kernel
theorem dL_turns_13 : decode cL_turns 13 = .ok (.iload_n 2, 1) := by decide +kernel
theorem dL_turns_14 : decode cL_turns 14 = .ok (.invokevirtual 36, 3) := by decide +kernel
theorem dL_turns_17 : decode cL_turns 17 = .ok (.ireturn, 1) := by decide +kernel
theorem dL_turns_18 : decode cL_turns 18 = .ok (.astore_n 3, 1) := by decide +kernel
theorem dL_turns_19 : decode cL_turns 19 = .ok (.iconst (-1), 1) := by decide +kernel
theorem dL_turns_20 : decode cL_turns 20 = .ok (.ireturn, 1) := by decide +kernel
theorem dL_turns_21 : decode cL_turns 21 = .ok (.astore_n 3, 1) := by decide +kernel
theorem dL_turns_22 : decode cL_turns 22 = .ok (.bipush (-3), 2) := by decide +kernel
theorem dL_turns_24 : decode cL_turns 24 = .ok (.ireturn, 1) := by decide +kernel
set_option maxRecDepth 20000 in
theorem ggL_inserts_X3_insert : GoodIn wsL_inserts wsX3_insert := goodIn_ca (goodIn_ca (goodIn_r _ [6, 7, 8, 9, 10, 11, 12, 13, 14, 15, 5, 16, 17, 18, 19, 20, 21, 22, 23, 24, 25, 26, 27, 28, 29, 30, 31, 32, 33, 34, 35, 36, 37, 38, 39, 40, 41, 42, 43, 44, 45, 46, 47, 48, 49, 50, 51, 52, 53, 54, 55, 56, 57, 58, 59, 60, 61, 62, 63, 64] (by decide +kernel) (by decide +kernel)) (goodIn_sub (fun _ h => List.mem_cons_of_mem _ (List.mem_append_left _ (List.mem_append_right _ h))) (by decide +kernel))) (goodIn_sub (fun _ h => List.mem_cons_of_mem _ (List.mem_append_right _ h)) (by decide +kernel))
set_option maxRecDepth 20000 in
theorem gL_inserts_X3_insert : GoodIn wsL_inserts (wsV RL 39 RX3 yX3_insert wsX3_insert) := goodIn_app (goodIn_of _ (by decide +kernel)) ggL_inserts_X3_insert
theorem dL_inserts_0 : decode cL_inserts 0 = .ok (.aload_n 0, 1) := by decide +kernel
theorem dL_inserts_1 : decode cL_inserts 1 = .ok (.iload_n 1, 1) := by decide +kernel
theorem dL_inserts_2 : decode cL_inserts 2 = .ok (.iload_n 2, 1) := by decide +kernel
theorem dL_inserts_3 : decode cL_inserts 3 = .ok (.iload_n 3, 1) := by decide +kernel
theorem dL_inserts_4 : decode cL_inserts 4 = .ok (.invokevirtual 39, 3) := by decide +kernel
theorem dL_inserts_7 : decode cL_inserts 7 = .ok (.ireturn, 1) := by decide +kernel
theorem dL_inserts_8 : decode cL_inserts 8 = .ok (.astore 4, 2) := by decide +kernel
theorem dL_inserts_10 : decode cL_inserts 10 = .ok (.bipush (-3), 2) := by decide +kernel
theorem dL_inserts_12 : decode cL_inserts 12 = .ok (.ireturn, 1) := by decide +kernel
set_option maxRecDepth 20000 in
theorem ggL_changes_X3_change : GoodIn wsL_changes wsX3_change := goodIn_ca (goodIn_ca (goodIn_ca (goodIn_r _ [7, 8, 9, 10, 11, 12, 13, 6, 14, 15, 16, 17, 18, 19, 20, 21, 22, 23, 24, 25, 26, 27, 28, 29, 30, 31, 32, 33, 34, 35, 36, 37, 38, 39, 40, 41, 42, 43, 44, 45, 46, 47, 48, 49, 50, 51, 52, 53, 54, 55, 56, 57, 58, 59, 60, 61, 62, 63, 64, 65, 66, 67, 68, 69, 70, 71, 72, 73, 74, 75, 76, 77, 78, 79, 80, 81] (by decide +kernel) (by decide +kernel)) (goodIn_sub (fun _ h => List.mem_cons_of_mem _ (List.mem_append_left _ (List.mem_append_left _ (List.mem_append_right _ h)))) (by decide +kernel))) (goodIn_sub (fun _ h => List.mem_cons_of_mem _ (List.mem_append_left _ (List.mem_append_right _ h))) (by decide +kernel))) (goodIn_sub (fun _ h => List.mem_cons_of_mem _ (List.mem_append_right _ h)) (by decide +kernel))
set_option maxRecDepth 20000 in
theorem gL_changes_X3_change : GoodIn wsL_changes (wsV RL 43 RX3 yX3_change wsX3_change) := goodIn_app (goodIn_of _ (by decide +kernel)) ggL_changes_X3_change
theorem dL_changes_0 : decode cL_changes 0 = .ok (.aload_n 0, 1) := by decide +kernel
theorem dL_changes_1 : decode cL_changes 1 = .ok (.iload_n 1, 1) := by decide +kernel
theorem dL_changes_2 : decode cL_changes 2 = .ok (.iload_n 2, 1) := by decide +kernel
theorem dL_changes_3 : decode cL_changes 3 = .ok (.iload_n 3, 1) := by decide +kernel
theorem dL_changes_4 : decode cL_changes 4 = .ok (.invokevirtual 43, 3) := by decide +kernel
theorem dL_changes_7 : decode cL_changes 7 = .ok (.ifCond .eq 7, 3) := by decide +kernel
theorem dL_changes_10 : decode cL_changes 10 = .ok (.iconst 1, 1) := by decide +kernel
theorem dL_changes_11 : decode cL_changes 11 = .ok (.goto 4, 3) := by decide +kernel
theorem dL_changes_14 : decode cL_changes 14 = .ok (.iconst 0, 1) := by decide +kernel
theorem dL_changes_15 : decode cL_changes 15 = .ok (.ireturn, 1) := by decide +kernel
theorem dL_changes_16 : decode cL_changes 16 = .ok (.astore 4, 2) := by decide +kernel
theorem dL_changes_18 : decode cL_changes 18 = .ok (.iconst (-1), 1) := by decide +kernel
theorem dL_changes_19 : decode cL_changes 19 = .ok (.ireturn, 1) := by decide +kernel
theorem dL_changes_20 : decode cL_changes 20 = .ok (.astore 4, 2) := by decide +kernel
theorem dL_changes_22 : decode cL_changes 22 = .ok (.bipush (-3), 2) := by decide +kernel
theorem dL_changes_24 : decode cL_changes 24 = .ok (.ireturn, 1) := by decide +kernel
set_option maxRecDepth 20000 in
theorem ggL_removes_X3_remove : GoodIn wsL_removes wsX3_remove := goodIn_ca (goodIn_r _ [6, 7, 8, 9, 10, 11, 5, 12, 13, 14, 15, 16, 17, 18, 19, 20, 21, 22, 23, 24] (by decide +kernel) (by decide +kernel)) (goodIn_sub (fun _ h => List.mem_cons_of_mem _ (List.mem_append_right _ h)) (by decide +kernel))
set_option maxRecDepth 20000 in
theorem gL_removes_X3_remove : GoodIn wsL_removes (wsV RL 47 RX3 yX3_remove wsX3_remove) := goodIn_app (goodIn_of _ (by decide +kernel)) ggL_removes_X3_remove
theorem dL_removes_0 : decode cL_removes 0 = .ok (.aload_n 0, 1) := by decide +kernel
theorem dL_removes_1 : decode cL_removes 1 = .ok (.iload_n 1, 1) := by decide +kernel
theorem dL_removes_2 : decode cL_removes 2 = .ok (.invokevirtual 47, 3) := by decide +kernel
theorem dL_removes_5 : decode cL_removes 5 = .ok (.ireturn, 1) := by decide +kernel
theorem dL_removes_6 : decode cL_removes 6 = .ok (.astore_n 2, 1) := by decide +kernel
theorem dL_removes_7 : decode cL_removes 7 = .ok (.iconst (-1), 1) := by decide +kernel
theorem dL_removes_8 : decode cL_removes 8 = .ok (.ireturn, 1) := by decide +kernel
set_option maxRecDepth 20000 in
theorem ggL_leaf_X3_leafOf : GoodIn wsL_leaf wsX3_leafOf := goodIn_ca (goodIn_r _ [6, 7, 8, 9, 5, 10, 11, 12, 13, 14, 15, 16, 17, 18, 19, 20, 21, 22, 23, 24, 25, 26, 27, 28, 29, 30, 31, 32, 33, 34, 35, 36, 37, 38, 39, 40, 41, 42, 43, 44, 45, 46, 47, 48, 49, 50, 51] (by decide +kernel) (by decide +kernel)) (goodIn_sub (fun _ h => List.mem_cons_of_mem _ (List.mem_append_right _ h)) (by decide +kernel))
set_option maxRecDepth 20000 in
theorem gL_leaf_X3_leafOf : GoodIn wsL_leaf (wsV RL 50 RX3 yX3_leafOf wsX3_leafOf) := goodIn_app (goodIn_of _ (by decide +kernel)) ggL_leaf_X3_leafOf
theorem dL_leaf_0 : decode cL_leaf 0 = .ok (.aload_n 0, 1) := by decide +kernel
theorem dL_leaf_1 : decode cL_leaf 1 = .ok (.iload_n 1, 1) := by decide +kernel
theorem dL_leaf_2 : decode cL_leaf 2 = .ok (.invokevirtual 50, 3) := by decide +kernel
theorem dL_leaf_5 : decode cL_leaf 5 = .ok (.ireturn, 1) := by decide +kernel
theorem dL_leaf_6 : decode cL_leaf 6 = .ok (.astore_n 2, 1) := by decide +kernel
theorem dL_leaf_7 : decode cL_leaf 7 = .ok (.iconst (-1), 1) := by decide +kernel
theorem dL_leaf_8 : decode cL_leaf 8 = .ok (.ireturn, 1) := by decide +kernel
set_option maxRecDepth 20000 in
theorem ggL_rowsIn_X3_rowsIn : GoodIn wsL_rowsIn wsX3_rowsIn := goodIn_ca (goodIn_r _ [6, 7, 8, 9, 10, 5, 11, 12, 13, 14, 15, 16, 17, 18, 19, 20, 21, 22, 23, 24, 25, 26, 27, 28, 29, 30, 31, 32, 33, 34, 35, 36, 37, 38, 39, 40, 41, 42, 43, 44, 45, 46, 47, 48, 49, 50, 51, 52, 53, 54, 55, 56, 57, 58, 59, 60, 61, 62, 63, 64] (by decide +kernel) (by decide +kernel)) (goodIn_sub (fun _ h => List.mem_cons_of_mem _ (List.mem_append_right _ h)) (by decide +kernel))
set_option maxRecDepth 20000 in
theorem gL_rowsIn_X3_rowsIn : GoodIn wsL_rowsIn (wsV RL 53 RX3 yX3_rowsIn wsX3_rowsIn) := goodIn_app (goodIn_of _ (by decide +kernel)) ggL_rowsIn_X3_rowsIn
theorem dL_rowsIn_0 : decode cL_rowsIn 0 = .ok (.aload_n 0, 1) := by decide +kernel
theorem dL_rowsIn_1 : decode cL_rowsIn 1 = .ok (.iload_n 1, 1) := by decide +kernel
theorem dL_rowsIn_2 : decode cL_rowsIn 2 = .ok (.iload_n 2, 1) := by decide +kernel
theorem dL_rowsIn_3 : decode cL_rowsIn 3 = .ok (.invokevirtual 53, 3) := by decide +kernel
theorem dL_rowsIn_6 : decode cL_rowsIn 6 = .ok (.ireturn, 1) := by decide +kernel
theorem dL_rowsIn_7 : decode cL_rowsIn 7 = .ok (.astore_n 3, 1) := by decide +kernel
theorem dL_rowsIn_8 : decode cL_rowsIn 8 = .ok (.iconst (-1), 1) := by decide +kernel
theorem dL_rowsIn_9 : decode cL_rowsIn 9 = .ok (.ireturn, 1) := by decide +kernel
set_option maxRecDepth 20000 in
theorem ggL_finds_X3_find : GoodIn wsL_finds wsX3_find := goodIn_ca (goodIn_ca (goodIn_r _ [6, 7, 8, 9, 10, 11, 12, 13, 5, 14, 15, 16, 17, 18, 19, 20, 21, 22, 23, 24, 25, 26, 27, 28, 29, 30, 31, 32, 33, 34, 35, 36, 37, 38, 39] (by decide +kernel) (by decide +kernel)) (goodIn_sub (fun _ h => List.mem_cons_of_mem _ (List.mem_append_left _ (List.mem_append_right _ h))) (by decide +kernel))) (goodIn_sub (fun _ h => List.mem_cons_of_mem _ (List.mem_append_right _ h)) (by decide +kernel))
set_option maxRecDepth 20000 in
theorem gL_finds_X3_find : GoodIn wsL_finds (wsV RL 56 RX3 yX3_find wsX3_find) := goodIn_app (goodIn_of _ (by decide +kernel)) ggL_finds_X3_find
theorem dL_finds_0 : decode cL_finds 0 = .ok (.aload_n 0, 1) := by decide +kernel
theorem dL_finds_1 : decode cL_finds 1 = .ok (.iload_n 1, 1) := by decide +kernel
theorem dL_finds_2 : decode cL_finds 2 = .ok (.invokevirtual 56, 3) := by decide +kernel
theorem dL_finds_5 : decode cL_finds 5 = .ok (.ireturn, 1) := by decide +kernel
theorem dL_finds_6 : decode cL_finds 6 = .ok (.astore_n 2, 1) := by decide +kernel
theorem dL_finds_7 : decode cL_finds 7 = .ok (.bipush (-3), 2) := by decide +kernel
theorem dL_finds_9 : decode cL_finds 9 = .ok (.ireturn, 1) := by decide +kernel
set_option maxRecDepth 20000 in
theorem ggL_areLeaves_X3_parts : GoodIn wsL_areLeaves wsX3_parts := goodIn_r _ [5, 6, 102, 103, 104, 105, 106, 107] (by decide +kernel) (by decide +kernel)
set_option maxRecDepth 20000 in
theorem gL_areLeaves_X3_parts : GoodIn wsL_areLeaves (wsV RL 59 RX3 yX3_parts wsX3_parts) := goodIn_app (goodIn_of _ (by decide +kernel)) ggL_areLeaves_X3_parts
set_option maxRecDepth 20000 in
theorem ggL_areLeaves_X3_stateOf : GoodIn wsL_areLeaves wsX3_stateOf := goodIn_ca (goodIn_r _ [10, 11, 12, 13, 14, 4, 15, 16, 17, 18, 108, 109, 110, 111, 112, 113, 102, 103, 104, 105, 106, 107] (by decide +kernel) (by decide +kernel)) (goodIn_sub (fun _ h => List.mem_cons_of_mem _ (List.mem_append_left _ (List.mem_append_right _ h))) (by decide +kernel))
set_option maxRecDepth 20000 in
theorem gL_areLeaves_X3_stateOf : GoodIn wsL_areLeaves (wsV RL 63 RX3 yX3_stateOf wsX3_stateOf) := goodIn_app (goodIn_of _ (by decide +kernel)) ggL_areLeaves_X3_stateOf
set_option maxRecDepth 20000 in
theorem ggL_areLeaves_L_rowsIn : GoodIn wsL_areLeaves wsL_rowsIn := goodIn_ca (goodIn_r _ [22, 23, 24, 25, 26, 4, 27, 28, 29, 30, 31, 32, 16, 17, 33, 34, 35, 36, 11, 12, 13, 14, 15, 18, 37, 38, 39, 40, 41, 42, 43, 44, 45, 46, 47, 48, 49, 50, 51, 52, 53, 54, 55, 56, 57, 58, 59, 60, 61, 102, 103, 104, 105, 106, 107, 108, 109, 110, 111, 112, 113, 114, 115, 116, 117] (by decide +kernel) (by decide +kernel)) (goodIn_sub (fun _ h => List.mem_cons_of_mem _ (List.mem_append_left _ (List.mem_append_right _ h))) (by decide +kernel))
set_option maxRecDepth 20000 in
theorem gL_areLeaves_L_rowsIn : GoodIn wsL_areLeaves (va_wsS RL 66 yL_rowsIn wsL_rowsIn) := goodIn_app (goodIn_of _ (by decide +kernel)) ggL_areLeaves_L_rowsIn
set_option maxRecDepth 20000 in
theorem ggL_areLeaves_X3_rows : GoodIn wsL_areLeaves wsX3_rows := goodIn_r _ [65, 28, 66, 67, 68, 47, 69, 49, 70, 102, 103, 104, 105, 106, 107, 114, 115, 116, 117, 108, 109, 110, 111, 112, 113] (by decide +kernel) (by decide +kernel)
set_option maxRecDepth 20000 in
theorem gL_areLeaves_X3_rows : GoodIn wsL_areLeaves (wsV RL 71 RX3 yX3_rows wsX3_rows) := goodIn_app (goodIn_of _ (by decide +kernel)) ggL_areLeaves_X3_rows
set_option maxRecDepth 20000 in
theorem ggL_areLeaves_X3_countPlain : GoodIn wsL_areLeaves wsX3_countPlain := goodIn_ca (goodIn_r _ [74, 28, 75, 76, 4, 77, 78, 79, 80, 81, 82, 83, 84, 85, 86, 87, 88, 89, 90, 91, 92, 93, 94, 66, 67, 68, 47, 69, 49, 70, 95, 96, 97, 98, 50, 99, 100, 101, 51, 56, 57, 102, 103, 104, 105, 106, 107, 118, 119, 120, 114, 115, 116, 117, 108, 109, 110, 111, 112, 113] (by decide +kernel) (by decide +kernel)) (goodIn_sub (fun _ h => List.mem_cons_of_mem _ (List.mem_append_right _ h)) (by decide +kernel))
set_option maxRecDepth 20000 in
theorem gL_areLeaves_X3_countPlain : GoodIn wsL_areLeaves (wsV RL 74 RX3 yX3_countPlain wsX3_countPlain) := goodIn_app (goodIn_of _ (by decide +kernel)) ggL_areLeaves_X3_countPlain
theorem dL_areLeaves_0 : decode cL_areLeaves 0 = .ok (.iconst 0, 1) := by decide +kernel
theorem dL_areLeaves_1 : decode cL_areLeaves 1 = .ok (.istore_n 3, 1) := by decide +kernel
theorem dL_areLeaves_2 : decode cL_areLeaves 2 = .ok (.iconst 0, 1) := by decide +kernel
theorem dL_areLeaves_3 : decode cL_areLeaves 3 = .ok (.istore 4, 2) := by decide +kernel
theorem dL_areLeaves_5 : decode cL_areLeaves 5 = .ok (.iconst 1, 1) := by decide +kernel
theorem dL_areLeaves_6 : decode cL_areLeaves 6 = .ok (.istore 5, 2) := by decide +kernel
theorem dL_areLeaves_8 : decode cL_areLeaves 8 = .ok (.iconst 0, 1) := by decide +kernel
theorem dL_areLeaves_9 : decode cL_areLeaves 9 = .ok (.istore 6, 2) := by decide +kernel
theorem dL_areLeaves_11 : decode cL_areLeaves 11 = .ok (.iload 6, 2) := by decide +kernel
theorem dL_areLeaves_13 : decode cL_areLeaves 13 = .ok (.aload_n 0, 1) := by decide +kernel
theorem dL_areLeaves_14 : decode cL_areLeaves 14 = .ok (.invokevirtual 59, 3) := by decide +kernel
theorem dL_areLeaves_17 : decode cL_areLeaves 17 = .ok (.if_icmp .gt 122, 3) := by decide +kernel
theorem dL_areLeaves_20 : decode cL_areLeaves 20 = .ok (.iload 5, 2) := by decide +kernel
theorem dL_areLeaves_22 : decode cL_areLeaves 22 = .ok (.ifCond .eq 117, 3) := by decide +kernel
theorem dL_areLeaves_25 : decode cL_areLeaves 25 = .ok (.aload_n 0, 1) := by decide +kernel
theorem dL_areLeaves_26 : decode cL_areLeaves 26 = .ok (.iload 6, 2) := by decide +kernel
theorem dL_areLeaves_28 : decode cL_areLeaves 28 = .ok (.invokevirtual 63, 3) := by decide +kernel
theorem dL_areLeaves_31 : decode cL_areLeaves 31 = .ok (.istore 7, 2) := by decide +kernel
theorem dL_areLeaves_33 : decode cL_areLeaves 33 = .ok (.iconst 0, 1) := by decide +kernel
theorem dL_areLeaves_34 : decode cL_areLeaves 34 = .ok (.istore 8, 2) := by decide +kernel
theorem dL_areLeaves_36 : decode cL_areLeaves 36 = .ok (.iload 8, 2) := by decide +kernel
theorem dL_areLeaves_38 : decode cL_areLeaves 38 = .ok (.iconst 5, 1) := by decide +kernel
theorem dL_areLeaves_39 : decode cL_areLeaves 39 = .ok (.if_icmp .ge 94, 3) := by decide +kernel
theorem dL_areLeaves_42 : decode cL_areLeaves 42 = .ok (.aload_n 0, 1) := by decide +kernel
theorem dL_areLeaves_43 : decode cL_areLeaves 43 = .ok (.iload 6, 2) := by decide +kernel
theorem dL_areLeaves_45 : decode cL_areLeaves 45 = .ok (.iload 8, 2) := by decide +kernel
theorem dL_areLeaves_47 : decode cL_areLeaves 47 = .ok (.invokestatic 66, 3) := by decide +kernel
theorem dL_areLeaves_50 : decode cL_areLeaves 50 = .ok (.istore 9, 2) := by decide +kernel
theorem dL_areLeaves_52 : decode cL_areLeaves 52 = .ok (.iload 5, 2) := by decide +kernel
theorem dL_areLeaves_54 : decode cL_areLeaves 54 = .ok (.ifCond .eq 35, 3) := by decide +kernel
theorem dL_areLeaves_57 : decode cL_areLeaves 57 = .ok (.iload 7, 2) := by decide +kernel
theorem dL_areLeaves_59 : decode cL_areLeaves 59 = .ok (.iconst 2, 1) := by decide +kernel
theorem dL_areLeaves_60 : decode cL_areLeaves 60 = .ok (.if_icmp .lt 9, 3) := by decide +kernel
theorem dL_areLeaves_63 : decode cL_areLeaves 63 = .ok (.iload 9, 2) := by decide +kernel
theorem dL_areLeaves_65 : decode cL_areLeaves 65 = .ok (.iconst (-1), 1) := by decide +kernel
theorem dL_areLeaves_66 : decode cL_areLeaves 66 = .ok (.if_icmp .ne 23, 3) := by decide +kernel
theorem dL_areLeaves_69 : decode cL_areLeaves 69 = .ok (.iload 8, 2) := by decide +kernel
theorem dL_areLeaves_71 : decode cL_areLeaves 71 = .ok (.ifCond .gt 14, 3) := by decide +kernel
theorem dL_areLeaves_74 : decode cL_areLeaves 74 = .ok (.iload 7, 2) := by decide +kernel
theorem dL_areLeaves_76 : decode cL_areLeaves 76 = .ok (.iconst 2, 1) := by decide +kernel
theorem dL_areLeaves_77 : decode cL_areLeaves 77 = .ok (.if_icmp .eq 8, 3) := by decide +kernel
theorem dL_areLeaves_80 : decode cL_areLeaves 80 = .ok (.iload 9, 2) := by decide +kernel
theorem dL_areLeaves_82 : decode cL_areLeaves 82 = .ok (.ifCond .lt 7, 3) := by decide +kernel
theorem dL_areLeaves_85 : decode cL_areLeaves 85 = .ok (.iconst 1, 1) := by decide +kernel
theorem dL_areLeaves_86 : decode cL_areLeaves 86 = .ok (.goto 4, 3) := by decide +kernel
theorem dL_areLeaves_89 : decode cL_areLeaves 89 = .ok (.iconst 0, 1) := by decide +kernel
theorem dL_areLeaves_90 : decode cL_areLeaves 90 = .ok (.istore 5, 2) := by decide +kernel
theorem dL_areLeaves_92 : decode cL_areLeaves 92 = .ok (.iload_n 3, 1) := by decide +kernel
theorem dL_areLeaves_93 : decode cL_areLeaves 93 = .ok (.iload 9, 2) := by decide +kernel
theorem dL_areLeaves_95 : decode cL_areLeaves 95 = .ok (.ifCond .le 8, 3) := by decide +kernel
theorem dL_areLeaves_98 : decode cL_areLeaves 98 = .ok (.iload 9, 2) := by decide +kernel
theorem dL_areLeaves_100 : decode cL_areLeaves 100 = .ok (.goto 4, 3) := by decide +kernel
theorem dL_areLeaves_103 : decode cL_areLeaves 103 = .ok (.iconst 0, 1) := by decide +kernel
theorem dL_areLeaves_104 : decode cL_areLeaves 104 = .ok (.iadd, 1) := by decide +kernel
theorem dL_areLeaves_105 : decode cL_areLeaves 105 = .ok (.istore_n 3, 1) := by decide +kernel
theorem dL_areLeaves_106 : decode cL_areLeaves 106 = .ok (.iload 4, 2) := by decide +kernel
theorem dL_areLeaves_108 : decode cL_areLeaves 108 = .ok (.iload 9, 2) := by decide +kernel
theorem dL_areLeaves_110 : decode cL_areLeaves 110 = .ok (.ifCond .le 13, 3) := by decide +kernel
theorem dL_areLeaves_113 : decode cL_areLeaves 113 = .ok (.iload 7, 2) := by decide +kernel
theorem dL_areLeaves_115 : decode cL_areLeaves 115 = .ok (.ifCond .ne 8, 3) := by decide +kernel
theorem dL_areLeaves_118 : decode cL_areLeaves 118 = .ok (.iload 9, 2) := by decide +kernel
theorem dL_areLeaves_120 : decode cL_areLeaves 120 = .ok (.goto 4, 3) := by decide +kernel
theorem dL_areLeaves_123 : decode cL_areLeaves 123 = .ok (.iconst 0, 1) := by decide +kernel
theorem dL_areLeaves_124 : decode cL_areLeaves 124 = .ok (.iadd, 1) := by decide +kernel
theorem dL_areLeaves_125 : decode cL_areLeaves 125 = .ok (.istore 4, 2) := by decide +kernel
theorem dL_areLeaves_127 : decode cL_areLeaves 127 = .ok (.iinc 8 1, 3) := by decide +kernel
theorem dL_areLeaves_130 : decode cL_areLeaves 130 = .ok (.goto (-94), 3) := by decide +kernel
theorem dL_areLeaves_133 : decode cL_areLeaves 133 = .ok (.iinc 6 1, 3) := by decide +kernel
theorem dL_areLeaves_136 : decode cL_areLeaves 136 = .ok (.goto (-125), 3) := by decide +kernel
theorem dL_areLeaves_139 : decode cL_areLeaves 139 = .ok (.iload 5, 2) := by decide +kernel
theorem dL_areLeaves_141 : decode cL_areLeaves 141 = .ok (.ifCond .eq 39, 3) := by decide +kernel
theorem dL_areLeaves_144 : decode cL_areLeaves 144 = .ok (.iload_n 3, 1) := by decide +kernel
theorem dL_areLeaves_145 : decode cL_areLeaves 145 = .ok (.iload_n 1, 1) := by decide +kernel
theorem dL_areLeaves_146 : decode cL_areLeaves 146 = .ok (.iload_n 2, 1) := by decide +kernel
theorem dL_areLeaves_147 : decode cL_areLeaves 147 = .ok (.isub, 1) := by decide +kernel
theorem dL_areLeaves_148 : decode cL_areLeaves 148 = .ok (.if_icmp .ne 32, 3) := by decide +kernel
theorem dL_areLeaves_151 : decode cL_areLeaves 151 = .ok (.iload 4, 2) := by decide +kernel
theorem dL_areLeaves_153 : decode cL_areLeaves 153 = .ok (.aload_n 0, 1) := by decide +kernel
theorem dL_areLeaves_154 : decode cL_areLeaves 154 = .ok (.invokevirtual 71, 3) := by decide +kernel
theorem dL_areLeaves_157 : decode cL_areLeaves 157 = .ok (.if_icmp .ne 23, 3) := by decide +kernel
theorem dL_areLeaves_160 : decode cL_areLeaves 160 = .ok (.aload_n 0, 1) := by decide +kernel
theorem dL_areLeaves_161 : decode cL_areLeaves 161 = .ok (.iconst 0, 1) := by decide +kernel
theorem dL_areLeaves_162 : decode cL_areLeaves 162 = .ok (.sipush 999, 3) := by decide +kernel
theorem dL_areLeaves_165 : decode cL_areLeaves 165 = .ok (.sipush 1023, 3) := by decide +kernel
theorem dL_areLeaves_168 : decode cL_areLeaves 168 = .ok (.invokevirtual 74, 3) := by decide +kernel
theorem dL_areLeaves_171 : decode cL_areLeaves 171 = .ok (.iload 4, 2) := by decide +kernel
theorem dL_areLeaves_173 : decode cL_areLeaves 173 = .ok (.if_icmp .ne 7, 3) := by decide +kernel
theorem dL_areLeaves_176 : decode cL_areLeaves 176 = .ok (.iconst 1, 1) := by decide +kernel
theorem dL_areLeaves_177 : decode cL_areLeaves 177 = .ok (.goto 4, 3) := by decide +kernel
theorem dL_areLeaves_180 : decode cL_areLeaves 180 = .ok (.iconst 0, 1) := by decide +kernel
theorem dL_areLeaves_181 : decode cL_areLeaves 181 = .ok (.ireturn, 1) := by decide +kernel
set_option maxRecDepth 20000 in
theorem ggL_isRead_X3_count : GoodIn wsL_isRead wsX3_count := goodIn_ca (goodIn_r _ [5, 6, 7, 8, 4, 9, 10, 11, 12, 13, 14, 15, 16, 17, 18, 19, 20, 21, 22, 23, 24, 25, 26, 27, 28, 29, 30, 31, 32, 33, 34, 35, 36, 37, 38, 39, 40, 41, 42, 43, 44, 45, 46, 47, 48, 49, 50, 51, 52, 53, 54, 55, 56, 57, 58, 59, 60, 61, 62, 63, 64, 65, 66, 67, 68, 69, 70, 71, 72, 73, 74, 75, 76, 77, 78, 79, 80, 81, 82, 83, 84, 85, 86, 87, 88, 89, 90, 91, 92, 93, 94, 95, 96, 97, 98, 99, 100, 101, 102, 103, 104, 105, 106, 107, 108, 109, 110, 111, 112, 113, 167, 168, 169, 170, 171, 172, 173, 174, 175, 176, 177, 178, 179, 180, 181, 182, 183, 184, 185] (by decide +kernel) (by decide +kernel)) (goodIn_sub (fun _ h => List.mem_cons_of_mem _ (List.mem_append_left _ (List.mem_append_right _ h))) (by decide +kernel))
set_option maxRecDepth 20000 in
theorem gL_isRead_X3_count : GoodIn wsL_isRead (wsV RL 77 RX3 yX3_count wsX3_count) := goodIn_app (goodIn_of _ (by decide +kernel)) ggL_isRead_X3_count
set_option maxRecDepth 20000 in
theorem ggL_isRead_X3_read : GoodIn wsL_isRead wsX3_read := goodIn_ca (goodIn_r _ [117, 6, 7, 8, 4, 9, 10, 11, 12, 13, 14, 15, 16, 17, 18, 19, 20, 21, 22, 23, 24, 25, 26, 118, 119, 120, 121, 31, 32, 33, 34, 35, 36, 37, 38, 39, 40, 41, 42, 43, 44, 45, 46, 47, 48, 49, 50, 51, 52, 53, 54, 55, 56, 57, 58, 59, 60, 61, 62, 63, 64, 65, 66, 67, 68, 69, 70, 71, 72, 73, 74, 75, 76, 77, 78, 79, 80, 81, 82, 83, 84, 85, 86, 87, 167, 168, 169, 170, 171, 172, 173, 174, 175, 176, 177, 178, 179, 180, 181] (by decide +kernel) (by decide +kernel)) (goodIn_sub (fun _ h => List.mem_cons_of_mem _ (List.mem_append_left _ (List.mem_append_right _ h))) (by decide +kernel))
set_option maxRecDepth 20000 in
theorem gL_isRead_X3_read : GoodIn wsL_isRead (wsV RL 80 RX3 yX3_read wsX3_read) := goodIn_app (goodIn_of _ (by decide +kernel)) ggL_isRead_X3_read
set_option maxRecDepth 20000 in
theorem ggL_isRead_X3_countPlain : GoodIn wsL_isRead wsX3_countPlain := goodIn_ca (goodIn_r _ [125, 92, 7, 8, 4, 9, 10, 11, 12, 13, 14, 15, 16, 17, 18, 19, 20, 21, 22, 23, 24, 25, 26, 126, 127, 128, 96, 129, 98, 130, 107, 108, 109, 110, 99, 111, 112, 113, 100, 105, 106, 167, 168, 169, 170, 171, 172, 173, 174, 175, 182, 183, 184, 185, 176, 177, 178, 179, 180, 181] (by decide +kernel) (by decide +kernel)) (goodIn_sub (fun _ h => List.mem_cons_of_mem _ (List.mem_append_left _ (List.mem_append_right _ h))) (by decide +kernel))
set_option maxRecDepth 20000 in
theorem gL_isRead_X3_countPlain : GoodIn wsL_isRead (wsV RL 74 RX3 yX3_countPlain wsX3_countPlain) := goodIn_app (goodIn_of _ (by decide +kernel)) ggL_isRead_X3_countPlain
set_option maxRecDepth 20000 in
theorem ggL_isRead_X3_parts : GoodIn wsL_isRead wsX3_parts := goodIn_r _ [134, 135, 167, 168, 169, 170, 171, 172] (by decide +kernel) (by decide +kernel)
set_option maxRecDepth 20000 in
theorem gL_isRead_X3_parts : GoodIn wsL_isRead (wsV RL 59 RX3 yX3_parts wsX3_parts) := goodIn_app (goodIn_of _ (by decide +kernel)) ggL_isRead_X3_parts
set_option maxRecDepth 20000 in
theorem ggL_isRead_L_rowsIn : GoodIn wsL_isRead wsL_rowsIn := goodIn_ca (goodIn_r _ [139, 140, 141, 142, 143, 4, 144, 92, 145, 146, 147, 148, 149, 150, 151, 152, 153, 154, 42, 155, 156, 157, 158, 6, 31, 32, 33, 34, 35, 36, 37, 93, 94, 95, 96, 97, 98, 99, 100, 101, 102, 103, 104, 105, 106, 84, 85, 86, 87, 167, 168, 169, 170, 171, 172, 176, 177, 178, 179, 180, 181, 182, 183, 184, 185] (by decide +kernel) (by decide +kernel)) (goodIn_sub (fun _ h => List.mem_cons_of_mem _ (List.mem_append_right _ h)) (by decide +kernel))
set_option maxRecDepth 20000 in
theorem gL_isRead_L_rowsIn : GoodIn wsL_isRead (va_wsS RL 66 yL_rowsIn wsL_rowsIn) := goodIn_app (goodIn_of _ (by decide +kernel)) ggL_isRead_L_rowsIn
set_option maxRecDepth 20000 in
theorem ggL_isRead_X3_matters : GoodIn wsL_isRead wsX3_matters := goodIn_ca (goodIn_ca (goodIn_r _ [162, 145, 146, 147, 4, 148, 149, 150, 151, 152, 153, 154, 42, 155, 156, 157, 158, 6, 31, 32, 33, 34, 35, 36, 37, 7, 8, 9, 10, 11, 12, 13, 14, 15, 16, 17, 18, 19, 20, 21, 22, 23, 24, 25, 26, 38, 39, 40, 41, 43, 44, 45, 46, 47, 48, 49, 50, 51, 52, 53, 54, 55, 56, 57, 58, 59, 60, 61, 62, 63, 64, 65, 66, 67, 68, 69, 70, 71, 72, 73, 74, 75, 76, 77, 78, 79, 80, 81, 82, 83, 84, 85, 86, 87, 176, 177, 178, 179, 180, 181, 167, 168, 169, 170, 171, 172, 173, 174, 175] (by decide +kernel) (by decide +kernel)) (goodIn_sub (fun _ h => List.mem_cons_of_mem _ (List.mem_append_right _ h)) (by decide +kernel))) (goodIn_sub (fun _ h => List.mem_cons_of_mem _ (List.mem_append_left _ (List.mem_append_right _ h))) (by decide +kernel))
set_option maxRecDepth 20000 in
theorem gL_isRead_X3_matters : GoodIn wsL_isRead (wsV RL 83 RX3 yX3_matters wsX3_matters) := goodIn_app (goodIn_of _ (by decide +kernel)) ggL_isRead_X3_matters
set_option maxRecDepth 20000 in
theorem ggL_isRead_X3_stateOf : GoodIn wsL_isRead wsX3_stateOf := goodIn_ca (goodIn_r _ [166, 42, 155, 156, 157, 4, 158, 149, 150, 6, 176, 177, 178, 179, 180, 181, 167, 168, 169, 170, 171, 172] (by decide +kernel) (by decide +kernel)) (goodIn_sub (fun _ h => List.mem_cons_of_mem _ (List.mem_append_right _ h)) (by decide +kernel))
set_option maxRecDepth 20000 in
theorem gL_isRead_X3_stateOf : GoodIn wsL_isRead (wsV RL 63 RX3 yX3_stateOf wsX3_stateOf) := goodIn_app (goodIn_of _ (by decide +kernel)) ggL_isRead_X3_stateOf
theorem dL_isRead_0 : decode cL_isRead 0 = .ok (.aload_n 0, 1) := by decide +kernel
theorem dL_isRead_1 : decode cL_isRead 1 = .ok (.iload_n 1, 1) := by decide +kernel
theorem dL_isRead_2 : decode cL_isRead 2 = .ok (.iload_n 2, 1) := by decide +kernel
theorem dL_isRead_3 : decode cL_isRead 3 = .ok (.iload_n 3, 1) := by decide +kernel
theorem dL_isRead_4 : decode cL_isRead 4 = .ok (.invokevirtual 77, 3) := by decide +kernel
theorem dL_isRead_7 : decode cL_isRead 7 = .ok (.istore 4, 2) := by decide +kernel
theorem dL_isRead_9 : decode cL_isRead 9 = .ok (.aload_n 0, 1) := by decide +kernel
theorem dL_isRead_10 : decode cL_isRead 10 = .ok (.iload_n 1, 1) := by decide +kernel
theorem dL_isRead_11 : decode cL_isRead 11 = .ok (.iload_n 2, 1) := by decide +kernel
theorem dL_isRead_12 : decode cL_isRead 12 = .ok (.iload_n 3, 1) := by decide +kernel
theorem dL_isRead_13 : decode cL_isRead 13 = .ok (.invokevirtual 80, 3) := by decide +kernel
theorem dL_isRead_16 : decode cL_isRead 16 = .ok (.istore 5, 2) := by decide +kernel
theorem dL_isRead_18 : decode cL_isRead 18 = .ok (.iconst 0, 1) := by decide +kernel
theorem dL_isRead_19 : decode cL_isRead 19 = .ok (.istore 6, 2) := by decide +kernel
theorem dL_isRead_21 : decode cL_isRead 21 = .ok (.iconst 0, 1) := by decide +kernel
theorem dL_isRead_22 : decode cL_isRead 22 = .ok (.istore 7, 2) := by decide +kernel
theorem dL_isRead_24 : decode cL_isRead 24 = .ok (.iload 4, 2) := by decide +kernel
theorem dL_isRead_26 : decode cL_isRead 26 = .ok (.aload_n 0, 1) := by decide +kernel
theorem dL_isRead_27 : decode cL_isRead 27 = .ok (.iload_n 1, 1) := by decide +kernel
theorem dL_isRead_28 : decode cL_isRead 28 = .ok (.iload_n 2, 1) := by decide +kernel
theorem dL_isRead_29 : decode cL_isRead 29 = .ok (.iload_n 3, 1) := by decide +kernel
theorem dL_isRead_30 : decode cL_isRead 30 = .ok (.invokevirtual 74, 3) := by decide +kernel
theorem dL_isRead_33 : decode cL_isRead 33 = .ok (.if_icmp .ne 7, 3) := by decide +kernel
theorem dL_isRead_36 : decode cL_isRead 36 = .ok (.iconst 1, 1) := by decide +kernel
theorem dL_isRead_37 : decode cL_isRead 37 = .ok (.goto 4, 3) := by decide +kernel
theorem dL_isRead_40 : decode cL_isRead 40 = .ok (.iconst 0, 1) := by decide +kernel
theorem dL_isRead_41 : decode cL_isRead 41 = .ok (.istore 8, 2) := by decide +kernel
theorem dL_isRead_43 : decode cL_isRead 43 = .ok (.iconst 0, 1) := by decide +kernel
theorem dL_isRead_44 : decode cL_isRead 44 = .ok (.istore 9, 2) := by decide +kernel
theorem dL_isRead_46 : decode cL_isRead 46 = .ok (.iload 9, 2) := by decide +kernel
theorem dL_isRead_48 : decode cL_isRead 48 = .ok (.aload_n 0, 1) := by decide +kernel
theorem dL_isRead_49 : decode cL_isRead 49 = .ok (.invokevirtual 59, 3) := by decide +kernel
theorem dL_isRead_52 : decode cL_isRead 52 = .ok (.if_icmp .gt 122, 3) := by decide +kernel
theorem dL_isRead_55 : decode cL_isRead 55 = .ok (.iload 8, 2) := by decide +kernel
theorem dL_isRead_57 : decode cL_isRead 57 = .ok (.ifCond .eq 117, 3) := by decide +kernel
theorem dL_isRead_60 : decode cL_isRead 60 = .ok (.iconst 0, 1) := by decide +kernel
theorem dL_isRead_61 : decode cL_isRead 61 = .ok (.istore 10, 2) := by decide +kernel
theorem dL_isRead_63 : decode cL_isRead 63 = .ok (.iload 10, 2) := by decide +kernel
theorem dL_isRead_65 : decode cL_isRead 65 = .ok (.iconst 5, 1) := by decide +kernel
theorem dL_isRead_66 : decode cL_isRead 66 = .ok (.if_icmp .ge 102, 3) := by decide +kernel
theorem dL_isRead_69 : decode cL_isRead 69 = .ok (.aload_n 0, 1) := by decide +kernel
theorem dL_isRead_70 : decode cL_isRead 70 = .ok (.iload 9, 2) := by decide +kernel
theorem dL_isRead_72 : decode cL_isRead 72 = .ok (.iload 10, 2) := by decide +kernel
theorem dL_isRead_74 : decode cL_isRead 74 = .ok (.invokestatic 66, 3) := by decide +kernel
theorem dL_isRead_77 : decode cL_isRead 77 = .ok (.istore 11, 2) := by decide +kernel
theorem dL_isRead_79 : decode cL_isRead 79 = .ok (.iload 11, 2) := by decide +kernel
theorem dL_isRead_81 : decode cL_isRead 81 = .ok (.ifCond .lt 21, 3) := by decide +kernel
theorem dL_isRead_84 : decode cL_isRead 84 = .ok (.aload_n 0, 1) := by decide +kernel
theorem dL_isRead_85 : decode cL_isRead 85 = .ok (.iload 9, 2) := by decide +kernel
theorem dL_isRead_87 : decode cL_isRead 87 = .ok (.iload 10, 2) := by decide +kernel
theorem dL_isRead_89 : decode cL_isRead 89 = .ok (.iload_n 1, 1) := by decide +kernel
theorem dL_isRead_90 : decode cL_isRead 90 = .ok (.iload_n 2, 1) := by decide +kernel
theorem dL_isRead_91 : decode cL_isRead 91 = .ok (.iload_n 3, 1) := by decide +kernel
theorem dL_isRead_92 : decode cL_isRead 92 = .ok (.invokevirtual 83, 3) := by decide +kernel
theorem dL_isRead_95 : decode cL_isRead 95 = .ok (.ifCond .eq 7, 3) := by decide +kernel
theorem dL_isRead_98 : decode cL_isRead 98 = .ok (.iconst 1, 1) := by decide +kernel
theorem dL_isRead_99 : decode cL_isRead 99 = .ok (.goto 4, 3) := by decide +kernel
theorem dL_isRead_102 : decode cL_isRead 102 = .ok (.iconst 0, 1) := by decide +kernel
theorem dL_isRead_103 : decode cL_isRead 103 = .ok (.istore 12, 2) := by decide +kernel
theorem dL_isRead_105 : decode cL_isRead 105 = .ok (.iload 7, 2) := by decide +kernel
theorem dL_isRead_107 : decode cL_isRead 107 = .ok (.iload 12, 2) := by decide +kernel
theorem dL_isRead_109 : decode cL_isRead 109 = .ok (.ifCond .eq 7, 3) := by decide +kernel
theorem dL_isRead_112 : decode cL_isRead 112 = .ok (.iconst 1, 1) := by decide +kernel
theorem dL_isRead_113 : decode cL_isRead 113 = .ok (.goto 4, 3) := by decide +kernel
theorem dL_isRead_116 : decode cL_isRead 116 = .ok (.iconst 0, 1) := by decide +kernel
theorem dL_isRead_117 : decode cL_isRead 117 = .ok (.iadd, 1) := by decide +kernel
theorem dL_isRead_118 : decode cL_isRead 118 = .ok (.istore 7, 2) := by decide +kernel
theorem dL_isRead_120 : decode cL_isRead 120 = .ok (.iload 6, 2) := by decide +kernel
theorem dL_isRead_122 : decode cL_isRead 122 = .ok (.iload 12, 2) := by decide +kernel
theorem dL_isRead_124 : decode cL_isRead 124 = .ok (.ifCond .eq 8, 3) := by decide +kernel
theorem dL_isRead_127 : decode cL_isRead 127 = .ok (.iload 11, 2) := by decide +kernel
theorem dL_isRead_129 : decode cL_isRead 129 = .ok (.goto 4, 3) := by decide +kernel
theorem dL_isRead_132 : decode cL_isRead 132 = .ok (.iconst 0, 1) := by decide +kernel
theorem dL_isRead_133 : decode cL_isRead 133 = .ok (.iadd, 1) := by decide +kernel
theorem dL_isRead_134 : decode cL_isRead 134 = .ok (.istore 6, 2) := by decide +kernel
theorem dL_isRead_136 : decode cL_isRead 136 = .ok (.iload 8, 2) := by decide +kernel
theorem dL_isRead_138 : decode cL_isRead 138 = .ok (.ifCond .eq 21, 3) := by decide +kernel
theorem dL_isRead_141 : decode cL_isRead 141 = .ok (.iload 12, 2) := by decide +kernel
theorem dL_isRead_143 : decode cL_isRead 143 = .ok (.ifCond .eq 12, 3) := by decide +kernel
theorem dL_isRead_146 : decode cL_isRead 146 = .ok (.aload_n 0, 1) := by decide +kernel
theorem dL_isRead_147 : decode cL_isRead 147 = .ok (.iload 9, 2) := by decide +kernel
theorem dL_isRead_149 : decode cL_isRead 149 = .ok (.invokevirtual 63, 3) := by decide +kernel
theorem dL_isRead_152 : decode cL_isRead 152 = .ok (.ifCond .ne 7, 3) := by decide +kernel
theorem dL_isRead_155 : decode cL_isRead 155 = .ok (.iconst 1, 1) := by decide +kernel
theorem dL_isRead_156 : decode cL_isRead 156 = .ok (.goto 4, 3) := by decide +kernel
theorem dL_isRead_159 : decode cL_isRead 159 = .ok (.iconst 0, 1) := by decide +kernel
theorem dL_isRead_160 : decode cL_isRead 160 = .ok (.istore 8, 2) := by decide +kernel
theorem dL_isRead_162 : decode cL_isRead 162 = .ok (.iinc 10 1, 3) := by decide +kernel
theorem dL_isRead_165 : decode cL_isRead 165 = .ok (.goto (-102), 3) := by decide +kernel
theorem dL_isRead_168 : decode cL_isRead 168 = .ok (.iinc 9 1, 3) := by decide +kernel
theorem dL_isRead_171 : decode cL_isRead 171 = .ok (.goto (-125), 3) := by decide +kernel
theorem dL_isRead_174 : decode cL_isRead 174 = .ok (.iload_n 1, 1) := by decide +kernel
theorem dL_isRead_175 : decode cL_isRead 175 = .ok (.iload_n 2, 1) := by decide +kernel
theorem dL_isRead_176 : decode cL_isRead 176 = .ok (.iadd, 1) := by decide +kernel
theorem dL_isRead_177 : decode cL_isRead 177 = .ok (.iconst 2, 1) := by decide +kernel
theorem dL_isRead_178 : decode cL_isRead 178 = .ok (.idiv, 1) := by decide +kernel
theorem dL_isRead_179 : decode cL_isRead 179 = .ok (.istore 9, 2) := by decide +kernel
theorem dL_isRead_181 : decode cL_isRead 181 = .ok (.iload_n 3, 1) := by decide +kernel
theorem dL_isRead_182 : decode cL_isRead 182 = .ok (.sipush 341, 3) := by decide +kernel
theorem dL_isRead_185 : decode cL_isRead 185 = .ok (.iand, 1) := by decide +kernel
theorem dL_isRead_186 : decode cL_isRead 186 = .ok (.istore 10, 2) := by decide +kernel
theorem dL_isRead_188 : decode cL_isRead 188 = .ok (.iload 8, 2) := by decide +kernel
theorem dL_isRead_190 : decode cL_isRead 190 = .ok (.ifCond .eq 60, 3) := by decide +kernel
theorem dL_isRead_193 : decode cL_isRead 193 = .ok (.iload_n 1, 1) := by decide +kernel
theorem dL_isRead_194 : decode cL_isRead 194 = .ok (.iload_n 2, 1) := by decide +kernel
theorem dL_isRead_195 : decode cL_isRead 195 = .ok (.if_icmp .eq 27, 3) := by decide +kernel
theorem dL_isRead_198 : decode cL_isRead 198 = .ok (.aload_n 0, 1) := by decide +kernel
theorem dL_isRead_199 : decode cL_isRead 199 = .ok (.iload_n 1, 1) := by decide +kernel
theorem dL_isRead_200 : decode cL_isRead 200 = .ok (.iload 9, 2) := by decide +kernel
theorem dL_isRead_202 : decode cL_isRead 202 = .ok (.iload_n 3, 1) := by decide +kernel
theorem dL_isRead_203 : decode cL_isRead 203 = .ok (.invokevirtual 77, 3) := by decide +kernel
theorem dL_isRead_206 : decode cL_isRead 206 = .ok (.aload_n 0, 1) := by decide +kernel
theorem dL_isRead_207 : decode cL_isRead 207 = .ok (.iload 9, 2) := by decide +kernel
theorem dL_isRead_209 : decode cL_isRead 209 = .ok (.iconst 1, 1) := by decide +kernel
theorem dL_isRead_210 : decode cL_isRead 210 = .ok (.iadd, 1) := by decide +kernel
theorem dL_isRead_211 : decode cL_isRead 211 = .ok (.iload_n 2, 1) := by decide +kernel
theorem dL_isRead_212 : decode cL_isRead 212 = .ok (.iload_n 3, 1) := by decide +kernel
theorem dL_isRead_213 : decode cL_isRead 213 = .ok (.invokevirtual 77, 3) := by decide +kernel
theorem dL_isRead_216 : decode cL_isRead 216 = .ok (.iadd, 1) := by decide +kernel
theorem dL_isRead_217 : decode cL_isRead 217 = .ok (.iload 4, 2) := by decide +kernel
theorem dL_isRead_219 : decode cL_isRead 219 = .ok (.if_icmp .ne 31, 3) := by decide +kernel
theorem dL_isRead_222 : decode cL_isRead 222 = .ok (.aload_n 0, 1) := by decide +kernel
theorem dL_isRead_223 : decode cL_isRead 223 = .ok (.iload_n 1, 1) := by decide +kernel
theorem dL_isRead_224 : decode cL_isRead 224 = .ok (.iload_n 2, 1) := by decide +kernel
theorem dL_isRead_225 : decode cL_isRead 225 = .ok (.iload 10, 2) := by decide +kernel
theorem dL_isRead_227 : decode cL_isRead 227 = .ok (.invokevirtual 77, 3) := by decide +kernel
theorem dL_isRead_230 : decode cL_isRead 230 = .ok (.aload_n 0, 1) := by decide +kernel
theorem dL_isRead_231 : decode cL_isRead 231 = .ok (.iload_n 1, 1) := by decide +kernel
theorem dL_isRead_232 : decode cL_isRead 232 = .ok (.iload_n 2, 1) := by decide +kernel
theorem dL_isRead_233 : decode cL_isRead 233 = .ok (.iload_n 3, 1) := by decide +kernel
theorem dL_isRead_234 : decode cL_isRead 234 = .ok (.iload 10, 2) := by decide +kernel
theorem dL_isRead_236 : decode cL_isRead 236 = .ok (.isub, 1) := by decide +kernel
theorem dL_isRead_237 : decode cL_isRead 237 = .ok (.invokevirtual 77, 3) := by decide +kernel
theorem dL_isRead_240 : decode cL_isRead 240 = .ok (.iadd, 1) := by decide +kernel
theorem dL_isRead_241 : decode cL_isRead 241 = .ok (.iload 4, 2) := by decide +kernel
theorem dL_isRead_243 : decode cL_isRead 243 = .ok (.if_icmp .ne 7, 3) := by decide +kernel
theorem dL_isRead_246 : decode cL_isRead 246 = .ok (.iconst 1, 1) := by decide +kernel
theorem dL_isRead_247 : decode cL_isRead 247 = .ok (.goto 4, 3) := by decide +kernel
theorem dL_isRead_250 : decode cL_isRead 250 = .ok (.iconst 0, 1) := by decide +kernel
theorem dL_isRead_251 : decode cL_isRead 251 = .ok (.istore 8, 2) := by decide +kernel
theorem dL_isRead_253 : decode cL_isRead 253 = .ok (.iload 8, 2) := by decide +kernel
theorem dL_isRead_255 : decode cL_isRead 255 = .ok (.ifCond .eq 43, 3) := by decide +kernel
theorem dL_isRead_258 : decode cL_isRead 258 = .ok (.iload 7, 2) := by decide +kernel
theorem dL_isRead_260 : decode cL_isRead 260 = .ok (.iload 5, 2) := by decide +kernel
theorem dL_isRead_262 : decode cL_isRead 262 = .ok (.if_icmp .ne 36, 3) := by decide +kernel
theorem dL_isRead_265 : decode cL_isRead 265 = .ok (.iload 4, 2) := by decide +kernel
theorem dL_isRead_267 : decode cL_isRead 267 = .ok (.iload 6, 2) := by decide +kernel
theorem dL_isRead_269 : decode cL_isRead 269 = .ok (.if_icmp .gt 29, 3) := by decide +kernel
theorem dL_isRead_272 : decode cL_isRead 272 = .ok (.iload_n 3, 1) := by decide +kernel
theorem dL_isRead_273 : decode cL_isRead 273 = .ok (.ifCond .gt 8, 3) := by decide +kernel
theorem dL_isRead_276 : decode cL_isRead 276 = .ok (.iload 5, 2) := by decide +kernel
theorem dL_isRead_278 : decode cL_isRead 278 = .ok (.ifCond .ne 20, 3) := by decide +kernel
theorem dL_isRead_281 : decode cL_isRead 281 = .ok (.aload_n 0, 1) := by decide +kernel
theorem dL_isRead_282 : decode cL_isRead 282 = .ok (.iload_n 1, 1) := by decide +kernel
theorem dL_isRead_283 : decode cL_isRead 283 = .ok (.iload_n 2, 1) := by decide +kernel
theorem dL_isRead_284 : decode cL_isRead 284 = .ok (.iload 10, 2) := by decide +kernel
theorem dL_isRead_286 : decode cL_isRead 286 = .ok (.invokevirtual 80, 3) := by decide +kernel
theorem dL_isRead_289 : decode cL_isRead 289 = .ok (.iload 5, 2) := by decide +kernel
theorem dL_isRead_291 : decode cL_isRead 291 = .ok (.if_icmp .gt 7, 3) := by decide +kernel
theorem dL_isRead_294 : decode cL_isRead 294 = .ok (.iconst 1, 1) := by decide +kernel
theorem dL_isRead_295 : decode cL_isRead 295 = .ok (.goto 4, 3) := by decide +kernel
theorem dL_isRead_298 : decode cL_isRead 298 = .ok (.iconst 0, 1) := by decide +kernel
theorem dL_isRead_299 : decode cL_isRead 299 = .ok (.ireturn, 1) := by decide +kernel
set_option maxRecDepth 20000 in
theorem ggL_isRow_L_leaf : GoodIn wsL_isRow wsL_leaf := goodIn_ca (goodIn_r _ [4, 5, 6, 7, 8, 9, 10, 11, 12, 13, 14, 15, 16, 17, 18, 19, 20, 21, 22, 23, 24, 25, 26, 27, 28, 29, 30, 31, 32, 33, 34, 35, 36, 37, 38, 39, 94, 95, 96, 97, 98, 99, 100, 101, 102, 103, 104, 105, 106, 107, 108, 109] (by decide +kernel) (by decide +kernel)) (goodIn_sub (fun _ h => List.mem_cons_of_mem _ (List.mem_append_left _ (List.mem_append_right _ h))) (by decide +kernel))
set_option maxRecDepth 20000 in
theorem gL_isRow_L_leaf : GoodIn wsL_isRow (va_wsS RL 87 yL_leaf wsL_leaf) := goodIn_app (goodIn_of _ (by decide +kernel)) ggL_isRow_L_leaf
set_option maxRecDepth 20000 in
theorem ggL_isRow_X3_stateOf : GoodIn wsL_isRow wsX3_stateOf := goodIn_ca (goodIn_r _ [43, 44, 45, 46, 47, 9, 48, 15, 16, 49, 104, 105, 106, 107, 108, 109, 94, 95, 96, 97, 98, 99] (by decide +kernel) (by decide +kernel)) (goodIn_sub (fun _ h => List.mem_cons_of_mem _ (List.mem_append_left _ (List.mem_append_right _ h))) (by decide +kernel))
set_option maxRecDepth 20000 in
theorem gL_isRow_X3_stateOf : GoodIn wsL_isRow (wsV RL 63 RX3 yX3_stateOf wsX3_stateOf) := goodIn_app (goodIn_of _ (by decide +kernel)) ggL_isRow_X3_stateOf
set_option maxRecDepth 20000 in
theorem ggL_isRow_X3_partOf : GoodIn wsL_isRow wsX3_partOf := goodIn_ca (goodIn_r _ [53, 54, 55, 56, 9, 57, 58, 59, 60, 61, 62, 63, 49, 44, 64, 65, 66, 67, 30, 68, 69, 70, 104, 105, 106, 107, 108, 109, 94, 95, 96, 97, 98, 99] (by decide +kernel) (by decide +kernel)) (goodIn_sub (fun _ h => List.mem_cons_of_mem _ (List.mem_append_right _ h)) (by decide +kernel))
set_option maxRecDepth 20000 in
theorem gL_isRow_X3_partOf : GoodIn wsL_isRow (wsV RL 91 RX3 yX3_partOf wsX3_partOf) := goodIn_app (goodIn_of _ (by decide +kernel)) ggL_isRow_X3_partOf
set_option maxRecDepth 20000 in
theorem ggL_isRow_L_rowsIn : GoodIn wsL_isRow wsL_rowsIn := goodIn_ca (goodIn_r _ [73, 5, 74, 75, 76, 9, 77, 17, 78, 79, 80, 81, 15, 16, 82, 83, 84, 85, 44, 45, 46, 47, 48, 49, 86, 87, 88, 30, 89, 32, 33, 90, 91, 92, 21, 93, 23, 25, 26, 27, 28, 29, 31, 34, 35, 36, 37, 38, 39, 94, 95, 96, 97, 98, 99, 104, 105, 106, 107, 108, 109, 100, 101, 102, 103] (by decide +kernel) (by decide +kernel)) (goodIn_sub (fun _ h => List.mem_cons_of_mem _ (List.mem_append_left _ (List.mem_append_right _ h))) (by decide +kernel))
set_option maxRecDepth 20000 in
theorem gL_isRow_L_rowsIn : GoodIn wsL_isRow (va_wsS RL 66 yL_rowsIn wsL_rowsIn) := goodIn_app (goodIn_of _ (by decide +kernel)) ggL_isRow_L_rowsIn
theorem dL_isRow_0 : decode cL_isRow 0 = .ok (.aload_n 0, 1) := by decide +kernel
theorem dL_isRow_1 : decode cL_isRow 1 = .ok (.iload_n 1, 1) := by decide +kernel
theorem dL_isRow_2 : decode cL_isRow 2 = .ok (.invokestatic 87, 3) := by decide +kernel
theorem dL_isRow_5 : decode cL_isRow 5 = .ok (.istore_n 3, 1) := by decide +kernel
theorem dL_isRow_6 : decode cL_isRow 6 = .ok (.iload_n 3, 1) := by decide +kernel
theorem dL_isRow_7 : decode cL_isRow 7 = .ok (.ifCond .ge 5, 3) := by decide +kernel
theorem dL_isRow_10 : decode cL_isRow 10 = .ok (.iconst 1, 1) := by decide +kernel
theorem dL_isRow_11 : decode cL_isRow 11 = .ok (.ireturn, 1) := by decide +kernel
theorem dL_isRow_12 : decode cL_isRow 12 = .ok (.iload_n 3, 1) := by decide +kernel
theorem dL_isRow_13 : decode cL_isRow 13 = .ok (.bipush 10, 2) := by decide +kernel
theorem dL_isRow_15 : decode cL_isRow 15 = .ok (.idiv, 1) := by decide +kernel
theorem dL_isRow_16 : decode cL_isRow 16 = .ok (.istore 4, 2) := by decide +kernel
theorem dL_isRow_18 : decode cL_isRow 18 = .ok (.aload_n 0, 1) := by decide +kernel
theorem dL_isRow_19 : decode cL_isRow 19 = .ok (.iload 4, 2) := by decide +kernel
theorem dL_isRow_21 : decode cL_isRow 21 = .ok (.invokevirtual 63, 3) := by decide +kernel
theorem dL_isRow_24 : decode cL_isRow 24 = .ok (.iconst 2, 1) := by decide +kernel
theorem dL_isRow_25 : decode cL_isRow 25 = .ok (.if_icmp .ge 40, 3) := by decide +kernel
theorem dL_isRow_28 : decode cL_isRow 28 = .ok (.aload_n 0, 1) := by decide +kernel
theorem dL_isRow_29 : decode cL_isRow 29 = .ok (.iload 4, 2) := by decide +kernel
theorem dL_isRow_31 : decode cL_isRow 31 = .ok (.invokevirtual 63, 3) := by decide +kernel
theorem dL_isRow_34 : decode cL_isRow 34 = .ok (.iconst 1, 1) := by decide +kernel
theorem dL_isRow_35 : decode cL_isRow 35 = .ok (.if_icmp .eq 13, 3) := by decide +kernel
theorem dL_isRow_38 : decode cL_isRow 38 = .ok (.aload_n 0, 1) := by decide +kernel
theorem dL_isRow_39 : decode cL_isRow 39 = .ok (.iload_n 2, 1) := by decide +kernel
theorem dL_isRow_40 : decode cL_isRow 40 = .ok (.invokevirtual 91, 3) := by decide +kernel
theorem dL_isRow_43 : decode cL_isRow 43 = .ok (.iload 4, 2) := by decide +kernel
theorem dL_isRow_45 : decode cL_isRow 45 = .ok (.if_icmp .ne 20, 3) := by decide +kernel
theorem dL_isRow_48 : decode cL_isRow 48 = .ok (.aload_n 0, 1) := by decide +kernel
theorem dL_isRow_49 : decode cL_isRow 49 = .ok (.iload 4, 2) := by decide +kernel
theorem dL_isRow_51 : decode cL_isRow 51 = .ok (.iload_n 3, 1) := by decide +kernel
theorem dL_isRow_52 : decode cL_isRow 52 = .ok (.bipush 10, 2) := by decide +kernel
theorem dL_isRow_54 : decode cL_isRow 54 = .ok (.irem, 1) := by decide +kernel
theorem dL_isRow_55 : decode cL_isRow 55 = .ok (.invokestatic 66, 3) := by decide +kernel
theorem dL_isRow_58 : decode cL_isRow 58 = .ok (.ifCond .le 7, 3) := by decide +kernel
theorem dL_isRow_61 : decode cL_isRow 61 = .ok (.iconst 1, 1) := by decide +kernel
theorem dL_isRow_62 : decode cL_isRow 62 = .ok (.goto 4, 3) := by decide +kernel
theorem dL_isRow_65 : decode cL_isRow 65 = .ok (.iconst 0, 1) := by decide +kernel
theorem dL_isRow_66 : decode cL_isRow 66 = .ok (.ireturn, 1) := by decide +kernel
