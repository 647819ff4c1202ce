set_option maxRecDepth 20000 in
theorem ggL_adds_X3_add : GoodIn wsL_adds wsX3_add := goodIn_ca (goodIn_ca (goodIn_ca (goodIn_r _ [6, 7, 8, 9, 10, 11, 12, 5, 13, 14, 15, 16, 17, 18, 19, 20, 21, 22, 23, 24, 25, 26, 27, 28, 29, 30, 31, 32, 33, 34, 35, 36, 37, 38, 39, 40] (by decide +kernel) (by decide +kernel)) (goodIn_sub (fun _ h => List.mem_cons_of_mem _ (List.mem_append_left _ (List.mem_append_left _ (List.mem_append_right _ h)))) (by decide +kernel))) (goodIn_sub (fun _ h => List.mem_cons_of_mem _ (List.mem_append_left _ (List.mem_append_right _ h))) (by decide +kernel))) (goodIn_sub (fun _ h => List.mem_cons_of_mem _ (List.mem_append_right _ h)) (by decide +kernel))
set_option maxRecDepth 20000 in
theorem gL_adds_X3_add : GoodIn wsL_adds (wsV RL 7 RX3 yX3_add wsX3_add) := goodIn_app (goodIn_of _ (by decide +kernel)) ggL_adds_X3_add
theorem dL_adds_0 : decode cL_adds 0 = .ok (.aload_n 0, 1) := by decide +kernel
theorem dL_adds_1 : decode cL_adds 1 = .ok (.iload_n 1, 1) := by decide +kernel
theorem dL_adds_2 : decode cL_adds 2 = .ok (.iload_n 2, 1) := by decide +kernel
theorem dL_adds_3 : decode cL_adds 3 = .ok (.invokevirtual 7, 3) := by decide +kernel
theorem dL_adds_6 : decode cL_adds 6 = .ok (.ireturn, 1) := by decide +kernel
theorem dL_adds_7 : decode cL_adds 7 = .ok (.astore_n 3, 1) := by decide +kernel
theorem dL_adds_8 : decode cL_adds 8 = .ok (.bipush (-3), 2) := by decide +kernel
theorem dL_adds_10 : decode cL_adds 10 = .ok (.ireturn, 1) := by decide +kernel
set_option maxRecDepth 20000 in
theorem ggL_links_X3_link : GoodIn wsL_links wsX3_link := goodIn_ca (goodIn_ca (goodIn_ca (goodIn_r _ [7, 8, 9, 10, 11, 12, 13, 6, 14, 15, 16, 17, 18, 19, 20, 21, 22, 23, 24, 25, 26, 27, 28, 29, 30, 31, 32, 33, 34, 35, 36, 37, 38, 39, 40, 41, 42, 43, 44, 45, 46, 47, 48, 49, 50, 51, 52, 53, 54, 55, 56, 57, 58, 59, 60, 61, 62, 63, 64, 65] (by decide +kernel) (by decide +kernel)) (goodIn_sub (fun _ h => List.mem_cons_of_mem _ (List.mem_append_left _ (List.mem_append_left _ (List.mem_append_right _ h)))) (by decide +kernel))) (goodIn_sub (fun _ h => List.mem_cons_of_mem _ (List.mem_append_left _ (List.mem_append_right _ h))) (by decide +kernel))) (goodIn_sub (fun _ h => List.mem_cons_of_mem _ (List.mem_append_right _ h)) (by decide +kernel))
set_option maxRecDepth 20000 in
theorem gL_links_X3_link : GoodIn wsL_links (wsV RL 15 RX3 yX3_link wsX3_link) := goodIn_app (goodIn_of _ (by decide +kernel)) ggL_links_X3_link
theorem dL_links_0 : decode cL_links 0 = .ok (.aload_n 0, 1) := by decide +kernel
theorem dL_links_1 : decode cL_links 1 = .ok (.iload_n 1, 1) := by decide +kernel
theorem dL_links_2 : decode cL_links 2 = .ok (.iload_n 2, 1) := by decide +kernel
theorem dL_links_3 : decode cL_links 3 = .ok (.invokevirtual 15, 3) := by decide +kernel
theorem dL_links_6 : decode cL_links 6 = .ok (.ireturn, 1) := by decide +kernel
theorem dL_links_7 : decode cL_links 7 = .ok (.astore_n 3, 1) := by decide +kernel
theorem dL_links_8 : decode cL_links 8 = .ok (.bipush (-2), 2) := by decide +kernel
theorem dL_links_10 : decode cL_links 10 = .ok (.ireturn, 1) := by decide +kernel
theorem dL_links_11 : decode cL_links 11 = .ok (.astore_n 3, 1) := by decide +kernel
theorem dL_links_12 : decode cL_links 12 = .ok (.bipush (-3), 2) := by decide +kernel
theorem dL_links_14 : decode cL_links 14 = .ok (.ireturn, 1) := by decide +kernel
set_option maxRecDepth 20000 in
theorem ggL_cuts_X3_cut : GoodIn wsL_cuts wsX3_cut := goodIn_ca (goodIn_ca (goodIn_r _ [6, 7, 8, 9, 10, 11, 12, 5, 13, 14, 15, 16, 17, 18, 19, 20, 21, 22, 23, 24, 25, 26, 27, 28, 29, 30, 31, 32, 33, 34, 35, 36, 37, 38, 39, 40, 41, 42, 43, 44, 45, 46, 47, 48, 49, 50, 51, 52, 53, 54, 55, 56] (by decide +kernel) (by decide +kernel)) (goodIn_sub (fun _ h => List.mem_cons_of_mem _ (List.mem_append_left _ (List.mem_append_right _ h))) (by decide +kernel))) (goodIn_sub (fun _ h => List.mem_cons_of_mem _ (List.mem_append_right _ h)) (by decide +kernel))
set_option maxRecDepth 20000 in
theorem gL_cuts_X3_cut : GoodIn wsL_cuts (wsV RL 20 RX3 yX3_cut wsX3_cut) := goodIn_app (goodIn_of _ (by decide +kernel)) ggL_cuts_X3_cut
theorem dL_cuts_0 : decode cL_cuts 0 = .ok (.aload_n 0, 1) := by decide +kernel
theorem dL_cuts_1 : decode cL_cuts 1 = .ok (.iload_n 1, 1) := by decide +kernel
theorem dL_cuts_2 : decode cL_cuts 2 = .ok (.iload_n 2, 1) := by decide +kernel
theorem dL_cuts_3 : decode cL_cuts 3 = .ok (.invokevirtual 20, 3) := by decide +kernel
theorem dL_cuts_6 : decode cL_cuts 6 = .ok (.ifCond .eq 7, 3) := by decide +kernel
theorem dL_cuts_9 : decode cL_cuts 9 = .ok (.iconst 1, 1) := by decide +kernel
theorem dL_cuts_10 : decode cL_cuts 10 = .ok (.goto 4, 3) := by decide +kernel
theorem dL_cuts_13 : decode cL_cuts 13 = .ok (.iconst 0, 1) := by decide +kernel
theorem dL_cuts_14 : decode cL_cuts 14 = .ok (.ireturn, 1) := by decide +kernel
theorem dL_cuts_15 : decode cL_cuts 15 = .ok (.astore_n 3, 1) := by decide +kernel
theorem dL_cuts_16 : decode cL_cuts 16 = .ok (.bipush (-3), 2) := by decide +kernel
theorem dL_cuts_18 : decode cL_cuts 18 = .ok (.ireturn, 1) := by decide +kernel
set_option maxRecDepth 20000 in
theorem ggL_downs_X3_turnDown : GoodIn wsL_downs wsX3_turnDown := goodIn_ca (goodIn_ca (goodIn_ca (goodIn_r _ [7, 8, 9, 10, 11, 12, 13, 14, 6, 15, 16, 17, 18, 19, 20, 21, 22, 23, 24, 25, 26, 27, 28, 29, 30, 31, 32, 33, 34, 35, 36, 37, 38, 39, 40, 41, 42, 43, 44, 45, 46, 47, 48, 49, 50, 51, 52, 53, 54, 55, 56, 57, 58, 59, 60, 61, 62, 63, 64, 65, 66, 67, 68, 69, 70, 71, 72, 73, 74, 75, 76, 77, 78, 79, 80, 81, 82, 83, 84, 85, 86, 87, 88, 89, 90, 91, 92, 93, 94, 95, 96, 97, 98, 99, 100, 101, 102, 103] (by decide +kernel) (by decide +kernel)) (goodIn_sub (fun _ h => List.mem_cons_of_mem _ (List.mem_append_left _ (List.mem_append_left _ (List.mem_append_right _ h)))) (by decide +kernel))) (goodIn_sub (fun _ h => List.mem_cons_of_mem _ (List.mem_append_left _ (List.mem_append_right _ h))) (by decide +kernel))) (goodIn_sub (fun _ h => List.mem_cons_of_mem _ (List.mem_append_right _ h)) (by decide +kernel))
set_option maxRecDepth 20000 in
theorem gL_downs_X3_turnDown : GoodIn wsL_downs (wsV RL 24 RX3 yX3_turnDown wsX3_turnDown) := goodIn_app (goodIn_of _ (by decide +kernel)) ggL_downs_X3_turnDown
theorem dL_downs_0 : decode cL_downs 0 = .ok (.aload_n 0, 1) := by decide +kernel
theorem dL_downs_1 : decode cL_downs 1 = .ok (.iload_n 1, 1) := by decide +kernel
theorem dL_downs_2 : decode cL_downs 2 = .ok (.iload_n 2, 1) := by decide +kernel
theorem dL_downs_3 : decode cL_downs 3 = .ok (.iload_n 3, 1) := by decide +kernel
theorem dL_downs_4 : decode cL_downs 4 = .ok (.invokevirtual 24, 3) := by decide +kernel
theorem dL_downs_7 : decode cL_downs 7 = .ok (.ireturn, 1) := by decide +kernel
theorem dL_downs_8 : decode cL_downs 8 = .ok (.astore 4, 2) := by decide +kernel
theorem dL_downs_10 : decode cL_downs 10 = .ok (.bipush (-2), 2) := by decide +kernel
theorem dL_downs_12 : decode cL_downs 12 = .ok (.ireturn, 1) := by decide +kernel
theorem dL_downs_13 : decode cL_downs 13 = .ok (.astore 4, 2) := by decide +kernel
theorem dL_downs_15 : decode cL_downs 15 = .ok (.bipush (-3), 2) := by decide +kernel
theorem dL_downs_17 : decode cL_downs 17 = .ok (.ireturn, 1) := by decide +kernel
set_option maxRecDepth 20000 in
theorem ggL_pair_X3_pairAt : GoodIn wsL_pair wsX3_pairAt := goodIn_ca (goodIn_r _ [6, 7, 8, 9, 10, 11, 12, 5, 13, 14, 15, 16, 17, 18, 19, 20, 21, 22, 23, 24, 25, 26, 27, 28, 29, 30, 31, 32, 33, 34, 35, 36, 37, 38, 39, 40, 41, 42, 43, 44, 45, 46, 47, 48, 49, 50, 51, 52, 53, 54, 55, 56, 57, 58, 59, 60, 61, 62, 63, 64, 65, 66, 67, 68, 69, 70, 71, 72, 73, 74, 75, 76, 77, 78, 79, 80, 81, 82, 83] (by decide +kernel) (by decide +kernel)) (goodIn_sub (fun _ h => List.mem_cons_of_mem _ (List.mem_append_right _ h)) (by decide +kernel))
set_option maxRecDepth 20000 in
theorem gL_pair_X3_pairAt : GoodIn wsL_pair (wsV RL 28 RX3 yX3_pairAt wsX3_pairAt) := goodIn_app (goodIn_of _ (by decide +kernel)) ggL_pair_X3_pairAt
theorem dL_pair_0 : decode cL_pair 0 = .ok (.aload_n 0, 1) := by decide +kernel
theorem dL_pair_1 : decode cL_pair 1 = .ok (.iload_n 1, 1) := by decide +kernel
theorem dL_pair_2 : decode cL_pair 2 = .ok (.invokevirtual 28, 3) := by decide +kernel
theorem dL_pair_5 : decode cL_pair 5 = .ok (.ireturn, 1) := by decide +kernel
theorem dL_pair_6 : decode cL_pair 6 = .ok (.astore_n 2, 1) := by decide +kernel
theorem dL_pair_7 : decode cL_pair 7 = .ok (.iconst (-1), 1) := by decide +kernel
theorem dL_pair_8 : decode cL_pair 8 = .ok (.ireturn, 1) := by decide +kernel
set_option maxRecDepth 20000 in
theorem ggL_isCard_X3_group : GoodIn wsL_isCard wsX3_group := goodIn_ca (goodIn_r _ [5, 6, 7, 8, 9, 4, 10, 11, 12, 13, 14, 15, 16, 17, 18, 19, 85, 86, 87, 88, 89, 90, 91, 92, 93, 94, 95] (by decide +kernel) (by decide +kernel)) (goodIn_sub (fun _ h => List.mem_cons_of_mem _ (List.mem_append_left _ (List.mem_append_right _ h))) (by decide +kernel))
set_option maxRecDepth 20000 in
theorem gL_isCard_X3_group : GoodIn wsL_isCard (wsV RL 34 RX3 yX3_group wsX3_group) := goodIn_app (goodIn_of _ (by decide +kernel)) ggL_isCard_X3_group
set_option maxRecDepth 20000 in
theorem ggL_isCard_X3_preferred : GoodIn wsL_isCard wsX3_preferred := goodIn_ca (goodIn_r _ [23, 13, 6, 7, 8, 9, 4, 10, 11, 12, 14, 15, 16, 17, 18, 19, 24, 25, 26, 27, 28, 29, 30, 31, 32, 33, 34, 35, 36, 85, 86, 87, 88, 89, 90, 91, 92, 93, 94, 95] (by decide +kernel) (by decide +kernel)) (goodIn_sub (fun _ h => List.mem_cons_of_mem _ (List.mem_append_left _ (List.mem_append_right _ h))) (by decide +kernel))
set_option maxRecDepth 20000 in
theorem gL_isCard_X3_preferred : GoodIn wsL_isCard (wsV RL 37 RX3 yX3_preferred wsX3_preferred) := goodIn_app (goodIn_of _ (by decide +kernel)) ggL_isCard_X3_preferred
set_option maxRecDepth 20000 in
theorem ggL_isCard_X3_values : GoodIn wsL_isCard wsX3_values := goodIn_ca (goodIn_ca (goodIn_r _ [40, 13, 7, 8, 9, 4, 10, 11, 12, 41, 42, 43, 44, 45, 46, 47, 48, 49, 50, 51, 52, 53, 54, 55, 56, 57, 27, 58, 59, 85, 86, 87, 88, 89, 90, 91, 92, 93] (by decide +kernel) (by decide +kernel)) (goodIn_sub (fun _ h => List.mem_cons_of_mem _ (List.mem_append_left _ (List.mem_append_right _ h))) (by decide +kernel))) (goodIn_sub (fun _ h => List.mem_cons_of_mem _ (List.mem_append_right _ h)) (by decide +kernel))
set_option maxRecDepth 20000 in
theorem gL_isCard_X3_values : GoodIn wsL_isCard (wsV RL 40 RX3 yX3_values wsX3_values) := goodIn_app (goodIn_of _ (by decide +kernel)) ggL_isCard_X3_values
set_option maxRecDepth 20000 in
theorem ggL_isCard_X3_merged : GoodIn wsL_isCard wsX3_merged := goodIn_ca (goodIn_ca (goodIn_r _ [63, 13, 7, 8, 9, 4, 10, 11, 12, 47, 48, 49, 50, 51, 52, 53, 54, 64, 65, 66, 27, 67, 68, 56, 57, 58, 59, 85, 86, 87, 88, 89, 90, 91, 92, 93] (by decide +kernel) (by decide +kernel)) (goodIn_sub (fun _ h => List.mem_cons_of_mem _ (List.mem_append_left _ (List.mem_append_right _ h))) (by decide +kernel))) (goodIn_sub (fun _ h => List.mem_cons_of_mem _ (List.mem_append_right _ h)) (by decide +kernel))
set_option maxRecDepth 20000 in
theorem gL_isCard_X3_merged : GoodIn wsL_isCard (wsV RL 44 RX3 yX3_merged wsX3_merged) := goodIn_app (goodIn_of _ (by decide +kernel)) ggL_isCard_X3_merged
set_option maxRecDepth 20000 in
theorem ggL_isCard_X3_mergedByValues : GoodIn wsL_isCard wsX3_mergedByValues := goodIn_ca (goodIn_ca (goodIn_r _ [72, 13, 7, 8, 9, 4, 10, 11, 12, 47, 48, 49, 50, 51, 52, 53, 54, 73, 74, 75, 27, 76, 68, 56, 57, 58, 59, 30, 31, 85, 86, 87, 88, 89, 90, 91, 92, 93] (by decide +kernel) (by decide +kernel)) (goodIn_sub (fun _ h => List.mem_cons_of_mem _ (List.mem_append_left _ (List.mem_append_right _ h))) (by decide +kernel))) (goodIn_sub (fun _ h => List.mem_cons_of_mem _ (List.mem_append_right _ h)) (by decide +kernel))
set_option maxRecDepth 20000 in
theorem gL_isCard_X3_mergedByValues : GoodIn wsL_isCard (wsV RL 47 RX3 yX3_mergedByValues wsX3_mergedByValues) := goodIn_app (goodIn_of _ (by decide +kernel)) ggL_isCard_X3_mergedByValues
set_option maxRecDepth 20000 in
theorem ggL_isCard_X3_shown : GoodIn wsL_isCard wsX3_shown := goodIn_ca (goodIn_ca (goodIn_r _ [80, 13, 6, 7, 8, 9, 4, 10, 11, 12, 47, 48, 49, 50, 51, 52, 53, 54, 14, 15, 16, 17, 18, 19, 81, 82, 83, 27, 84, 29, 30, 31, 68, 56, 57, 58, 59, 85, 86, 87, 88, 89, 90, 91, 92, 93, 94, 95] (by decide +kernel) (by decide +kernel)) (goodIn_sub (fun _ h => List.mem_cons_of_mem _ (List.mem_append_left _ (List.mem_append_right _ h))) (by decide +kernel))) (goodIn_sub (fun _ h => List.mem_cons_of_mem _ (List.mem_append_right _ h)) (by decide +kernel))
set_option maxRecDepth 20000 in
theorem gL_isCard_X3_shown : GoodIn wsL_isCard (wsV RL 50 RX3 yX3_shown wsX3_shown) := goodIn_app (goodIn_of _ (by decide +kernel)) ggL_isCard_X3_shown
theorem dL_isCard_0 : decode cL_isCard 0 = .ok (.aload_n 0, 1) := by decide +kernel
theorem dL_isCard_1 : decode cL_isCard 1 = .ok (.iload_n 1, 1) := by decide +kernel
theorem dL_isCard_2 : decode cL_isCard 2 = .ok (.invokevirtual 34, 3) := by decide +kernel
theorem dL_isCard_5 : decode cL_isCard 5 = .ok (.istore_n 2, 1) := by decide +kernel
theorem dL_isCard_6 : decode cL_isCard 6 = .ok (.aload_n 0, 1) := by decide +kernel
theorem dL_isCard_7 : decode cL_isCard 7 = .ok (.iload_n 1, 1) := by decide +kernel
theorem dL_isCard_8 : decode cL_isCard 8 = .ok (.invokevirtual 37, 3) := by decide +kernel
theorem dL_isCard_11 : decode cL_isCard 11 = .ok (.istore_n 3, 1) := by decide +kernel
theorem dL_isCard_12 : decode cL_isCard 12 = .ok (.iload_n 2, 1) := by decide +kernel
theorem dL_isCard_13 : decode cL_isCard 13 = .ok (.iload_n 1, 1) := by decide +kernel
theorem dL_isCard_14 : decode cL_isCard 14 = .ok (.ishr, 1) := by decide +kernel
theorem dL_isCard_15 : decode cL_isCard 15 = .ok (.iconst 1, 1) := by decide +kernel
theorem dL_isCard_16 : decode cL_isCard 16 = .ok (.iand, 1) := by decide +kernel
theorem dL_isCard_17 : decode cL_isCard 17 = .ok (.iconst 1, 1) := by decide +kernel
theorem dL_isCard_18 : decode cL_isCard 18 = .ok (.if_icmp .ne 34, 3) := by decide +kernel
theorem dL_isCard_21 : decode cL_isCard 21 = .ok (.iload_n 2, 1) := by decide +kernel
theorem dL_isCard_22 : decode cL_isCard 22 = .ok (.iload_n 3, 1) := by decide +kernel
theorem dL_isCard_23 : decode cL_isCard 23 = .ok (.ishr, 1) := by decide +kernel
theorem dL_isCard_24 : decode cL_isCard 24 = .ok (.iconst 1, 1) := by decide +kernel
theorem dL_isCard_25 : decode cL_isCard 25 = .ok (.iand, 1) := by decide +kernel
theorem dL_isCard_26 : decode cL_isCard 26 = .ok (.iconst 1, 1) := by decide +kernel
theorem dL_isCard_27 : decode cL_isCard 27 = .ok (.if_icmp .ne 25, 3) := by decide +kernel
theorem dL_isCard_30 : decode cL_isCard 30 = .ok (.aload_n 0, 1) := by decide +kernel
theorem dL_isCard_31 : decode cL_isCard 31 = .ok (.iload_n 3, 1) := by decide +kernel
theorem dL_isCard_32 : decode cL_isCard 32 = .ok (.invokevirtual 34, 3) := by decide +kernel
theorem dL_isCard_35 : decode cL_isCard 35 = .ok (.iload_n 2, 1) := by decide +kernel
theorem dL_isCard_36 : decode cL_isCard 36 = .ok (.if_icmp .ne 16, 3) := by decide +kernel
theorem dL_isCard_39 : decode cL_isCard 39 = .ok (.aload_n 0, 1) := by decide +kernel
theorem dL_isCard_40 : decode cL_isCard 40 = .ok (.iload_n 3, 1) := by decide +kernel
theorem dL_isCard_41 : decode cL_isCard 41 = .ok (.invokevirtual 37, 3) := by decide +kernel
theorem dL_isCard_44 : decode cL_isCard 44 = .ok (.iload_n 3, 1) := by decide +kernel
theorem dL_isCard_45 : decode cL_isCard 45 = .ok (.if_icmp .ne 7, 3) := by decide +kernel
theorem dL_isCard_48 : decode cL_isCard 48 = .ok (.iconst 1, 1) := by decide +kernel
theorem dL_isCard_49 : decode cL_isCard 49 = .ok (.goto 4, 3) := by decide +kernel
theorem dL_isCard_52 : decode cL_isCard 52 = .ok (.iconst 0, 1) := by decide +kernel
theorem dL_isCard_53 : decode cL_isCard 53 = .ok (.istore 4, 2) := by decide +kernel
theorem dL_isCard_55 : decode cL_isCard 55 = .ok (.iconst 0, 1) := by decide +kernel
theorem dL_isCard_56 : decode cL_isCard 56 = .ok (.istore 5, 2) := by decide +kernel
theorem dL_isCard_58 : decode cL_isCard 58 = .ok (.iload 5, 2) := by decide +kernel
theorem dL_isCard_60 : decode cL_isCard 60 = .ok (.iconst 2, 1) := by decide +kernel
theorem dL_isCard_61 : decode cL_isCard 61 = .ok (.if_icmp .ge 148, 3) := by decide +kernel
theorem dL_isCard_64 : decode cL_isCard 64 = .ok (.iload 4, 2) := by decide +kernel
theorem dL_isCard_66 : decode cL_isCard 66 = .ok (.ifCond .eq 143, 3) := by decide +kernel
theorem dL_isCard_69 : decode cL_isCard 69 = .ok (.aload_n 0, 1) := by decide +kernel
theorem dL_isCard_70 : decode cL_isCard 70 = .ok (.iload_n 1, 1) := by decide +kernel
theorem dL_isCard_71 : decode cL_isCard 71 = .ok (.iconst 0, 1) := by decide +kernel
theorem dL_isCard_72 : decode cL_isCard 72 = .ok (.iload 5, 2) := by decide +kernel
theorem dL_isCard_74 : decode cL_isCard 74 = .ok (.invokevirtual 40, 3) := by decide +kernel
theorem dL_isCard_77 : decode cL_isCard 77 = .ok (.istore 6, 2) := by decide +kernel
theorem dL_isCard_79 : decode cL_isCard 79 = .ok (.aload_n 0, 1) := by decide +kernel
theorem dL_isCard_80 : decode cL_isCard 80 = .ok (.iload_n 1, 1) := by decide +kernel
theorem dL_isCard_81 : decode cL_isCard 81 = .ok (.iconst 1, 1) := by decide +kernel
theorem dL_isCard_82 : decode cL_isCard 82 = .ok (.iload 5, 2) := by decide +kernel
theorem dL_isCard_84 : decode cL_isCard 84 = .ok (.invokevirtual 40, 3) := by decide +kernel
theorem dL_isCard_87 : decode cL_isCard 87 = .ok (.istore 7, 2) := by decide +kernel
theorem dL_isCard_89 : decode cL_isCard 89 = .ok (.aload_n 0, 1) := by decide +kernel
theorem dL_isCard_90 : decode cL_isCard 90 = .ok (.iload_n 1, 1) := by decide +kernel
theorem dL_isCard_91 : decode cL_isCard 91 = .ok (.iconst 2, 1) := by decide +kernel
theorem dL_isCard_92 : decode cL_isCard 92 = .ok (.iload 5, 2) := by decide +kernel
theorem dL_isCard_94 : decode cL_isCard 94 = .ok (.invokevirtual 40, 3) := by decide +kernel
theorem dL_isCard_97 : decode cL_isCard 97 = .ok (.istore 8, 2) := by decide +kernel
theorem dL_isCard_99 : decode cL_isCard 99 = .ok (.aload_n 0, 1) := by decide +kernel
theorem dL_isCard_100 : decode cL_isCard 100 = .ok (.iload_n 1, 1) := by decide +kernel
theorem dL_isCard_101 : decode cL_isCard 101 = .ok (.iload 5, 2) := by decide +kernel
theorem dL_isCard_103 : decode cL_isCard 103 = .ok (.invokevirtual 44, 3) := by decide +kernel
theorem dL_isCard_106 : decode cL_isCard 106 = .ok (.istore 9, 2) := by decide +kernel
theorem dL_isCard_108 : decode cL_isCard 108 = .ok (.iload 9, 2) := by decide +kernel
theorem dL_isCard_110 : decode cL_isCard 110 = .ok (.aload_n 0, 1) := by decide +kernel
theorem dL_isCard_111 : decode cL_isCard 111 = .ok (.iload_n 1, 1) := by decide +kernel
theorem dL_isCard_112 : decode cL_isCard 112 = .ok (.iload 5, 2) := by decide +kernel
theorem dL_isCard_114 : decode cL_isCard 114 = .ok (.invokevirtual 47, 3) := by decide +kernel
theorem dL_isCard_117 : decode cL_isCard 117 = .ok (.if_icmp .ne 83, 3) := by decide +kernel
theorem dL_isCard_120 : decode cL_isCard 120 = .ok (.iload 9, 2) := by decide +kernel
theorem dL_isCard_122 : decode cL_isCard 122 = .ok (.iload 6, 2) := by decide +kernel
theorem dL_isCard_124 : decode cL_isCard 124 = .ok (.iload 7, 2) := by decide +kernel
theorem dL_isCard_126 : decode cL_isCard 126 = .ok (.ior, 1) := by decide +kernel
theorem dL_isCard_127 : decode cL_isCard 127 = .ok (.iconst (-1), 1) := by decide +kernel
theorem dL_isCard_128 : decode cL_isCard 128 = .ok (.ixor, 1) := by decide +kernel
theorem dL_isCard_129 : decode cL_isCard 129 = .ok (.iand, 1) := by decide +kernel
theorem dL_isCard_130 : decode cL_isCard 130 = .ok (.ifCond .ne 70, 3) := by decide +kernel
theorem dL_isCard_133 : decode cL_isCard 133 = .ok (.iload 6, 2) := by decide +kernel
theorem dL_isCard_135 : decode cL_isCard 135 = .ok (.iload 7, 2) := by decide +kernel
theorem dL_isCard_137 : decode cL_isCard 137 = .ok (.iand, 1) := by decide +kernel
theorem dL_isCard_138 : decode cL_isCard 138 = .ok (.iload 9, 2) := by decide +kernel
theorem dL_isCard_140 : decode cL_isCard 140 = .ok (.iconst (-1), 1) := by decide +kernel
theorem dL_isCard_141 : decode cL_isCard 141 = .ok (.ixor, 1) := by decide +kernel
theorem dL_isCard_142 : decode cL_isCard 142 = .ok (.iand, 1) := by decide +kernel
theorem dL_isCard_143 : decode cL_isCard 143 = .ok (.ifCond .ne 57, 3) := by decide +kernel
theorem dL_isCard_146 : decode cL_isCard 146 = .ok (.iload 6, 2) := by decide +kernel
theorem dL_isCard_148 : decode cL_isCard 148 = .ok (.iload 7, 2) := by decide +kernel
theorem dL_isCard_150 : decode cL_isCard 150 = .ok (.ior, 1) := by decide +kernel
theorem dL_isCard_151 : decode cL_isCard 151 = .ok (.iload 8, 2) := by decide +kernel
theorem dL_isCard_153 : decode cL_isCard 153 = .ok (.iconst (-1), 1) := by decide +kernel
theorem dL_isCard_154 : decode cL_isCard 154 = .ok (.ixor, 1) := by decide +kernel
theorem dL_isCard_155 : decode cL_isCard 155 = .ok (.iand, 1) := by decide +kernel
theorem dL_isCard_156 : decode cL_isCard 156 = .ok (.iload 9, 2) := by decide +kernel
theorem dL_isCard_158 : decode cL_isCard 158 = .ok (.iconst (-1), 1) := by decide +kernel
theorem dL_isCard_159 : decode cL_isCard 159 = .ok (.ixor, 1) := by decide +kernel
theorem dL_isCard_160 : decode cL_isCard 160 = .ok (.iand, 1) := by decide +kernel
theorem dL_isCard_161 : decode cL_isCard 161 = .ok (.ifCond .ne 39, 3) := by decide +kernel
theorem dL_isCard_164 : decode cL_isCard 164 = .ok (.iload 6, 2) := by decide +kernel
theorem dL_isCard_166 : decode cL_isCard 166 = .ok (.aload_n 0, 1) := by decide +kernel
theorem dL_isCard_167 : decode cL_isCard 167 = .ok (.iload_n 1, 1) := by decide +kernel
theorem dL_isCard_168 : decode cL_isCard 168 = .ok (.iload 5, 2) := by decide +kernel
theorem dL_isCard_170 : decode cL_isCard 170 = .ok (.invokevirtual 50, 3) := by decide +kernel
theorem dL_isCard_173 : decode cL_isCard 173 = .ok (.iconst (-1), 1) := by decide +kernel
theorem dL_isCard_174 : decode cL_isCard 174 = .ok (.ixor, 1) := by decide +kernel
theorem dL_isCard_175 : decode cL_isCard 175 = .ok (.iand, 1) := by decide +kernel
theorem dL_isCard_176 : decode cL_isCard 176 = .ok (.ifCond .ne 24, 3) := by decide +kernel
theorem dL_isCard_179 : decode cL_isCard 179 = .ok (.aload_n 0, 1) := by decide +kernel
theorem dL_isCard_180 : decode cL_isCard 180 = .ok (.iload_n 1, 1) := by decide +kernel
theorem dL_isCard_181 : decode cL_isCard 181 = .ok (.iload 5, 2) := by decide +kernel
theorem dL_isCard_183 : decode cL_isCard 183 = .ok (.invokevirtual 50, 3) := by decide +kernel
theorem dL_isCard_186 : decode cL_isCard 186 = .ok (.aload_n 0, 1) := by decide +kernel
theorem dL_isCard_187 : decode cL_isCard 187 = .ok (.iload_n 3, 1) := by decide +kernel
theorem dL_isCard_188 : decode cL_isCard 188 = .ok (.iload 5, 2) := by decide +kernel
theorem dL_isCard_190 : decode cL_isCard 190 = .ok (.invokevirtual 50, 3) := by decide +kernel
theorem dL_isCard_193 : decode cL_isCard 193 = .ok (.if_icmp .ne 7, 3) := by decide +kernel
theorem dL_isCard_196 : decode cL_isCard 196 = .ok (.iconst 1, 1) := by decide +kernel
theorem dL_isCard_197 : decode cL_isCard 197 = .ok (.goto 4, 3) := by decide +kernel
theorem dL_isCard_200 : decode cL_isCard 200 = .ok (.iconst 0, 1) := by decide +kernel
theorem dL_isCard_201 : decode cL_isCard 201 = .ok (.istore 4, 2) := by decide +kernel
theorem dL_isCard_203 : decode cL_isCard 203 = .ok (.iinc 5 1, 3) := by decide +kernel
theorem dL_isCard_206 : decode cL_isCard 206 = .ok (.goto (-148), 3) := by decide +kernel
theorem dL_isCard_209 : decode cL_isCard 209 = .ok (.iload 4, 2) := by decide +kernel
theorem dL_isCard_211 : decode cL_isCard 211 = .ok (.ireturn, 1) := by decide +kernel
set_option maxRecDepth 20000 in
theorem ggL_arePairs_X3_pairs : GoodIn wsL_arePairs wsX3_pairs := goodIn_r _ [5, 6, 7, 8, 4, 9, 10, 11, 12, 13, 14, 15, 16, 17, 18, 19, 20, 21, 22, 23, 24, 25, 26, 27, 28, 29, 30, 31, 32, 33, 34, 35, 36, 37, 38, 39, 40, 41, 42, 43, 44, 45, 46, 47, 48, 49, 50, 51, 52, 53, 54, 55, 56, 57, 58, 59, 60, 61, 62, 63, 104, 105, 106, 107, 108, 109, 110, 111, 112, 113, 114, 115, 116] (by decide +kernel) (by decide +kernel)
set_option maxRecDepth 20000 in
theorem gL_arePairs_X3_pairs : GoodIn wsL_arePairs (wsV RL 53 RX3 yX3_pairs wsX3_pairs) := goodIn_app (goodIn_of _ (by decide +kernel)) ggL_arePairs_X3_pairs
set_option maxRecDepth 20000 in
theorem ggL_arePairs_L_pair : GoodIn wsL_arePairs wsL_pair := goodIn_ca (goodIn_r _ [67, 68, 69, 70, 71, 4, 72, 73, 74, 10, 6, 7, 8, 9, 11, 12, 13, 14, 15, 16, 17, 18, 19, 20, 21, 22, 23, 24, 25, 26, 27, 28, 29, 30, 31, 32, 33, 34, 35, 36, 37, 38, 39, 40, 41, 42, 43, 44, 45, 46, 47, 48, 49, 50, 51, 52, 53, 54, 55, 56, 57, 58, 59, 60, 61, 62, 63, 75, 76, 77, 78, 104, 105, 106, 107, 108, 109, 110, 111, 112, 113, 114, 115, 116] (by decide +kernel) (by decide +kernel)) (goodIn_sub (fun _ h => List.mem_cons_of_mem _ (List.mem_append_left _ (List.mem_append_right _ h))) (by decide +kernel))
set_option maxRecDepth 20000 in
theorem gL_arePairs_L_pair : GoodIn wsL_arePairs (va_wsS RL 57 yL_pair wsL_pair) := goodIn_app (goodIn_of _ (by decide +kernel)) ggL_arePairs_L_pair
set_option maxRecDepth 20000 in
theorem ggL_arePairs_X3_pairAt : GoodIn wsL_arePairs wsX3_pairAt := goodIn_ca (goodIn_r _ [72, 73, 74, 10, 6, 7, 8, 4, 9, 11, 12, 13, 14, 15, 16, 17, 18, 19, 20, 21, 22, 23, 24, 25, 26, 27, 28, 29, 30, 31, 32, 33, 34, 35, 36, 37, 38, 39, 40, 41, 42, 43, 44, 45, 46, 47, 48, 49, 50, 51, 52, 53, 54, 55, 56, 57, 58, 59, 60, 61, 62, 63, 75, 76, 77, 78, 104, 105, 106, 107, 108, 109, 110, 111, 112, 113, 114, 115, 116] (by decide +kernel) (by decide +kernel)) (goodIn_sub (fun _ h => List.mem_cons_of_mem _ (List.mem_append_left _ (List.mem_append_right _ h))) (by decide +kernel))
set_option maxRecDepth 20000 in
theorem gL_arePairs_X3_pairAt : GoodIn wsL_arePairs (wsV RL 28 RX3 yX3_pairAt wsX3_pairAt) := goodIn_app (goodIn_of _ (by decide +kernel)) ggL_arePairs_X3_pairAt
set_option maxRecDepth 20000 in
theorem ggL_arePairs_X3_score : GoodIn wsL_arePairs wsX3_score := goodIn_ca (goodIn_ca (goodIn_r _ [82, 83, 84, 85, 4, 86, 87, 88, 89, 90, 73, 74, 11, 91, 92, 93, 94, 95, 32, 33, 34, 35, 36, 37, 38, 39, 40, 41, 42, 30, 31, 43, 44, 45, 20, 46, 47, 48, 49, 50, 51, 52, 53, 54, 55, 56, 57, 58, 59, 60, 61, 62, 63, 104, 105, 106, 107, 108, 109, 110, 111, 112, 115, 116] (by decide +kernel) (by decide +kernel)) (goodIn_sub (fun _ h => List.mem_cons_of_mem _ (List.mem_append_left _ (List.mem_append_right _ h))) (by decide +kernel))) (goodIn_sub (fun _ h => List.mem_cons_of_mem _ (List.mem_append_right _ h)) (by decide +kernel))
set_option maxRecDepth 20000 in
theorem gL_arePairs_X3_score : GoodIn wsL_arePairs (wsV RL 63 RX3 yX3_score wsX3_score) := goodIn_app (goodIn_of _ (by decide +kernel)) ggL_arePairs_X3_score
set_option maxRecDepth 20000 in
theorem ggL_arePairs_X3_group : GoodIn wsL_arePairs wsX3_group := goodIn_ca (goodIn_r _ [99, 36, 87, 88, 89, 4, 90, 73, 74, 11, 100, 101, 102, 40, 103, 42, 104, 105, 106, 107, 108, 109, 110, 111, 112, 115, 116] (by decide +kernel) (by decide +kernel)) (goodIn_sub (fun _ h => List.mem_cons_of_mem _ (List.mem_append_left _ (List.mem_append_right _ h))) (by decide +kernel))
set_option maxRecDepth 20000 in
theorem gL_arePairs_X3_group : GoodIn wsL_arePairs (wsV RL 34 RX3 yX3_group wsX3_group) := goodIn_app (goodIn_of _ (by decide +kernel)) ggL_arePairs_X3_group
theorem dL_arePairs_0 : decode cL_arePairs 0 = .ok (.aload_n 0, 1) := by decide +kernel
theorem dL_arePairs_1 : decode cL_arePairs 1 = .ok (.invokevirtual 53, 3) := by decide +kernel
theorem dL_arePairs_4 : decode cL_arePairs 4 = .ok (.istore_n 2, 1) := by decide +kernel
theorem dL_arePairs_5 : decode cL_arePairs 5 = .ok (.aload_n 0, 1) := by decide +kernel
theorem dL_arePairs_6 : decode cL_arePairs 6 = .ok (.iload_n 2, 1) := by decide +kernel
theorem dL_arePairs_7 : decode cL_arePairs 7 = .ok (.invokestatic 57, 3) := by decide +kernel
theorem dL_arePairs_10 : decode cL_arePairs 10 = .ok (.iconst (-1), 1) := by decide +kernel
theorem dL_arePairs_11 : decode cL_arePairs 11 = .ok (.if_icmp .ne 14, 3) := by decide +kernel
theorem dL_arePairs_14 : decode cL_arePairs 14 = .ok (.iload_n 2, 1) := by decide +kernel
theorem dL_arePairs_15 : decode cL_arePairs 15 = .ok (.sipush 276, 3) := by decide +kernel
theorem dL_arePairs_18 : decode cL_arePairs 18 = .ok (.if_icmp .gt 7, 3) := by decide +kernel
theorem dL_arePairs_21 : decode cL_arePairs 21 = .ok (.iconst 1, 1) := by decide +kernel
theorem dL_arePairs_22 : decode cL_arePairs 22 = .ok (.goto 4, 3) := by decide +kernel
theorem dL_arePairs_25 : decode cL_arePairs 25 = .ok (.iconst 0, 1) := by decide +kernel
theorem dL_arePairs_26 : decode cL_arePairs 26 = .ok (.istore_n 3, 1) := by decide +kernel
theorem dL_arePairs_27 : decode cL_arePairs 27 = .ok (.iconst 0, 1) := by decide +kernel
theorem dL_arePairs_28 : decode cL_arePairs 28 = .ok (.istore 4, 2) := by decide +kernel
theorem dL_arePairs_30 : decode cL_arePairs 30 = .ok (.iload 4, 2) := by decide +kernel
theorem dL_arePairs_32 : decode cL_arePairs 32 = .ok (.bipush 24, 2) := by decide +kernel
theorem dL_arePairs_34 : decode cL_arePairs 34 = .ok (.if_icmp .ge 14, 3) := by decide +kernel
theorem dL_arePairs_37 : decode cL_arePairs 37 = .ok (.aload_n 1, 1) := by decide +kernel
theorem dL_arePairs_38 : decode cL_arePairs 38 = .ok (.iload 4, 2) := by decide +kernel
theorem dL_arePairs_40 : decode cL_arePairs 40 = .ok (.iconst 0, 1) := by decide +kernel
theorem dL_arePairs_41 : decode cL_arePairs 41 = .ok (.iastore, 1) := by decide +kernel
theorem dL_arePairs_42 : decode cL_arePairs 42 = .ok (.iinc 4 1, 3) := by decide +kernel
theorem dL_arePairs_45 : decode cL_arePairs 45 = .ok (.goto (-15), 3) := by decide +kernel
theorem dL_arePairs_48 : decode cL_arePairs 48 = .ok (.sipush 1000, 3) := by decide +kernel
theorem dL_arePairs_51 : decode cL_arePairs 51 = .ok (.istore 4, 2) := by decide +kernel
theorem dL_arePairs_53 : decode cL_arePairs 53 = .ok (.iconst (-1), 1) := by decide +kernel
theorem dL_arePairs_54 : decode cL_arePairs 54 = .ok (.istore 5, 2) := by decide +kernel
theorem dL_arePairs_56 : decode cL_arePairs 56 = .ok (.iconst 0, 1) := by decide +kernel
theorem dL_arePairs_57 : decode cL_arePairs 57 = .ok (.istore 6, 2) := by decide +kernel
theorem dL_arePairs_59 : decode cL_arePairs 59 = .ok (.iload 6, 2) := by decide +kernel
theorem dL_arePairs_61 : decode cL_arePairs 61 = .ok (.iload_n 2, 1) := by decide +kernel
theorem dL_arePairs_62 : decode cL_arePairs 62 = .ok (.if_icmp .ge 149, 3) := by decide +kernel
theorem dL_arePairs_65 : decode cL_arePairs 65 = .ok (.iload 6, 2) := by decide +kernel
theorem dL_arePairs_67 : decode cL_arePairs 67 = .ok (.bipush 12, 2) := by decide +kernel
theorem dL_arePairs_69 : decode cL_arePairs 69 = .ok (.if_icmp .ge 142, 3) := by decide +kernel
theorem dL_arePairs_72 : decode cL_arePairs 72 = .ok (.iload_n 3, 1) := by decide +kernel
theorem dL_arePairs_73 : decode cL_arePairs 73 = .ok (.ifCond .eq 138, 3) := by decide +kernel
theorem dL_arePairs_76 : decode cL_arePairs 76 = .ok (.aload_n 0, 1) := by decide +kernel
theorem dL_arePairs_77 : decode cL_arePairs 77 = .ok (.iload 6, 2) := by decide +kernel
theorem dL_arePairs_79 : decode cL_arePairs 79 = .ok (.invokevirtual 28, 3) := by decide +kernel
theorem dL_arePairs_82 : decode cL_arePairs 82 = .ok (.istore 7, 2) := by decide +kernel
theorem dL_arePairs_84 : decode cL_arePairs 84 = .ok (.iload 7, 2) := by decide +kernel
theorem dL_arePairs_86 : decode cL_arePairs 86 = .ok (.bipush 100, 2) := by decide +kernel
theorem dL_arePairs_88 : decode cL_arePairs 88 = .ok (.idiv, 1) := by decide +kernel
theorem dL_arePairs_89 : decode cL_arePairs 89 = .ok (.istore 8, 2) := by decide +kernel
theorem dL_arePairs_91 : decode cL_arePairs 91 = .ok (.iload 7, 2) := by decide +kernel
theorem dL_arePairs_93 : decode cL_arePairs 93 = .ok (.bipush 100, 2) := by decide +kernel
theorem dL_arePairs_95 : decode cL_arePairs 95 = .ok (.irem, 1) := by decide +kernel
theorem dL_arePairs_96 : decode cL_arePairs 96 = .ok (.istore 9, 2) := by decide +kernel
theorem dL_arePairs_98 : decode cL_arePairs 98 = .ok (.aload_n 0, 1) := by decide +kernel
theorem dL_arePairs_99 : decode cL_arePairs 99 = .ok (.iload 8, 2) := by decide +kernel
theorem dL_arePairs_101 : decode cL_arePairs 101 = .ok (.iload 9, 2) := by decide +kernel
theorem dL_arePairs_103 : decode cL_arePairs 103 = .ok (.invokevirtual 63, 3) := by decide +kernel
theorem dL_arePairs_106 : decode cL_arePairs 106 = .ok (.istore 10, 2) := by decide +kernel
theorem dL_arePairs_108 : decode cL_arePairs 108 = .ok (.iload 8, 2) := by decide +kernel
theorem dL_arePairs_110 : decode cL_arePairs 110 = .ok (.iload 9, 2) := by decide +kernel
theorem dL_arePairs_112 : decode cL_arePairs 112 = .ok (.if_icmp .ge 72, 3) := by decide +kernel
theorem dL_arePairs_115 : decode cL_arePairs 115 = .ok (.iload 10, 2) := by decide +kernel
theorem dL_arePairs_117 : decode cL_arePairs 117 = .ok (.ifCond .le 67, 3) := by decide +kernel
theorem dL_arePairs_120 : decode cL_arePairs 120 = .ok (.iload 10, 2) := by decide +kernel
theorem dL_arePairs_122 : decode cL_arePairs 122 = .ok (.iload 4, 2) := by decide +kernel
theorem dL_arePairs_124 : decode cL_arePairs 124 = .ok (.if_icmp .lt 17, 3) := by decide +kernel
theorem dL_arePairs_127 : decode cL_arePairs 127 = .ok (.iload 10, 2) := by decide +kernel
theorem dL_arePairs_129 : decode cL_arePairs 129 = .ok (.iload 4, 2) := by decide +kernel
theorem dL_arePairs_131 : decode cL_arePairs 131 = .ok (.if_icmp .ne 53, 3) := by decide +kernel
theorem dL_arePairs_134 : decode cL_arePairs 134 = .ok (.iload 7, 2) := by decide +kernel
theorem dL_arePairs_136 : decode cL_arePairs 136 = .ok (.iload 5, 2) := by decide +kernel
theorem dL_arePairs_138 : decode cL_arePairs 138 = .ok (.if_icmp .le 46, 3) := by decide +kernel
theorem dL_arePairs_141 : decode cL_arePairs 141 = .ok (.aload_n 1, 1) := by decide +kernel
theorem dL_arePairs_142 : decode cL_arePairs 142 = .ok (.iload 8, 2) := by decide +kernel
theorem dL_arePairs_144 : decode cL_arePairs 144 = .ok (.iaload, 1) := by decide +kernel
theorem dL_arePairs_145 : decode cL_arePairs 145 = .ok (.iload 9, 2) := by decide +kernel
theorem dL_arePairs_147 : decode cL_arePairs 147 = .ok (.ishr, 1) := by decide +kernel
theorem dL_arePairs_148 : decode cL_arePairs 148 = .ok (.iconst 1, 1) := by decide +kernel
theorem dL_arePairs_149 : decode cL_arePairs 149 = .ok (.iand, 1) := by decide +kernel
theorem dL_arePairs_150 : decode cL_arePairs 150 = .ok (.ifCond .ne 34, 3) := by decide +kernel
theorem dL_arePairs_153 : decode cL_arePairs 153 = .ok (.aload_n 0, 1) := by decide +kernel
theorem dL_arePairs_154 : decode cL_arePairs 154 = .ok (.iload 8, 2) := by decide +kernel
theorem dL_arePairs_156 : decode cL_arePairs 156 = .ok (.invokevirtual 34, 3) := by decide +kernel
theorem dL_arePairs_159 : decode cL_arePairs 159 = .ok (.iload 9, 2) := by decide +kernel
theorem dL_arePairs_161 : decode cL_arePairs 161 = .ok (.ishr, 1) := by decide +kernel
theorem dL_arePairs_162 : decode cL_arePairs 162 = .ok (.iconst 1, 1) := by decide +kernel
theorem dL_arePairs_163 : decode cL_arePairs 163 = .ok (.iand, 1) := by decide +kernel
theorem dL_arePairs_164 : decode cL_arePairs 164 = .ok (.ifCond .ne 20, 3) := by decide +kernel
theorem dL_arePairs_167 : decode cL_arePairs 167 = .ok (.aload_n 0, 1) := by decide +kernel
theorem dL_arePairs_168 : decode cL_arePairs 168 = .ok (.iload 9, 2) := by decide +kernel
theorem dL_arePairs_170 : decode cL_arePairs 170 = .ok (.iload 8, 2) := by decide +kernel
theorem dL_arePairs_172 : decode cL_arePairs 172 = .ok (.invokevirtual 63, 3) := by decide +kernel
theorem dL_arePairs_175 : decode cL_arePairs 175 = .ok (.iload 10, 2) := by decide +kernel
theorem dL_arePairs_177 : decode cL_arePairs 177 = .ok (.if_icmp .ne 7, 3) := by decide +kernel
theorem dL_arePairs_180 : decode cL_arePairs 180 = .ok (.iconst 1, 1) := by decide +kernel
theorem dL_arePairs_181 : decode cL_arePairs 181 = .ok (.goto 4, 3) := by decide +kernel
theorem dL_arePairs_184 : decode cL_arePairs 184 = .ok (.iconst 0, 1) := by decide +kernel
theorem dL_arePairs_185 : decode cL_arePairs 185 = .ok (.istore_n 3, 1) := by decide +kernel
theorem dL_arePairs_186 : decode cL_arePairs 186 = .ok (.aload_n 1, 1) := by decide +kernel
theorem dL_arePairs_187 : decode cL_arePairs 187 = .ok (.iload 8, 2) := by decide +kernel
theorem dL_arePairs_189 : decode cL_arePairs 189 = .ok (.dup2, 1) := by decide +kernel
theorem dL_arePairs_190 : decode cL_arePairs 190 = .ok (.iaload, 1) := by decide +kernel
theorem dL_arePairs_191 : decode cL_arePairs 191 = .ok (.iconst 1, 1) := by decide +kernel
theorem dL_arePairs_192 : decode cL_arePairs 192 = .ok (.iload 9, 2) := by decide +kernel
theorem dL_arePairs_194 : decode cL_arePairs 194 = .ok (.ishl, 1) := by decide +kernel
theorem dL_arePairs_195 : decode cL_arePairs 195 = .ok (.ior, 1) := by decide +kernel
theorem dL_arePairs_196 : decode cL_arePairs 196 = .ok (.iastore, 1) := by decide +kernel
theorem dL_arePairs_197 : decode cL_arePairs 197 = .ok (.iload 10, 2) := by decide +kernel
theorem dL_arePairs_199 : decode cL_arePairs 199 = .ok (.istore 4, 2) := by decide +kernel
theorem dL_arePairs_201 : decode cL_arePairs 201 = .ok (.iload 7, 2) := by decide +kernel
theorem dL_arePairs_203 : decode cL_arePairs 203 = .ok (.istore 5, 2) := by decide +kernel
theorem dL_arePairs_205 : decode cL_arePairs 205 = .ok (.iinc 6 1, 3) := by decide +kernel
theorem dL_arePairs_208 : decode cL_arePairs 208 = .ok (.goto (-149), 3) := by decide +kernel
theorem dL_arePairs_211 : decode cL_arePairs 211 = .ok (.iload_n 3, 1) := by decide +kernel
theorem dL_arePairs_212 : decode cL_arePairs 212 = .ok (.ireturn, 1) := by decide +kernel
set_option maxRecDepth 20000 in
theorem ggL_law_X3_init : GoodIn wsL_law wsX3_init := goodIn_r _ [9, 10, 11, 12, 13, 14, 15, 16, 17, 18, 19, 20, 21, 22, 23, 24, 3, 25, 26, 27, 28, 29, 30, 31, 32, 33, 34, 35, 36, 37, 38, 39, 40, 41, 42, 43, 44, 45, 46, 47, 48, 350, 351, 352, 353, 354, 346, 347, 348, 349, 355, 356, 357, 358] (by decide +kernel) (by decide +kernel)
set_option maxRecDepth 20000 in
theorem gL_law_X3_init : GoodIn wsL_law (wsX3_init) := ggL_law_X3_init
set_option maxRecDepth 20000 in
theorem ggL_law_L_arePairs : GoodIn wsL_law wsL_arePairs := goodIn_ca (goodIn_ca (goodIn_r _ [52, 53, 54, 55, 2, 56, 57, 58, 59, 60, 25, 16, 61, 62, 63, 64, 24, 65, 66, 67, 15, 68, 34, 69, 70, 71, 23, 72, 46, 48, 73, 74, 75, 76, 77, 78, 20, 79, 80, 81, 19, 82, 41, 83, 84, 85, 86, 87, 88, 89, 90, 33, 91, 92, 93, 94, 95, 96, 97, 98, 99, 100, 101, 32, 102, 103, 51, 104, 105, 106, 107, 108, 109, 110, 111, 112, 113, 114, 115, 116, 117, 118, 119, 120, 121, 122, 123, 124, 125, 126, 127, 128, 129, 130, 131, 132, 133, 134, 135, 136, 137, 138, 139, 140, 346, 347, 348, 349, 350, 351, 352, 353, 354, 357, 358, 355, 356] (by decide +kernel) (by decide +kernel)) (goodIn_sub (fun _ h => List.mem_append_left _ (List.mem_append_left _ (List.mem_append_right _ h))) (by decide +kernel))) (goodIn_sub (fun _ h => List.mem_append_left _ (List.mem_append_right _ h)) (by decide +kernel))
set_option maxRecDepth 20000 in
theorem gL_law_L_arePairs : GoodIn wsL_law (va_wsS RL 67 yL_arePairs wsL_arePairs) := goodIn_app (goodIn_of _ (by decide +kernel)) ggL_law_L_arePairs
set_option maxRecDepth 20000 in
theorem ggL_law_X3_cards : GoodIn wsL_law wsX3_cards := goodIn_r _ [144, 16, 346, 347, 348, 349, 350, 351, 352, 353, 354] (by decide +kernel) (by decide +kernel)
set_option maxRecDepth 20000 in
theorem gL_law_X3_cards : GoodIn wsL_law (wsV RL 74 RX3 yX3_cards wsX3_cards) := goodIn_app (goodIn_of _ (by decide +kernel)) ggL_law_X3_cards
set_option maxRecDepth 20000 in
theorem ggL_law_L_adds : GoodIn wsL_law wsL_adds := goodIn_ca (goodIn_ca (goodIn_ca (goodIn_r _ [147, 148, 149, 150, 151, 2, 152, 153, 154, 16, 155, 156, 157, 158, 110, 111, 159, 160, 161, 128, 129, 130, 131, 132, 162, 163, 164, 15, 165, 35, 30, 32, 346, 347, 348, 349, 350, 351, 352, 353, 354] (by decide +kernel) (by decide +kernel)) (goodIn_sub (fun _ h => List.mem_append_right _ h) (by decide +kernel))) (goodIn_sub (fun _ h => List.mem_append_left _ (List.mem_append_left _ (List.mem_append_right _ h))) (by decide +kernel))) (goodIn_sub (fun _ h => List.mem_append_left _ (List.mem_append_right _ h)) (by decide +kernel))
set_option maxRecDepth 20000 in
theorem gL_law_L_adds : GoodIn wsL_law (va_wsS RL 77 yL_adds wsL_adds) := goodIn_app (goodIn_of _ (by decide +kernel)) ggL_law_L_adds
set_option maxRecDepth 20000 in
theorem ggL_law_X3_group : GoodIn wsL_law wsX3_group := goodIn_ca (goodIn_r _ [136, 20, 124, 125, 126, 2, 127, 110, 111, 16, 137, 138, 139, 19, 140, 41, 346, 347, 348, 349, 350, 351, 352, 353, 354, 355, 356] (by decide +kernel) (by decide +kernel)) (goodIn_sub (fun _ h => List.mem_append_left _ (List.mem_append_left _ (List.mem_append_right _ h))) (by decide +kernel))
set_option maxRecDepth 20000 in
theorem gL_law_X3_group : GoodIn wsL_law (wsV RL 34 RX3 yX3_group wsX3_group) := goodIn_app (goodIn_of _ (by decide +kernel)) ggL_law_X3_group
set_option maxRecDepth 20000 in
theorem ggL_law_X3_nameOf : GoodIn wsL_law wsX3_nameOf := goodIn_ca (goodIn_ca (goodIn_r _ [169, 16, 124, 125, 126, 2, 127, 110, 111, 170, 171, 172, 173, 174, 175, 128, 129, 130, 131, 132, 98, 99, 100, 15, 101, 32, 346, 347, 348, 349, 350, 351, 352, 353, 354] (by decide +kernel) (by decide +kernel)) (goodIn_sub (fun _ h => List.mem_append_left _ (List.mem_append_left _ (List.mem_append_right _ h))) (by decide +kernel))) (goodIn_sub (fun _ h => List.mem_append_left _ (List.mem_append_right _ h)) (by decide +kernel))
set_option maxRecDepth 20000 in
theorem gL_law_X3_nameOf : GoodIn wsL_law (wsV RL 81 RX3 yX3_nameOf wsX3_nameOf) := goodIn_app (goodIn_of _ (by decide +kernel)) ggL_law_X3_nameOf
set_option maxRecDepth 20000 in
theorem ggL_law_X3_values : GoodIn wsL_law wsX3_values := goodIn_ca (goodIn_ca (goodIn_r _ [179, 16, 124, 125, 126, 2, 127, 110, 111, 170, 171, 172, 173, 174, 175, 180, 181, 182, 128, 129, 130, 131, 132, 183, 88, 89, 15, 90, 33, 346, 347, 348, 349, 350, 351, 352, 353, 354] (by decide +kernel) (by decide +kernel)) (goodIn_sub (fun _ h => List.mem_append_left _ (List.mem_append_left _ (List.mem_append_right _ h))) (by decide +kernel))) (goodIn_sub (fun _ h => List.mem_append_left _ (List.mem_append_right _ h)) (by decide +kernel))
set_option maxRecDepth 20000 in
theorem gL_law_X3_values : GoodIn wsL_law (wsV RL 40 RX3 yX3_values wsX3_values) := goodIn_app (goodIn_of _ (by decide +kernel)) ggL_law_X3_values
set_option maxRecDepth 20000 in
theorem ggL_law_X3_turn : GoodIn wsL_law wsX3_turn := goodIn_ca (goodIn_ca (goodIn_r _ [187, 16, 124, 125, 126, 2, 127, 110, 111, 173, 174, 175, 180, 181, 182, 188, 189, 190, 128, 129, 130, 131, 132, 183, 88, 89, 15, 90, 33, 191, 192, 193, 194, 34, 87, 195, 73, 74, 346, 347, 348, 349, 350, 351, 352, 353, 354] (by decide +kernel) (by decide +kernel)) (goodIn_sub (fun _ h => List.mem_append_left _ (List.mem_append_left _ (List.mem_append_right _ h))) (by decide +kernel))) (goodIn_sub (fun _ h => List.mem_append_left _ (List.mem_append_right _ h)) (by decide +kernel))
set_option maxRecDepth 20000 in
theorem gL_law_X3_turn : GoodIn wsL_law (wsV RL 84 RX3 yX3_turn wsX3_turn) := goodIn_app (goodIn_of _ (by decide +kernel)) ggL_law_X3_turn
set_option maxRecDepth 20000 in
theorem ggL_law_X3_rename : GoodIn wsL_law wsX3_rename := goodIn_ca (goodIn_ca (goodIn_r _ [199, 16, 124, 125, 126, 2, 127, 110, 111, 173, 174, 175, 159, 160, 161, 128, 129, 130, 131, 132, 98, 99, 100, 15, 101, 32, 200, 201, 202, 203, 34, 346, 347, 348, 349, 350, 351, 352, 353, 354] (by decide +kernel) (by decide +kernel)) (goodIn_sub (fun _ h => List.mem_append_left _ (List.mem_append_left _ (List.mem_append_right _ h))) (by decide +kernel))) (goodIn_sub (fun _ h => List.mem_append_left _ (List.mem_append_right _ h)) (by decide +kernel))
set_option maxRecDepth 20000 in
theorem gL_law_X3_rename : GoodIn wsL_law (wsV RL 88 RX3 yX3_rename wsX3_rename) := goodIn_app (goodIn_of _ (by decide +kernel)) ggL_law_X3_rename
set_option maxRecDepth 20000 in
theorem ggL_law_X3_merged : GoodIn wsL_law wsX3_merged := goodIn_ca (goodIn_ca (goodIn_r _ [207, 16, 124, 125, 126, 2, 127, 110, 111, 180, 181, 182, 128, 129, 130, 131, 132, 208, 209, 210, 15, 211, 87, 88, 89, 90, 33, 346, 347, 348, 349, 350, 351, 352, 353, 354] (by decide +kernel) (by decide +kernel)) (goodIn_sub (fun _ h => List.mem_append_left _ (List.mem_append_left _ (List.mem_append_right _ h))) (by decide +kernel))) (goodIn_sub (fun _ h => List.mem_append_left _ (List.mem_append_right _ h)) (by decide +kernel))
set_option maxRecDepth 20000 in
theorem gL_law_X3_merged : GoodIn wsL_law (wsV RL 44 RX3 yX3_merged wsX3_merged) := goodIn_app (goodIn_of _ (by decide +kernel)) ggL_law_X3_merged
set_option maxRecDepth 20000 in
theorem ggL_law_X3_unsynced : GoodIn wsL_law wsX3_unsynced := goodIn_ca (goodIn_r _ [215, 16, 155, 156, 157, 2, 158, 110, 111, 216, 217, 218, 15, 219, 30, 220, 221, 222, 223, 224, 225, 226, 227, 228, 99, 100, 101, 32, 229, 209, 210, 211, 87, 88, 89, 90, 33, 346, 347, 348, 349, 350, 351, 352, 353, 354] (by decide +kernel) (by decide +kernel)) (goodIn_sub (fun _ h => List.mem_append_left _ (List.mem_append_left _ (List.mem_append_right _ h))) (by decide +kernel))
set_option maxRecDepth 20000 in
theorem gL_law_X3_unsynced : GoodIn wsL_law (wsV RL 91 RX3 yX3_unsynced wsX3_unsynced) := goodIn_app (goodIn_of _ (by decide +kernel)) ggL_law_X3_unsynced
set_option maxRecDepth 20000 in
theorem ggL_law_X3_sync : GoodIn wsL_law wsX3_sync := goodIn_ca (goodIn_r _ [233, 16, 155, 156, 157, 2, 158, 110, 111, 216, 217, 218, 15, 219, 30, 234, 235, 236, 237, 228, 99, 100, 101, 32, 238, 239, 240, 241, 224, 225, 226, 227, 229, 209, 210, 211, 87, 88, 89, 90, 33, 242, 201, 202, 203, 34, 243, 192, 193, 194, 346, 347, 348, 349, 350, 351, 352, 353, 354] (by decide +kernel) (by decide +kernel)) (goodIn_sub (fun _ h => List.mem_append_left _ (List.mem_append_left _ (List.mem_append_right _ h))) (by decide +kernel))
set_option maxRecDepth 20000 in
theorem gL_law_X3_sync : GoodIn wsL_law (wsV RL 94 RX3 yX3_sync wsX3_sync) := goodIn_app (goodIn_of _ (by decide +kernel)) ggL_law_X3_sync
set_option maxRecDepth 20000 in
theorem ggL_law_L_links : GoodIn wsL_law wsL_links := goodIn_ca (goodIn_ca (goodIn_ca (goodIn_r _ [246, 247, 148, 248, 249, 250, 2, 251, 153, 154, 20, 120, 121, 122, 123, 124, 125, 126, 127, 110, 111, 16, 128, 129, 130, 131, 132, 252, 253, 254, 19, 255, 40, 73, 74, 256, 257, 258, 259, 41, 260, 261, 262, 263, 137, 138, 139, 140, 264, 92, 93, 94, 95, 96, 97, 346, 347, 348, 349, 350, 351, 352, 353, 354, 355, 356] (by decide +kernel) (by decide +kernel)) (goodIn_sub (fun _ h => List.mem_append_right _ h) (by decide +kernel))) (goodIn_sub (fun _ h => List.mem_append_left _ (List.mem_append_left _ (List.mem_append_right _ h))) (by decide +kernel))) (goodIn_sub (fun _ h => List.mem_append_left _ (List.mem_append_right _ h)) (by decide +kernel))
set_option maxRecDepth 20000 in
theorem gL_law_L_links : GoodIn wsL_law (va_wsS RL 97 yL_links wsL_links) := goodIn_app (goodIn_of _ (by decide +kernel)) ggL_law_L_links
set_option maxRecDepth 20000 in
theorem ggL_law_X3_groups : GoodIn wsL_law wsX3_groups := goodIn_r _ [268, 16, 20, 269, 270, 271, 19, 272, 41, 346, 347, 348, 349, 350, 351, 352, 353, 354, 355, 356] (by decide +kernel) (by decide +kernel)
set_option maxRecDepth 20000 in
theorem gL_law_X3_groups : GoodIn wsL_law (wsV RL 100 RX3 yX3_groups wsX3_groups) := goodIn_app (goodIn_of _ (by decide +kernel)) ggL_law_X3_groups
set_option maxRecDepth 20000 in
theorem ggL_law_L_cuts : GoodIn wsL_law wsL_cuts := goodIn_ca (goodIn_ca (goodIn_r _ [275, 148, 276, 277, 278, 2, 279, 153, 154, 20, 124, 125, 126, 127, 110, 111, 16, 252, 253, 254, 19, 255, 40, 73, 74, 280, 281, 282, 283, 284, 285, 286, 287, 288, 289, 290, 291, 260, 261, 262, 263, 41, 79, 80, 81, 82, 346, 347, 348, 349, 350, 351, 352, 353, 354, 355, 356] (by decide +kernel) (by decide +kernel)) (goodIn_sub (fun _ h => List.mem_append_right _ h) (by decide +kernel))) (goodIn_sub (fun _ h => List.mem_append_left _ (List.mem_append_left _ (List.mem_append_right _ h))) (by decide +kernel))
set_option maxRecDepth 20000 in
theorem gL_law_L_cuts : GoodIn wsL_law (va_wsS RL 103 yL_cuts wsL_cuts) := goodIn_app (goodIn_of _ (by decide +kernel)) ggL_law_L_cuts
set_option maxRecDepth 20000 in
theorem ggL_law_X3_shown : GoodIn wsL_law wsX3_shown := goodIn_ca (goodIn_ca (goodIn_r _ [295, 16, 20, 124, 125, 126, 2, 127, 110, 111, 180, 181, 182, 128, 129, 130, 131, 132, 137, 138, 139, 19, 140, 41, 296, 297, 298, 15, 299, 35, 73, 74, 87, 88, 89, 90, 33, 346, 347, 348, 349, 350, 351, 352, 353, 354, 355, 356] (by decide +kernel) (by decide +kernel)) (goodIn_sub (fun _ h => List.mem_append_left _ (List.mem_append_left _ (List.mem_append_right _ h))) (by decide +kernel))) (goodIn_sub (fun _ h => List.mem_append_left _ (List.mem_append_right _ h)) (by decide +kernel))
set_option maxRecDepth 20000 in
theorem gL_law_X3_shown : GoodIn wsL_law (wsV RL 50 RX3 yX3_shown wsX3_shown) := goodIn_app (goodIn_of _ (by decide +kernel)) ggL_law_X3_shown
set_option maxRecDepth 20000 in
theorem ggL_law_X3_preferred : GoodIn wsL_law wsX3_preferred := goodIn_ca (goodIn_r _ [303, 16, 20, 124, 125, 126, 2, 127, 110, 111, 137, 138, 139, 19, 140, 41, 304, 305, 306, 15, 307, 35, 73, 74, 308, 309, 310, 311, 30, 346, 347, 348, 349, 350, 351, 352, 353, 354, 355, 356] (by decide +kernel) (by decide +kernel)) (goodIn_sub (fun _ h => List.mem_append_left _ (List.mem_append_left _ (List.mem_append_right _ h))) (by decide +kernel))
set_option maxRecDepth 20000 in
theorem gL_law_X3_preferred : GoodIn wsL_law (wsV RL 37 RX3 yX3_preferred wsX3_preferred) := goodIn_app (goodIn_of _ (by decide +kernel)) ggL_law_X3_preferred
set_option maxRecDepth 20000 in
theorem ggL_law_X3_edit : GoodIn wsL_law wsX3_edit := goodIn_ca (goodIn_ca (goodIn_r _ [315, 20, 16, 124, 125, 126, 2, 127, 110, 111, 180, 181, 182, 188, 189, 190, 128, 129, 130, 131, 132, 137, 138, 139, 19, 140, 41, 296, 297, 298, 15, 299, 35, 73, 74, 87, 88, 89, 90, 33, 195, 316, 317, 318, 319, 183, 191, 192, 193, 194, 34, 304, 305, 306, 307, 308, 309, 310, 311, 30, 346, 347, 348, 349, 350, 351, 352, 353, 354, 355, 356] (by decide +kernel) (by decide +kernel)) (goodIn_sub (fun _ h => List.mem_append_left _ (List.mem_append_left _ (List.mem_append_right _ h))) (by decide +kernel))) (goodIn_sub (fun _ h => List.mem_append_left _ (List.mem_append_right _ h)) (by decide +kernel))
set_option maxRecDepth 20000 in
theorem gL_law_X3_edit : GoodIn wsL_law (wsV RL 106 RX3 yX3_edit wsX3_edit) := goodIn_app (goodIn_of _ (by decide +kernel)) ggL_law_X3_edit
set_option maxRecDepth 20000 in
theorem ggL_law_X3_pairs : GoodIn wsL_law wsX3_pairs := goodIn_r _ [56, 57, 58, 59, 2, 60, 25, 16, 61, 62, 63, 64, 24, 65, 66, 67, 15, 68, 34, 69, 70, 71, 23, 72, 46, 48, 73, 74, 75, 76, 77, 78, 20, 79, 80, 81, 19, 82, 41, 83, 84, 85, 86, 87, 88, 89, 90, 33, 91, 92, 93, 94, 95, 96, 97, 98, 99, 100, 101, 32, 346, 347, 348, 349, 350, 351, 352, 353, 354, 357, 358, 355, 356] (by decide +kernel) (by decide +kernel)
set_option maxRecDepth 20000 in
theorem gL_law_X3_pairs : GoodIn wsL_law (wsV RL 53 RX3 yX3_pairs wsX3_pairs) := goodIn_app (goodIn_of _ (by decide +kernel)) ggL_law_X3_pairs
set_option maxRecDepth 20000 in
theorem ggL_law_X3_score : GoodIn wsL_law wsX3_score := goodIn_ca (goodIn_ca (goodIn_r _ [119, 120, 121, 122, 2, 123, 124, 125, 126, 127, 110, 111, 16, 128, 129, 130, 131, 132, 75, 76, 77, 78, 20, 79, 80, 81, 19, 82, 41, 73, 74, 83, 84, 85, 15, 86, 87, 88, 89, 90, 33, 91, 92, 93, 94, 95, 96, 97, 98, 99, 100, 101, 32, 346, 347, 348, 349, 350, 351, 352, 353, 354, 355, 356] (by decide +kernel) (by decide +kernel)) (goodIn_sub (fun _ h => List.mem_append_left _ (List.mem_append_left _ (List.mem_append_right _ h))) (by decide +kernel))) (goodIn_sub (fun _ h => List.mem_append_left _ (List.mem_append_right _ h)) (by decide +kernel))
set_option maxRecDepth 20000 in
theorem gL_law_X3_score : GoodIn wsL_law (wsV RL 63 RX3 yX3_score wsX3_score) := goodIn_app (goodIn_of _ (by decide +kernel)) ggL_law_X3_score
set_option maxRecDepth 20000 in
theorem ggL_law_L_downs : GoodIn wsL_law wsL_downs := goodIn_ca (goodIn_ca (goodIn_ca (goodIn_r _ [322, 247, 148, 323, 324, 325, 2, 326, 153, 154, 24, 16, 120, 121, 122, 123, 124, 125, 126, 127, 110, 111, 128, 129, 130, 131, 132, 61, 62, 63, 64, 65, 66, 67, 15, 68, 34, 69, 70, 71, 23, 72, 46, 48, 73, 74, 75, 76, 77, 78, 20, 79, 80, 81, 19, 82, 41, 83, 84, 85, 86, 87, 88, 89, 90, 33, 91, 92, 93, 94, 95, 96, 97, 98, 99, 100, 101, 32, 327, 328, 329, 330, 331, 332, 333, 334, 57, 58, 59, 60, 25, 346, 347, 348, 349, 350, 351, 352, 353, 354, 357, 358, 355, 356] (by decide +kernel) (by decide +kernel)) (goodIn_sub (fun _ h => List.mem_append_right _ h) (by decide +kernel))) (goodIn_sub (fun _ h => List.mem_append_left _ (List.mem_append_left _ (List.mem_append_right _ h))) (by decide +kernel))) (goodIn_sub (fun _ h => List.mem_append_left _ (List.mem_append_right _ h)) (by decide +kernel))
set_option maxRecDepth 20000 in
theorem gL_law_L_downs : GoodIn wsL_law (va_wsS RL 109 yL_downs wsL_downs) := goodIn_app (goodIn_of _ (by decide +kernel)) ggL_law_L_downs
set_option maxRecDepth 20000 in
theorem ggL_law_L_isCard : GoodIn wsL_law wsL_isCard := goodIn_ca (goodIn_ca (goodIn_r _ [337, 133, 134, 135, 2, 136, 20, 124, 125, 126, 127, 110, 111, 16, 137, 138, 139, 19, 140, 41, 300, 301, 302, 303, 304, 305, 306, 15, 307, 35, 73, 74, 308, 309, 310, 311, 30, 176, 177, 178, 179, 170, 171, 172, 173, 174, 175, 180, 181, 182, 128, 129, 130, 131, 132, 183, 88, 89, 90, 33, 204, 205, 206, 207, 208, 209, 210, 211, 87, 338, 339, 340, 341, 342, 343, 344, 345, 292, 293, 294, 295, 296, 297, 298, 299, 346, 347, 348, 349, 350, 351, 352, 353, 354, 355, 356] (by decide +kernel) (by decide +kernel)) (goodIn_sub (fun _ h => List.mem_append_left _ (List.mem_append_left _ (List.mem_append_right _ h))) (by decide +kernel))) (goodIn_sub (fun _ h => List.mem_append_left _ (List.mem_append_right _ h)) (by decide +kernel))
set_option maxRecDepth 20000 in
theorem gL_law_L_isCard : GoodIn wsL_law (va_wsS RL 113 yL_isCard wsL_isCard) := goodIn_app (goodIn_of _ (by decide +kernel)) ggL_law_L_isCard
theorem dL_law_0 : decode cL_law 0 = .ok (.new 8, 3) := by decide +kernel
theorem dL_law_3 : decode cL_law 3 = .ok (.dup, 1) := by decide +kernel
theorem dL_law_4 : decode cL_law 4 = .ok (.invokespecial 66, 3) := by decide +kernel
theorem dL_law_7 : decode cL_law 7 = .ok (.astore_n 1, 1) := by decide +kernel
theorem dL_law_8 : decode cL_law 8 = .ok (.bipush 24, 2) := by decide +kernel
theorem dL_law_10 : decode cL_law 10 = .ok (.newarray .int, 2) := by decide +kernel
theorem dL_law_12 : decode cL_law 12 = .ok (.astore_n 2, 1) := by decide +kernel
theorem dL_law_13 : decode cL_law 13 = .ok (.aload_n 1, 1) := by decide +kernel
theorem dL_law_14 : decode cL_law 14 = .ok (.aload_n 2, 1) := by decide +kernel
theorem dL_law_15 : decode cL_law 15 = .ok (.invokestatic 67, 3) := by decide +kernel
theorem dL_law_18 : decode cL_law 18 = .ok (.istore_n 3, 1) := by decide +kernel
theorem dL_law_19 : decode cL_law 19 = .ok (.aload_n 0, 1) := by decide +kernel
theorem dL_law_20 : decode cL_law 20 = .ok (.arraylength, 1) := by decide +kernel
theorem dL_law_21 : decode cL_law 21 = .ok (.bipush 40, 2) := by decide +kernel
theorem dL_law_23 : decode cL_law 23 = .ok (.if_icmp .ge 9, 3) := by decide +kernel
theorem dL_law_26 : decode cL_law 26 = .ok (.sipush 130, 3) := by decide +kernel
theorem dL_law_29 : decode cL_law 29 = .ok (.goto 20, 3) := by decide +kernel
theorem dL_law_32 : decode cL_law 32 = .ok (.aload_n 0, 1) := by decide +kernel
theorem dL_law_33 : decode cL_law 33 = .ok (.arraylength, 1) := by decide +kernel
theorem dL_law_34 : decode cL_law 34 = .ok (.bipush 80, 2) := by decide +kernel
theorem dL_law_36 : decode cL_law 36 = .ok (.if_icmp .ge 10, 3) := by decide +kernel
theorem dL_law_39 : decode cL_law 39 = .ok (.iconst 3, 1) := by decide +kernel
theorem dL_law_40 : decode cL_law 40 = .ok (.aload_n 0, 1) := by decide +kernel
theorem dL_law_41 : decode cL_law 41 = .ok (.arraylength, 1) := by decide +kernel
theorem dL_law_42 : decode cL_law 42 = .ok (.imul, 1) := by decide +kernel
theorem dL_law_43 : decode cL_law 43 = .ok (.goto 6, 3) := by decide +kernel
theorem dL_law_46 : decode cL_law 46 = .ok (.sipush 240, 3) := by decide +kernel
theorem dL_law_49 : decode cL_law 49 = .ok (.istore 4, 2) := by decide +kernel
theorem dL_law_51 : decode cL_law 51 = .ok (.iconst 0, 1) := by decide +kernel
theorem dL_law_52 : decode cL_law 52 = .ok (.istore 5, 2) := by decide +kernel
theorem dL_law_54 : decode cL_law 54 = .ok (.iload 5, 2) := by decide +kernel
theorem dL_law_56 : decode cL_law 56 = .ok (.iload 4, 2) := by decide +kernel
theorem dL_law_58 : decode cL_law 58 = .ok (.if_icmp .ge 1216, 3) := by decide +kernel
theorem dL_law_61 : decode cL_law 61 = .ok (.iload_n 3, 1) := by decide +kernel
theorem dL_law_62 : decode cL_law 62 = .ok (.ifCond .eq 1212, 3) := by decide +kernel
theorem dL_law_65 : decode cL_law 65 = .ok (.iload 5, 2) := by decide +kernel
theorem dL_law_67 : decode cL_law 67 = .ok (.aload_n 0, 1) := by decide +kernel
theorem dL_law_68 : decode cL_law 68 = .ok (.arraylength, 1) := by decide +kernel
theorem dL_law_69 : decode cL_law 69 = .ok (.if_icmp .ge 10, 3) := by decide +kernel
theorem dL_law_72 : decode cL_law 72 = .ok (.aload_n 0, 1) := by decide +kernel
theorem dL_law_73 : decode cL_law 73 = .ok (.iload 5, 2) := by decide +kernel
theorem dL_law_75 : decode cL_law 75 = .ok (.iaload, 1) := by decide +kernel
theorem dL_law_76 : decode cL_law 76 = .ok (.goto 20, 3) := by decide +kernel
theorem dL_law_79 : decode cL_law 79 = .ok (.ldc 71, 2) := by decide +kernel
theorem dL_law_81 : decode cL_law 81 = .ok (.iload 5, 2) := by decide +kernel
theorem dL_law_83 : decode cL_law 83 = .ok (.imul, 1) := by decide +kernel
theorem dL_law_84 : decode cL_law 84 = .ok (.iload 5, 2) := by decide +kernel
theorem dL_law_86 : decode cL_law 86 = .ok (.imul, 1) := by decide +kernel
theorem dL_law_87 : decode cL_law 87 = .ok (.ldc 72, 2) := by decide +kernel
theorem dL_law_89 : decode cL_law 89 = .ok (.iload 5, 2) := by decide +kernel
theorem dL_law_91 : decode cL_law 91 = .ok (.imul, 1) := by decide +kernel
theorem dL_law_92 : decode cL_law 92 = .ok (.iadd, 1) := by decide +kernel
theorem dL_law_93 : decode cL_law 93 = .ok (.bipush 94, 2) := by decide +kernel
theorem dL_law_95 : decode cL_law 95 = .ok (.iadd, 1) := by decide +kernel
theorem dL_law_96 : decode cL_law 96 = .ok (.istore 6, 2) := by decide +kernel
theorem dL_law_98 : decode cL_law 98 = .ok (.iload 6, 2) := by decide +kernel
theorem dL_law_100 : decode cL_law 100 = .ok (.iconst 4, 1) := by decide +kernel
theorem dL_law_101 : decode cL_law 101 = .ok (.ishr, 1) := by decide +kernel
theorem dL_law_102 : decode cL_law 102 = .ok (.ldc 73, 2) := by decide +kernel
theorem dL_law_104 : decode cL_law 104 = .ok (.iand, 1) := by decide +kernel
theorem dL_law_105 : decode cL_law 105 = .ok (.istore 7, 2) := by decide +kernel
theorem dL_law_107 : decode cL_law 107 = .ok (.iload 5, 2) := by decide +kernel
theorem dL_law_109 : decode cL_law 109 = .ok (.iconst 4, 1) := by decide +kernel
theorem dL_law_110 : decode cL_law 110 = .ok (.if_icmp .ge 7, 3) := by decide +kernel
theorem dL_law_113 : decode cL_law 113 = .ok (.iconst 0, 1) := by decide +kernel
theorem dL_law_114 : decode cL_law 114 = .ok (.goto 8, 3) := by decide +kernel
theorem dL_law_117 : decode cL_law 117 = .ok (.iload 6, 2) := by decide +kernel
theorem dL_law_119 : decode cL_law 119 = .ok (.bipush 15, 2) := by decide +kernel
theorem dL_law_121 : decode cL_law 121 = .ok (.iand, 1) := by decide +kernel
theorem dL_law_122 : decode cL_law 122 = .ok (.istore 8, 2) := by decide +kernel
theorem dL_law_124 : decode cL_law 124 = .ok (.aload_n 1, 1) := by decide +kernel
theorem dL_law_125 : decode cL_law 125 = .ok (.invokevirtual 74, 3) := by decide +kernel
theorem dL_law_128 : decode cL_law 128 = .ok (.istore 9, 2) := by decide +kernel
theorem dL_law_130 : decode cL_law 130 = .ok (.iload 9, 2) := by decide +kernel
theorem dL_law_132 : decode cL_law 132 = .ok (.ifCond .ne 7, 3) := by decide +kernel
theorem dL_law_135 : decode cL_law 135 = .ok (.iconst 0, 1) := by decide +kernel
theorem dL_law_136 : decode cL_law 136 = .ok (.goto 8, 3) := by decide +kernel
theorem dL_law_139 : decode cL_law 139 = .ok (.iload 7, 2) := by decide +kernel
theorem dL_law_141 : decode cL_law 141 = .ok (.iload 9, 2) := by decide +kernel
theorem dL_law_143 : decode cL_law 143 = .ok (.irem, 1) := by decide +kernel
theorem dL_law_144 : decode cL_law 144 = .ok (.istore 10, 2) := by decide +kernel
theorem dL_law_146 : decode cL_law 146 = .ok (.iload 9, 2) := by decide +kernel
theorem dL_law_148 : decode cL_law 148 = .ok (.ifCond .ne 7, 3) := by decide +kernel
theorem dL_law_151 : decode cL_law 151 = .ok (.iconst 0, 1) := by decide +kernel
theorem dL_law_152 : decode cL_law 152 = .ok (.goto 10, 3) := by decide +kernel
theorem dL_law_155 : decode cL_law 155 = .ok (.iload 7, 2) := by decide +kernel
theorem dL_law_157 : decode cL_law 157 = .ok (.iconst 5, 1) := by decide +kernel
theorem dL_law_158 : decode cL_law 158 = .ok (.ishr, 1) := by decide +kernel
theorem dL_law_159 : decode cL_law 159 = .ok (.iload 9, 2) := by decide +kernel
theorem dL_law_161 : decode cL_law 161 = .ok (.irem, 1) := by decide +kernel
theorem dL_law_162 : decode cL_law 162 = .ok (.istore 11, 2) := by decide +kernel
theorem dL_law_164 : decode cL_law 164 = .ok (.iload 7, 2) := by decide +kernel
theorem dL_law_166 : decode cL_law 166 = .ok (.bipush 10, 2) := by decide +kernel
theorem dL_law_168 : decode cL_law 168 = .ok (.ishr, 1) := by decide +kernel
theorem dL_law_169 : decode cL_law 169 = .ok (.iconst 1, 1) := by decide +kernel
theorem dL_law_170 : decode cL_law 170 = .ok (.iand, 1) := by decide +kernel
theorem dL_law_171 : decode cL_law 171 = .ok (.istore 12, 2) := by decide +kernel
theorem dL_law_173 : decode cL_law 173 = .ok (.iload 7, 2) := by decide +kernel
theorem dL_law_175 : decode cL_law 175 = .ok (.bipush 11, 2) := by decide +kernel
theorem dL_law_177 : decode cL_law 177 = .ok (.ishr, 1) := by decide +kernel
theorem dL_law_178 : decode cL_law 178 = .ok (.bipush 6, 2) := by decide +kernel
theorem dL_law_180 : decode cL_law 180 = .ok (.irem, 1) := by decide +kernel
theorem dL_law_181 : decode cL_law 181 = .ok (.istore 13, 2) := by decide +kernel
theorem dL_law_183 : decode cL_law 183 = .ok (.iload 8, 2) := by decide +kernel
theorem dL_law_185 : decode cL_law 185 = .ok (.ifCond .ne 92, 3) := by decide +kernel
theorem dL_law_188 : decode cL_law 188 = .ok (.aload_n 1, 1) := by decide +kernel
theorem dL_law_189 : decode cL_law 189 = .ok (.iload 7, 2) := by decide +kernel
theorem dL_law_191 : decode cL_law 191 = .ok (.iconst 3, 1) := by decide +kernel
theorem dL_law_192 : decode cL_law 192 = .ok (.irem, 1) := by decide +kernel
theorem dL_law_193 : decode cL_law 193 = .ok (.iload 7, 2) := by decide +kernel
theorem dL_law_195 : decode cL_law 195 = .ok (.iconst 4, 1) := by decide +kernel
theorem dL_law_196 : decode cL_law 196 = .ok (.ishr, 1) := by decide +kernel
theorem dL_law_197 : decode cL_law 197 = .ok (.iconst 5, 1) := by decide +kernel
theorem dL_law_198 : decode cL_law 198 = .ok (.irem, 1) := by decide +kernel
theorem dL_law_199 : decode cL_law 199 = .ok (.invokestatic 77, 3) := by decide +kernel
theorem dL_law_202 : decode cL_law 202 = .ok (.istore 14, 2) := by decide +kernel
theorem dL_law_204 : decode cL_law 204 = .ok (.iload 14, 2) := by decide +kernel
theorem dL_law_206 : decode cL_law 206 = .ok (.iload 9, 2) := by decide +kernel
theorem dL_law_208 : decode cL_law 208 = .ok (.bipush 24, 2) := by decide +kernel
theorem dL_law_210 : decode cL_law 210 = .ok (.if_icmp .ge 8, 3) := by decide +kernel
theorem dL_law_213 : decode cL_law 213 = .ok (.iload 9, 2) := by decide +kernel
theorem dL_law_215 : decode cL_law 215 = .ok (.goto 5, 3) := by decide +kernel
theorem dL_law_218 : decode cL_law 218 = .ok (.bipush (-3), 2) := by decide +kernel
theorem dL_law_220 : decode cL_law 220 = .ok (.if_icmp .ne 52, 3) := by decide +kernel
theorem dL_law_223 : decode cL_law 223 = .ok (.iload 14, 2) := by decide +kernel
theorem dL_law_225 : decode cL_law 225 = .ok (.ifCond .lt 43, 3) := by decide +kernel
theorem dL_law_228 : decode cL_law 228 = .ok (.aload_n 1, 1) := by decide +kernel
theorem dL_law_229 : decode cL_law 229 = .ok (.iload 14, 2) := by decide +kernel
theorem dL_law_231 : decode cL_law 231 = .ok (.invokevirtual 34, 3) := by decide +kernel
theorem dL_law_234 : decode cL_law 234 = .ok (.iconst 1, 1) := by decide +kernel
theorem dL_law_235 : decode cL_law 235 = .ok (.iload 14, 2) := by decide +kernel
theorem dL_law_237 : decode cL_law 237 = .ok (.ishl, 1) := by decide +kernel
theorem dL_law_238 : decode cL_law 238 = .ok (.if_icmp .ne 34, 3) := by decide +kernel
theorem dL_law_241 : decode cL_law 241 = .ok (.aload_n 1, 1) := by decide +kernel
theorem dL_law_242 : decode cL_law 242 = .ok (.iload 14, 2) := by decide +kernel
theorem dL_law_244 : decode cL_law 244 = .ok (.iconst 2, 1) := by decide +kernel
theorem dL_law_245 : decode cL_law 245 = .ok (.invokevirtual 81, 3) := by decide +kernel
theorem dL_law_248 : decode cL_law 248 = .ok (.iload 7, 2) := by decide +kernel
theorem dL_law_250 : decode cL_law 250 = .ok (.iconst 4, 1) := by decide +kernel
theorem dL_law_251 : decode cL_law 251 = .ok (.ishr, 1) := by decide +kernel
theorem dL_law_252 : decode cL_law 252 = .ok (.iconst 5, 1) := by decide +kernel
theorem dL_law_253 : decode cL_law 253 = .ok (.irem, 1) := by decide +kernel
theorem dL_law_254 : decode cL_law 254 = .ok (.if_icmp .ne 18, 3) := by decide +kernel
theorem dL_law_257 : decode cL_law 257 = .ok (.aload_n 1, 1) := by decide +kernel
theorem dL_law_258 : decode cL_law 258 = .ok (.iload 14, 2) := by decide +kernel
theorem dL_law_260 : decode cL_law 260 = .ok (.iconst 1, 1) := by decide +kernel
theorem dL_law_261 : decode cL_law 261 = .ok (.iconst 1, 1) := by decide +kernel
theorem dL_law_262 : decode cL_law 262 = .ok (.invokevirtual 40, 3) := by decide +kernel
theorem dL_law_265 : decode cL_law 265 = .ok (.ifCond .ne 7, 3) := by decide +kernel
theorem dL_law_268 : decode cL_law 268 = .ok (.iconst 1, 1) := by decide +kernel
theorem dL_law_269 : decode cL_law 269 = .ok (.goto 4, 3) := by decide +kernel
theorem dL_law_272 : decode cL_law 272 = .ok (.iconst 0, 1) := by decide +kernel
theorem dL_law_273 : decode cL_law 273 = .ok (.istore_n 3, 1) := by decide +kernel
theorem dL_law_274 : decode cL_law 274 = .ok (.goto 929, 3) := by decide +kernel
theorem dL_law_277 : decode cL_law 277 = .ok (.iload 8, 2) := by decide +kernel
theorem dL_law_279 : decode cL_law 279 = .ok (.bipush 6, 2) := by decide +kernel
theorem dL_law_281 : decode cL_law 281 = .ok (.if_icmp .ge 117, 3) := by decide +kernel
theorem dL_law_284 : decode cL_law 284 = .ok (.iload 7, 2) := by decide +kernel
theorem dL_law_286 : decode cL_law 286 = .ok (.bipush 14, 2) := by decide +kernel
theorem dL_law_288 : decode cL_law 288 = .ok (.ishr, 1) := by decide +kernel
theorem dL_law_289 : decode cL_law 289 = .ok (.iconst 3, 1) := by decide +kernel
theorem dL_law_290 : decode cL_law 290 = .ok (.irem, 1) := by decide +kernel
theorem dL_law_291 : decode cL_law 291 = .ok (.iconst 2, 1) := by decide +kernel
theorem dL_law_292 : decode cL_law 292 = .ok (.if_icmp .ne 7, 3) := by decide +kernel
theorem dL_law_295 : decode cL_law 295 = .ok (.iconst 1, 1) := by decide +kernel
theorem dL_law_296 : decode cL_law 296 = .ok (.goto 4, 3) := by decide +kernel
theorem dL_law_299 : decode cL_law 299 = .ok (.iconst 0, 1) := by decide +kernel
theorem dL_law_300 : decode cL_law 300 = .ok (.istore 14, 2) := by decide +kernel
theorem dL_law_302 : decode cL_law 302 = .ok (.aload_n 1, 1) := by decide +kernel
theorem dL_law_303 : decode cL_law 303 = .ok (.iload 10, 2) := by decide +kernel
theorem dL_law_305 : decode cL_law 305 = .ok (.iload 14, 2) := by decide +kernel
theorem dL_law_307 : decode cL_law 307 = .ok (.iload 12, 2) := by decide +kernel
theorem dL_law_309 : decode cL_law 309 = .ok (.invokevirtual 40, 3) := by decide +kernel
theorem dL_law_312 : decode cL_law 312 = .ok (.istore 15, 2) := by decide +kernel
theorem dL_law_314 : decode cL_law 314 = .ok (.aload_n 1, 1) := by decide +kernel
theorem dL_law_315 : decode cL_law 315 = .ok (.iload 10, 2) := by decide +kernel
theorem dL_law_317 : decode cL_law 317 = .ok (.iconst 2, 1) := by decide +kernel
theorem dL_law_318 : decode cL_law 318 = .ok (.iload 12, 2) := by decide +kernel
theorem dL_law_320 : decode cL_law 320 = .ok (.invokevirtual 40, 3) := by decide +kernel
theorem dL_law_323 : decode cL_law 323 = .ok (.istore 16, 2) := by decide +kernel
theorem dL_law_325 : decode cL_law 325 = .ok (.aload_n 1, 1) := by decide +kernel
theorem dL_law_326 : decode cL_law 326 = .ok (.iload 10, 2) := by decide +kernel
theorem dL_law_328 : decode cL_law 328 = .ok (.iload 14, 2) := by decide +kernel
theorem dL_law_330 : decode cL_law 330 = .ok (.iload 12, 2) := by decide +kernel
theorem dL_law_332 : decode cL_law 332 = .ok (.iload 13, 2) := by decide +kernel
theorem dL_law_334 : decode cL_law 334 = .ok (.invokevirtual 84, 3) := by decide +kernel
theorem dL_law_337 : decode cL_law 337 = .ok (.iload 15, 2) := by decide +kernel
theorem dL_law_339 : decode cL_law 339 = .ok (.iload 13, 2) := by decide +kernel
theorem dL_law_341 : decode cL_law 341 = .ok (.ishr, 1) := by decide +kernel
theorem dL_law_342 : decode cL_law 342 = .ok (.iconst 1, 1) := by decide +kernel
theorem dL_law_343 : decode cL_law 343 = .ok (.iand, 1) := by decide +kernel
theorem dL_law_344 : decode cL_law 344 = .ok (.ifCond .ne 7, 3) := by decide +kernel
theorem dL_law_347 : decode cL_law 347 = .ok (.iconst 1, 1) := by decide +kernel
theorem dL_law_348 : decode cL_law 348 = .ok (.goto 4, 3) := by decide +kernel
theorem dL_law_351 : decode cL_law 351 = .ok (.iconst 0, 1) := by decide +kernel
theorem dL_law_352 : decode cL_law 352 = .ok (.if_icmp .ne 41, 3) := by decide +kernel
theorem dL_law_355 : decode cL_law 355 = .ok (.aload_n 1, 1) := by decide +kernel
theorem dL_law_356 : decode cL_law 356 = .ok (.iload 10, 2) := by decide +kernel
theorem dL_law_358 : decode cL_law 358 = .ok (.iload 14, 2) := by decide +kernel
theorem dL_law_360 : decode cL_law 360 = .ok (.iload 12, 2) := by decide +kernel
theorem dL_law_362 : decode cL_law 362 = .ok (.invokevirtual 40, 3) := by decide +kernel
theorem dL_law_365 : decode cL_law 365 = .ok (.iload 15, 2) := by decide +kernel
theorem dL_law_367 : decode cL_law 367 = .ok (.iconst 1, 1) := by decide +kernel
theorem dL_law_368 : decode cL_law 368 = .ok (.iload 13, 2) := by decide +kernel
theorem dL_law_370 : decode cL_law 370 = .ok (.ishl, 1) := by decide +kernel
theorem dL_law_371 : decode cL_law 371 = .ok (.ixor, 1) := by decide +kernel
theorem dL_law_372 : decode cL_law 372 = .ok (.if_icmp .ne 21, 3) := by decide +kernel
theorem dL_law_375 : decode cL_law 375 = .ok (.aload_n 1, 1) := by decide +kernel
theorem dL_law_376 : decode cL_law 376 = .ok (.iload 10, 2) := by decide +kernel
theorem dL_law_378 : decode cL_law 378 = .ok (.iconst 2, 1) := by decide +kernel
theorem dL_law_379 : decode cL_law 379 = .ok (.iload 12, 2) := by decide +kernel
theorem dL_law_381 : decode cL_law 381 = .ok (.invokevirtual 40, 3) := by decide +kernel
theorem dL_law_384 : decode cL_law 384 = .ok (.iload 16, 2) := by decide +kernel
theorem dL_law_386 : decode cL_law 386 = .ok (.if_icmp .ne 7, 3) := by decide +kernel
theorem dL_law_389 : decode cL_law 389 = .ok (.iconst 1, 1) := by decide +kernel
theorem dL_law_390 : decode cL_law 390 = .ok (.goto 4, 3) := by decide +kernel
theorem dL_law_393 : decode cL_law 393 = .ok (.iconst 0, 1) := by decide +kernel
theorem dL_law_394 : decode cL_law 394 = .ok (.istore_n 3, 1) := by decide +kernel
theorem dL_law_395 : decode cL_law 395 = .ok (.goto 808, 3) := by decide +kernel
theorem dL_law_398 : decode cL_law 398 = .ok (.iload 8, 2) := by decide +kernel
theorem dL_law_400 : decode cL_law 400 = .ok (.bipush 6, 2) := by decide +kernel
theorem dL_law_402 : decode cL_law 402 = .ok (.if_icmp .ne 69, 3) := by decide +kernel
theorem dL_law_405 : decode cL_law 405 = .ok (.iload 7, 2) := by decide +kernel
theorem dL_law_407 : decode cL_law 407 = .ok (.bipush 14, 2) := by decide +kernel
theorem dL_law_409 : decode cL_law 409 = .ok (.ishr, 1) := by decide +kernel
theorem dL_law_410 : decode cL_law 410 = .ok (.iconst 1, 1) := by decide +kernel
theorem dL_law_411 : decode cL_law 411 = .ok (.iand, 1) := by decide +kernel
theorem dL_law_412 : decode cL_law 412 = .ok (.istore 14, 2) := by decide +kernel
theorem dL_law_414 : decode cL_law 414 = .ok (.aload_n 1, 1) := by decide +kernel
theorem dL_law_415 : decode cL_law 415 = .ok (.iload 10, 2) := by decide +kernel
theorem dL_law_417 : decode cL_law 417 = .ok (.iload 14, 2) := by decide +kernel
theorem dL_law_419 : decode cL_law 419 = .ok (.invokevirtual 81, 3) := by decide +kernel
theorem dL_law_422 : decode cL_law 422 = .ok (.istore 15, 2) := by decide +kernel
theorem dL_law_424 : decode cL_law 424 = .ok (.aload_n 1, 1) := by decide +kernel
theorem dL_law_425 : decode cL_law 425 = .ok (.iload 10, 2) := by decide +kernel
theorem dL_law_427 : decode cL_law 427 = .ok (.iload 14, 2) := by decide +kernel
theorem dL_law_429 : decode cL_law 429 = .ok (.iload 7, 2) := by decide +kernel
theorem dL_law_431 : decode cL_law 431 = .ok (.bipush 15, 2) := by decide +kernel
theorem dL_law_433 : decode cL_law 433 = .ok (.ishr, 1) := by decide +kernel
theorem dL_law_434 : decode cL_law 434 = .ok (.iconst 5, 1) := by decide +kernel
theorem dL_law_435 : decode cL_law 435 = .ok (.irem, 1) := by decide +kernel
theorem dL_law_436 : decode cL_law 436 = .ok (.invokevirtual 88, 3) := by decide +kernel
theorem dL_law_439 : decode cL_law 439 = .ok (.iload 15, 2) := by decide +kernel
theorem dL_law_441 : decode cL_law 441 = .ok (.if_icmp .ne 25, 3) := by decide +kernel
theorem dL_law_444 : decode cL_law 444 = .ok (.aload_n 1, 1) := by decide +kernel
theorem dL_law_445 : decode cL_law 445 = .ok (.iload 10, 2) := by decide +kernel
theorem dL_law_447 : decode cL_law 447 = .ok (.iload 14, 2) := by decide +kernel
theorem dL_law_449 : decode cL_law 449 = .ok (.invokevirtual 81, 3) := by decide +kernel
theorem dL_law_452 : decode cL_law 452 = .ok (.iload 7, 2) := by decide +kernel
theorem dL_law_454 : decode cL_law 454 = .ok (.bipush 15, 2) := by decide +kernel
theorem dL_law_456 : decode cL_law 456 = .ok (.ishr, 1) := by decide +kernel
theorem dL_law_457 : decode cL_law 457 = .ok (.iconst 5, 1) := by decide +kernel
theorem dL_law_458 : decode cL_law 458 = .ok (.irem, 1) := by decide +kernel
theorem dL_law_459 : decode cL_law 459 = .ok (.if_icmp .ne 7, 3) := by decide +kernel
theorem dL_law_462 : decode cL_law 462 = .ok (.iconst 1, 1) := by decide +kernel
theorem dL_law_463 : decode cL_law 463 = .ok (.goto 4, 3) := by decide +kernel
theorem dL_law_466 : decode cL_law 466 = .ok (.iconst 0, 1) := by decide +kernel
theorem dL_law_467 : decode cL_law 467 = .ok (.istore_n 3, 1) := by decide +kernel
theorem dL_law_468 : decode cL_law 468 = .ok (.goto 735, 3) := by decide +kernel
theorem dL_law_471 : decode cL_law 471 = .ok (.iload 8, 2) := by decide +kernel
theorem dL_law_473 : decode cL_law 473 = .ok (.bipush 7, 2) := by decide +kernel
theorem dL_law_475 : decode cL_law 475 = .ok (.if_icmp .ne 179, 3) := by decide +kernel
theorem dL_law_478 : decode cL_law 478 = .ok (.aload_n 1, 1) := by decide +kernel
theorem dL_law_479 : decode cL_law 479 = .ok (.iload 10, 2) := by decide +kernel
theorem dL_law_481 : decode cL_law 481 = .ok (.iload 12, 2) := by decide +kernel
theorem dL_law_483 : decode cL_law 483 = .ok (.invokevirtual 44, 3) := by decide +kernel
theorem dL_law_486 : decode cL_law 486 = .ok (.istore 14, 2) := by decide +kernel
theorem dL_law_488 : decode cL_law 488 = .ok (.iload 7, 2) := by decide +kernel
theorem dL_law_490 : decode cL_law 490 = .ok (.iconst 3, 1) := by decide +kernel
theorem dL_law_491 : decode cL_law 491 = .ok (.irem, 1) := by decide +kernel
theorem dL_law_492 : decode cL_law 492 = .ok (.istore 15, 2) := by decide +kernel
theorem dL_law_494 : decode cL_law 494 = .ok (.aload_n 1, 1) := by decide +kernel
theorem dL_law_495 : decode cL_law 495 = .ok (.iconst 0, 1) := by decide +kernel
theorem dL_law_496 : decode cL_law 496 = .ok (.invokevirtual 91, 3) := by decide +kernel
theorem dL_law_499 : decode cL_law 499 = .ok (.aload_n 1, 1) := by decide +kernel
theorem dL_law_500 : decode cL_law 500 = .ok (.iconst 1, 1) := by decide +kernel
theorem dL_law_501 : decode cL_law 501 = .ok (.invokevirtual 91, 3) := by decide +kernel
theorem dL_law_504 : decode cL_law 504 = .ok (.iadd, 1) := by decide +kernel
theorem dL_law_505 : decode cL_law 505 = .ok (.aload_n 1, 1) := by decide +kernel
theorem dL_law_506 : decode cL_law 506 = .ok (.iconst 2, 1) := by decide +kernel
theorem dL_law_507 : decode cL_law 507 = .ok (.invokevirtual 91, 3) := by decide +kernel
theorem dL_law_510 : decode cL_law 510 = .ok (.iadd, 1) := by decide +kernel
theorem dL_law_511 : decode cL_law 511 = .ok (.aload_n 1, 1) := by decide +kernel
theorem dL_law_512 : decode cL_law 512 = .ok (.iload 15, 2) := by decide +kernel
theorem dL_law_514 : decode cL_law 514 = .ok (.invokevirtual 91, 3) := by decide +kernel
theorem dL_law_517 : decode cL_law 517 = .ok (.isub, 1) := by decide +kernel
theorem dL_law_518 : decode cL_law 518 = .ok (.istore 16, 2) := by decide +kernel
theorem dL_law_520 : decode cL_law 520 = .ok (.aload_n 1, 1) := by decide +kernel
theorem dL_law_521 : decode cL_law 521 = .ok (.iload 15, 2) := by decide +kernel
theorem dL_law_523 : decode cL_law 523 = .ok (.invokevirtual 94, 3) := by decide +kernel
theorem dL_law_526 : decode cL_law 526 = .ok (.istore 17, 2) := by decide +kernel
theorem dL_law_528 : decode cL_law 528 = .ok (.aload_n 1, 1) := by decide +kernel
theorem dL_law_529 : decode cL_law 529 = .ok (.iload 10, 2) := by decide +kernel
theorem dL_law_531 : decode cL_law 531 = .ok (.iconst 0, 1) := by decide +kernel
theorem dL_law_532 : decode cL_law 532 = .ok (.iload 12, 2) := by decide +kernel
theorem dL_law_534 : decode cL_law 534 = .ok (.invokevirtual 40, 3) := by decide +kernel
theorem dL_law_537 : decode cL_law 537 = .ok (.aload_n 1, 1) := by decide +kernel
theorem dL_law_538 : decode cL_law 538 = .ok (.iload 10, 2) := by decide +kernel
theorem dL_law_540 : decode cL_law 540 = .ok (.iconst 2, 1) := by decide +kernel
theorem dL_law_541 : decode cL_law 541 = .ok (.iload 12, 2) := by decide +kernel
theorem dL_law_543 : decode cL_law 543 = .ok (.invokevirtual 40, 3) := by decide +kernel
theorem dL_law_546 : decode cL_law 546 = .ok (.if_icmp .ne 28, 3) := by decide +kernel
theorem dL_law_549 : decode cL_law 549 = .ok (.aload_n 1, 1) := by decide +kernel
theorem dL_law_550 : decode cL_law 550 = .ok (.iload 10, 2) := by decide +kernel
theorem dL_law_552 : decode cL_law 552 = .ok (.iconst 1, 1) := by decide +kernel
theorem dL_law_553 : decode cL_law 553 = .ok (.iload 12, 2) := by decide +kernel
theorem dL_law_555 : decode cL_law 555 = .ok (.invokevirtual 40, 3) := by decide +kernel
theorem dL_law_558 : decode cL_law 558 = .ok (.aload_n 1, 1) := by decide +kernel
theorem dL_law_559 : decode cL_law 559 = .ok (.iload 10, 2) := by decide +kernel
theorem dL_law_561 : decode cL_law 561 = .ok (.iconst 2, 1) := by decide +kernel
theorem dL_law_562 : decode cL_law 562 = .ok (.iload 12, 2) := by decide +kernel
theorem dL_law_564 : decode cL_law 564 = .ok (.invokevirtual 40, 3) := by decide +kernel
theorem dL_law_567 : decode cL_law 567 = .ok (.if_icmp .ne 7, 3) := by decide +kernel
theorem dL_law_570 : decode cL_law 570 = .ok (.iconst 1, 1) := by decide +kernel
theorem dL_law_571 : decode cL_law 571 = .ok (.goto 4, 3) := by decide +kernel
theorem dL_law_574 : decode cL_law 574 = .ok (.iconst 0, 1) := by decide +kernel
theorem dL_law_575 : decode cL_law 575 = .ok (.istore 18, 2) := by decide +kernel
theorem dL_law_577 : decode cL_law 577 = .ok (.iload 17, 2) := by decide +kernel
theorem dL_law_579 : decode cL_law 579 = .ok (.ifCond .lt 70, 3) := by decide +kernel
theorem dL_law_582 : decode cL_law 582 = .ok (.aload_n 1, 1) := by decide +kernel
theorem dL_law_583 : decode cL_law 583 = .ok (.iload 15, 2) := by decide +kernel
theorem dL_law_585 : decode cL_law 585 = .ok (.invokevirtual 91, 3) := by decide +kernel
theorem dL_law_588 : decode cL_law 588 = .ok (.ifCond .ne 61, 3) := by decide +kernel
theorem dL_law_591 : decode cL_law 591 = .ok (.aload_n 1, 1) := by decide +kernel
theorem dL_law_592 : decode cL_law 592 = .ok (.iconst 0, 1) := by decide +kernel
theorem dL_law_593 : decode cL_law 593 = .ok (.invokevirtual 91, 3) := by decide +kernel
theorem dL_law_596 : decode cL_law 596 = .ok (.aload_n 1, 1) := by decide +kernel
theorem dL_law_597 : decode cL_law 597 = .ok (.iconst 1, 1) := by decide +kernel
theorem dL_law_598 : decode cL_law 598 = .ok (.invokevirtual 91, 3) := by decide +kernel
theorem dL_law_601 : decode cL_law 601 = .ok (.iadd, 1) := by decide +kernel
theorem dL_law_602 : decode cL_law 602 = .ok (.aload_n 1, 1) := by decide +kernel
theorem dL_law_603 : decode cL_law 603 = .ok (.iconst 2, 1) := by decide +kernel
theorem dL_law_604 : decode cL_law 604 = .ok (.invokevirtual 91, 3) := by decide +kernel
theorem dL_law_607 : decode cL_law 607 = .ok (.iadd, 1) := by decide +kernel
theorem dL_law_608 : decode cL_law 608 = .ok (.iload 16, 2) := by decide +kernel
theorem dL_law_610 : decode cL_law 610 = .ok (.if_icmp .ne 39, 3) := by decide +kernel
theorem dL_law_613 : decode cL_law 613 = .ok (.aload_n 1, 1) := by decide +kernel
theorem dL_law_614 : decode cL_law 614 = .ok (.iload 10, 2) := by decide +kernel
theorem dL_law_616 : decode cL_law 616 = .ok (.iload 12, 2) := by decide +kernel
theorem dL_law_618 : decode cL_law 618 = .ok (.invokevirtual 44, 3) := by decide +kernel
theorem dL_law_621 : decode cL_law 621 = .ok (.iload 14, 2) := by decide +kernel
theorem dL_law_623 : decode cL_law 623 = .ok (.if_icmp .ne 26, 3) := by decide +kernel
theorem dL_law_626 : decode cL_law 626 = .ok (.iload 18, 2) := by decide +kernel
theorem dL_law_628 : decode cL_law 628 = .ok (.ifCond .eq 17, 3) := by decide +kernel
theorem dL_law_631 : decode cL_law 631 = .ok (.aload_n 1, 1) := by decide +kernel
theorem dL_law_632 : decode cL_law 632 = .ok (.iload 10, 2) := by decide +kernel
theorem dL_law_634 : decode cL_law 634 = .ok (.iconst 0, 1) := by decide +kernel
theorem dL_law_635 : decode cL_law 635 = .ok (.iload 12, 2) := by decide +kernel
theorem dL_law_637 : decode cL_law 637 = .ok (.invokevirtual 40, 3) := by decide +kernel
theorem dL_law_640 : decode cL_law 640 = .ok (.iload 14, 2) := by decide +kernel
theorem dL_law_642 : decode cL_law 642 = .ok (.if_icmp .ne 7, 3) := by decide +kernel
theorem dL_law_645 : decode cL_law 645 = .ok (.iconst 1, 1) := by decide +kernel
theorem dL_law_646 : decode cL_law 646 = .ok (.goto 4, 3) := by decide +kernel
theorem dL_law_649 : decode cL_law 649 = .ok (.iconst 0, 1) := by decide +kernel
theorem dL_law_650 : decode cL_law 650 = .ok (.istore_n 3, 1) := by decide +kernel
theorem dL_law_651 : decode cL_law 651 = .ok (.goto 552, 3) := by decide +kernel
theorem dL_law_654 : decode cL_law 654 = .ok (.iload 8, 2) := by decide +kernel
theorem dL_law_656 : decode cL_law 656 = .ok (.bipush 10, 2) := by decide +kernel
theorem dL_law_658 : decode cL_law 658 = .ok (.if_icmp .ge 123, 3) := by decide +kernel
theorem dL_law_661 : decode cL_law 661 = .ok (.aload_n 1, 1) := by decide +kernel
theorem dL_law_662 : decode cL_law 662 = .ok (.iload 10, 2) := by decide +kernel
theorem dL_law_664 : decode cL_law 664 = .ok (.invokevirtual 34, 3) := by decide +kernel
theorem dL_law_667 : decode cL_law 667 = .ok (.istore 14, 2) := by decide +kernel
theorem dL_law_669 : decode cL_law 669 = .ok (.aload_n 1, 1) := by decide +kernel
theorem dL_law_670 : decode cL_law 670 = .ok (.iload 11, 2) := by decide +kernel
theorem dL_law_672 : decode cL_law 672 = .ok (.invokevirtual 34, 3) := by decide +kernel
theorem dL_law_675 : decode cL_law 675 = .ok (.istore 15, 2) := by decide +kernel
theorem dL_law_677 : decode cL_law 677 = .ok (.aload_n 1, 1) := by decide +kernel
theorem dL_law_678 : decode cL_law 678 = .ok (.iload 10, 2) := by decide +kernel
theorem dL_law_680 : decode cL_law 680 = .ok (.iload 11, 2) := by decide +kernel
theorem dL_law_682 : decode cL_law 682 = .ok (.invokestatic 97, 3) := by decide +kernel
theorem dL_law_685 : decode cL_law 685 = .ok (.istore 16, 2) := by decide +kernel
theorem dL_law_687 : decode cL_law 687 = .ok (.iload 10, 2) := by decide +kernel
theorem dL_law_689 : decode cL_law 689 = .ok (.iload 11, 2) := by decide +kernel
theorem dL_law_691 : decode cL_law 691 = .ok (.if_icmp .ne 18, 3) := by decide +kernel
theorem dL_law_694 : decode cL_law 694 = .ok (.iload 16, 2) := by decide +kernel
theorem dL_law_696 : decode cL_law 696 = .ok (.bipush (-2), 2) := by decide +kernel
theorem dL_law_698 : decode cL_law 698 = .ok (.if_icmp .ne 7, 3) := by decide +kernel
theorem dL_law_701 : decode cL_law 701 = .ok (.iconst 1, 1) := by decide +kernel
theorem dL_law_702 : decode cL_law 702 = .ok (.goto 75, 3) := by decide +kernel
theorem dL_law_705 : decode cL_law 705 = .ok (.iconst 0, 1) := by decide +kernel
theorem dL_law_706 : decode cL_law 706 = .ok (.goto 71, 3) := by decide +kernel
theorem dL_law_709 : decode cL_law 709 = .ok (.iload 16, 2) := by decide +kernel
theorem dL_law_711 : decode cL_law 711 = .ok (.bipush (-3), 2) := by decide +kernel
theorem dL_law_713 : decode cL_law 713 = .ok (.if_icmp .ne 18, 3) := by decide +kernel
theorem dL_law_716 : decode cL_law 716 = .ok (.iload 14, 2) := by decide +kernel
theorem dL_law_718 : decode cL_law 718 = .ok (.iload 15, 2) := by decide +kernel
theorem dL_law_720 : decode cL_law 720 = .ok (.if_icmp .ne 7, 3) := by decide +kernel
theorem dL_law_723 : decode cL_law 723 = .ok (.iconst 1, 1) := by decide +kernel
theorem dL_law_724 : decode cL_law 724 = .ok (.goto 53, 3) := by decide +kernel
theorem dL_law_727 : decode cL_law 727 = .ok (.iconst 0, 1) := by decide +kernel
theorem dL_law_728 : decode cL_law 728 = .ok (.goto 49, 3) := by decide +kernel
theorem dL_law_731 : decode cL_law 731 = .ok (.aload_n 1, 1) := by decide +kernel
theorem dL_law_732 : decode cL_law 732 = .ok (.iload 10, 2) := by decide +kernel
theorem dL_law_734 : decode cL_law 734 = .ok (.invokevirtual 34, 3) := by decide +kernel
theorem dL_law_737 : decode cL_law 737 = .ok (.iload 14, 2) := by decide +kernel
theorem dL_law_739 : decode cL_law 739 = .ok (.iload 15, 2) := by decide +kernel
theorem dL_law_741 : decode cL_law 741 = .ok (.ior, 1) := by decide +kernel
theorem dL_law_742 : decode cL_law 742 = .ok (.if_icmp .ne 34, 3) := by decide +kernel
theorem dL_law_745 : decode cL_law 745 = .ok (.aload_n 1, 1) := by decide +kernel
theorem dL_law_746 : decode cL_law 746 = .ok (.iload 11, 2) := by decide +kernel
theorem dL_law_748 : decode cL_law 748 = .ok (.invokevirtual 34, 3) := by decide +kernel
theorem dL_law_751 : decode cL_law 751 = .ok (.iload 14, 2) := by decide +kernel
theorem dL_law_753 : decode cL_law 753 = .ok (.iload 15, 2) := by decide +kernel
theorem dL_law_755 : decode cL_law 755 = .ok (.ior, 1) := by decide +kernel
theorem dL_law_756 : decode cL_law 756 = .ok (.if_icmp .ne 20, 3) := by decide +kernel
theorem dL_law_759 : decode cL_law 759 = .ok (.aload_n 1, 1) := by decide +kernel
theorem dL_law_760 : decode cL_law 760 = .ok (.iload 11, 2) := by decide +kernel
theorem dL_law_762 : decode cL_law 762 = .ok (.iload 10, 2) := by decide +kernel
theorem dL_law_764 : decode cL_law 764 = .ok (.invokestatic 97, 3) := by decide +kernel
theorem dL_law_767 : decode cL_law 767 = .ok (.bipush (-3), 2) := by decide +kernel
theorem dL_law_769 : decode cL_law 769 = .ok (.if_icmp .ne 7, 3) := by decide +kernel
theorem dL_law_772 : decode cL_law 772 = .ok (.iconst 1, 1) := by decide +kernel
theorem dL_law_773 : decode cL_law 773 = .ok (.goto 4, 3) := by decide +kernel
theorem dL_law_776 : decode cL_law 776 = .ok (.iconst 0, 1) := by decide +kernel
theorem dL_law_777 : decode cL_law 777 = .ok (.istore_n 3, 1) := by decide +kernel
theorem dL_law_778 : decode cL_law 778 = .ok (.goto 425, 3) := by decide +kernel
theorem dL_law_781 : decode cL_law 781 = .ok (.iload 8, 2) := by decide +kernel
theorem dL_law_783 : decode cL_law 783 = .ok (.bipush 10, 2) := by decide +kernel
theorem dL_law_785 : decode cL_law 785 = .ok (.if_icmp .ne 139, 3) := by decide +kernel
theorem dL_law_788 : decode cL_law 788 = .ok (.aload_n 1, 1) := by decide +kernel
theorem dL_law_789 : decode cL_law 789 = .ok (.invokevirtual 100, 3) := by decide +kernel
theorem dL_law_792 : decode cL_law 792 = .ok (.istore 14, 2) := by decide +kernel
theorem dL_law_794 : decode cL_law 794 = .ok (.aload_n 1, 1) := by decide +kernel
theorem dL_law_795 : decode cL_law 795 = .ok (.iload 10, 2) := by decide +kernel
theorem dL_law_797 : decode cL_law 797 = .ok (.invokevirtual 34, 3) := by decide +kernel
theorem dL_law_800 : decode cL_law 800 = .ok (.istore 15, 2) := by decide +kernel
theorem dL_law_802 : decode cL_law 802 = .ok (.aload_n 1, 1) := by decide +kernel
theorem dL_law_803 : decode cL_law 803 = .ok (.iload 10, 2) := by decide +kernel
theorem dL_law_805 : decode cL_law 805 = .ok (.iload 11, 2) := by decide +kernel
theorem dL_law_807 : decode cL_law 807 = .ok (.invokestatic 103, 3) := by decide +kernel
theorem dL_law_810 : decode cL_law 810 = .ok (.istore 16, 2) := by decide +kernel
theorem dL_law_812 : decode cL_law 812 = .ok (.iload 16, 2) := by decide +kernel
theorem dL_law_814 : decode cL_law 814 = .ok (.bipush (-3), 2) := by decide +kernel
theorem dL_law_816 : decode cL_law 816 = .ok (.if_icmp .ne 20, 3) := by decide +kernel
theorem dL_law_819 : decode cL_law 819 = .ok (.aload_n 1, 1) := by decide +kernel
theorem dL_law_820 : decode cL_law 820 = .ok (.invokevirtual 100, 3) := by decide +kernel
theorem dL_law_823 : decode cL_law 823 = .ok (.iload 14, 2) := by decide +kernel
theorem dL_law_825 : decode cL_law 825 = .ok (.if_icmp .ne 7, 3) := by decide +kernel
theorem dL_law_828 : decode cL_law 828 = .ok (.iconst 1, 1) := by decide +kernel
theorem dL_law_829 : decode cL_law 829 = .ok (.goto 91, 3) := by decide +kernel
theorem dL_law_832 : decode cL_law 832 = .ok (.iconst 0, 1) := by decide +kernel
theorem dL_law_833 : decode cL_law 833 = .ok (.goto 87, 3) := by decide +kernel
theorem dL_law_836 : decode cL_law 836 = .ok (.iload 16, 2) := by decide +kernel
theorem dL_law_838 : decode cL_law 838 = .ok (.iconst 1, 1) := by decide +kernel
theorem dL_law_839 : decode cL_law 839 = .ok (.if_icmp .ne 31, 3) := by decide +kernel
theorem dL_law_842 : decode cL_law 842 = .ok (.aload_n 1, 1) := by decide +kernel
theorem dL_law_843 : decode cL_law 843 = .ok (.invokevirtual 100, 3) := by decide +kernel
theorem dL_law_846 : decode cL_law 846 = .ok (.iload 14, 2) := by decide +kernel
theorem dL_law_848 : decode cL_law 848 = .ok (.if_icmp .ne 18, 3) := by decide +kernel
theorem dL_law_851 : decode cL_law 851 = .ok (.aload_n 1, 1) := by decide +kernel
theorem dL_law_852 : decode cL_law 852 = .ok (.iload 10, 2) := by decide +kernel
theorem dL_law_854 : decode cL_law 854 = .ok (.invokevirtual 34, 3) := by decide +kernel
theorem dL_law_857 : decode cL_law 857 = .ok (.iload 15, 2) := by decide +kernel
theorem dL_law_859 : decode cL_law 859 = .ok (.if_icmp .ne 7, 3) := by decide +kernel
theorem dL_law_862 : decode cL_law 862 = .ok (.iconst 1, 1) := by decide +kernel
theorem dL_law_863 : decode cL_law 863 = .ok (.goto 57, 3) := by decide +kernel
theorem dL_law_866 : decode cL_law 866 = .ok (.iconst 0, 1) := by decide +kernel
theorem dL_law_867 : decode cL_law 867 = .ok (.goto 53, 3) := by decide +kernel
theorem dL_law_870 : decode cL_law 870 = .ok (.aload_n 1, 1) := by decide +kernel
theorem dL_law_871 : decode cL_law 871 = .ok (.invokevirtual 100, 3) := by decide +kernel
theorem dL_law_874 : decode cL_law 874 = .ok (.iload 14, 2) := by decide +kernel
theorem dL_law_876 : decode cL_law 876 = .ok (.iconst 1, 1) := by decide +kernel
theorem dL_law_877 : decode cL_law 877 = .ok (.iadd, 1) := by decide +kernel
theorem dL_law_878 : decode cL_law 878 = .ok (.if_icmp .ne 41, 3) := by decide +kernel
theorem dL_law_881 : decode cL_law 881 = .ok (.aload_n 1, 1) := by decide +kernel
theorem dL_law_882 : decode cL_law 882 = .ok (.iload 10, 2) := by decide +kernel
theorem dL_law_884 : decode cL_law 884 = .ok (.invokevirtual 34, 3) := by decide +kernel
theorem dL_law_887 : decode cL_law 887 = .ok (.aload_n 1, 1) := by decide +kernel
theorem dL_law_888 : decode cL_law 888 = .ok (.iload 11, 2) := by decide +kernel
theorem dL_law_890 : decode cL_law 890 = .ok (.invokevirtual 34, 3) := by decide +kernel
theorem dL_law_893 : decode cL_law 893 = .ok (.ior, 1) := by decide +kernel
theorem dL_law_894 : decode cL_law 894 = .ok (.iload 15, 2) := by decide +kernel
theorem dL_law_896 : decode cL_law 896 = .ok (.if_icmp .ne 23, 3) := by decide +kernel
theorem dL_law_899 : decode cL_law 899 = .ok (.aload_n 1, 1) := by decide +kernel
theorem dL_law_900 : decode cL_law 900 = .ok (.iload 10, 2) := by decide +kernel
theorem dL_law_902 : decode cL_law 902 = .ok (.invokevirtual 34, 3) := by decide +kernel
theorem dL_law_905 : decode cL_law 905 = .ok (.aload_n 1, 1) := by decide +kernel
theorem dL_law_906 : decode cL_law 906 = .ok (.iload 11, 2) := by decide +kernel
theorem dL_law_908 : decode cL_law 908 = .ok (.invokevirtual 34, 3) := by decide +kernel
theorem dL_law_911 : decode cL_law 911 = .ok (.iand, 1) := by decide +kernel
theorem dL_law_912 : decode cL_law 912 = .ok (.ifCond .ne 7, 3) := by decide +kernel
theorem dL_law_915 : decode cL_law 915 = .ok (.iconst 1, 1) := by decide +kernel
theorem dL_law_916 : decode cL_law 916 = .ok (.goto 4, 3) := by decide +kernel
theorem dL_law_919 : decode cL_law 919 = .ok (.iconst 0, 1) := by decide +kernel
theorem dL_law_920 : decode cL_law 920 = .ok (.istore_n 3, 1) := by decide +kernel
theorem dL_law_921 : decode cL_law 921 = .ok (.goto 282, 3) := by decide +kernel
theorem dL_law_924 : decode cL_law 924 = .ok (.iload 8, 2) := by decide +kernel
theorem dL_law_926 : decode cL_law 926 = .ok (.bipush 14, 2) := by decide +kernel
theorem dL_law_928 : decode cL_law 928 = .ok (.if_icmp .ge 121, 3) := by decide +kernel
theorem dL_law_931 : decode cL_law 931 = .ok (.aload_n 1, 1) := by decide +kernel
theorem dL_law_932 : decode cL_law 932 = .ok (.iload 10, 2) := by decide +kernel
theorem dL_law_934 : decode cL_law 934 = .ok (.iload 12, 2) := by decide +kernel
theorem dL_law_936 : decode cL_law 936 = .ok (.invokevirtual 50, 3) := by decide +kernel
theorem dL_law_939 : decode cL_law 939 = .ok (.iload 13, 2) := by decide +kernel
theorem dL_law_941 : decode cL_law 941 = .ok (.ishr, 1) := by decide +kernel
theorem dL_law_942 : decode cL_law 942 = .ok (.iconst 1, 1) := by decide +kernel
theorem dL_law_943 : decode cL_law 943 = .ok (.iand, 1) := by decide +kernel
theorem dL_law_944 : decode cL_law 944 = .ok (.iconst 1, 1) := by decide +kernel
theorem dL_law_945 : decode cL_law 945 = .ok (.if_icmp .ne 7, 3) := by decide +kernel
theorem dL_law_948 : decode cL_law 948 = .ok (.iconst 1, 1) := by decide +kernel
theorem dL_law_949 : decode cL_law 949 = .ok (.goto 4, 3) := by decide +kernel
theorem dL_law_952 : decode cL_law 952 = .ok (.iconst 0, 1) := by decide +kernel
theorem dL_law_953 : decode cL_law 953 = .ok (.istore 14, 2) := by decide +kernel
theorem dL_law_955 : decode cL_law 955 = .ok (.aload_n 1, 1) := by decide +kernel
theorem dL_law_956 : decode cL_law 956 = .ok (.iload 10, 2) := by decide +kernel
theorem dL_law_958 : decode cL_law 958 = .ok (.iload 12, 2) := by decide +kernel
theorem dL_law_960 : decode cL_law 960 = .ok (.invokevirtual 50, 3) := by decide +kernel
theorem dL_law_963 : decode cL_law 963 = .ok (.istore 15, 2) := by decide +kernel
theorem dL_law_965 : decode cL_law 965 = .ok (.aload_n 1, 1) := by decide +kernel
theorem dL_law_966 : decode cL_law 966 = .ok (.iload 10, 2) := by decide +kernel
theorem dL_law_968 : decode cL_law 968 = .ok (.invokevirtual 34, 3) := by decide +kernel
theorem dL_law_971 : decode cL_law 971 = .ok (.istore 16, 2) := by decide +kernel
theorem dL_law_973 : decode cL_law 973 = .ok (.aload_n 1, 1) := by decide +kernel
theorem dL_law_974 : decode cL_law 974 = .ok (.iload 10, 2) := by decide +kernel
theorem dL_law_976 : decode cL_law 976 = .ok (.invokevirtual 37, 3) := by decide +kernel
theorem dL_law_979 : decode cL_law 979 = .ok (.istore 17, 2) := by decide +kernel
theorem dL_law_981 : decode cL_law 981 = .ok (.aload_n 1, 1) := by decide +kernel
theorem dL_law_982 : decode cL_law 982 = .ok (.iload 10, 2) := by decide +kernel
theorem dL_law_984 : decode cL_law 984 = .ok (.iload 12, 2) := by decide +kernel
theorem dL_law_986 : decode cL_law 986 = .ok (.iload 13, 2) := by decide +kernel
theorem dL_law_988 : decode cL_law 988 = .ok (.invokevirtual 106, 3) := by decide +kernel
theorem dL_law_991 : decode cL_law 991 = .ok (.istore 18, 2) := by decide +kernel
theorem dL_law_993 : decode cL_law 993 = .ok (.aload_n 1, 1) := by decide +kernel
theorem dL_law_994 : decode cL_law 994 = .ok (.iload 10, 2) := by decide +kernel
theorem dL_law_996 : decode cL_law 996 = .ok (.iload 12, 2) := by decide +kernel
theorem dL_law_998 : decode cL_law 998 = .ok (.invokevirtual 50, 3) := by decide +kernel
theorem dL_law_1001 : decode cL_law 1001 = .ok (.iload 15, 2) := by decide +kernel
theorem dL_law_1003 : decode cL_law 1003 = .ok (.iconst 1, 1) := by decide +kernel
theorem dL_law_1004 : decode cL_law 1004 = .ok (.iload 13, 2) := by decide +kernel
theorem dL_law_1006 : decode cL_law 1006 = .ok (.ishl, 1) := by decide +kernel
theorem dL_law_1007 : decode cL_law 1007 = .ok (.ixor, 1) := by decide +kernel
theorem dL_law_1008 : decode cL_law 1008 = .ok (.if_icmp .ne 36, 3) := by decide +kernel
theorem dL_law_1011 : decode cL_law 1011 = .ok (.iload 18, 2) := by decide +kernel
theorem dL_law_1013 : decode cL_law 1013 = .ok (.ifCond .eq 31, 3) := by decide +kernel
theorem dL_law_1016 : decode cL_law 1016 = .ok (.iload 18, 2) := by decide +kernel
theorem dL_law_1018 : decode cL_law 1018 = .ok (.iload 16, 2) := by decide +kernel
theorem dL_law_1020 : decode cL_law 1020 = .ok (.iconst (-1), 1) := by decide +kernel
theorem dL_law_1021 : decode cL_law 1021 = .ok (.ixor, 1) := by decide +kernel
theorem dL_law_1022 : decode cL_law 1022 = .ok (.iand, 1) := by decide +kernel
theorem dL_law_1023 : decode cL_law 1023 = .ok (.ifCond .ne 21, 3) := by decide +kernel
theorem dL_law_1026 : decode cL_law 1026 = .ok (.iload 14, 2) := by decide +kernel
theorem dL_law_1028 : decode cL_law 1028 = .ok (.ifCond .ne 12, 3) := by decide +kernel
theorem dL_law_1031 : decode cL_law 1031 = .ok (.iload 18, 2) := by decide +kernel
theorem dL_law_1033 : decode cL_law 1033 = .ok (.iconst 1, 1) := by decide +kernel
theorem dL_law_1034 : decode cL_law 1034 = .ok (.iload 17, 2) := by decide +kernel
theorem dL_law_1036 : decode cL_law 1036 = .ok (.ishl, 1) := by decide +kernel
theorem dL_law_1037 : decode cL_law 1037 = .ok (.if_icmp .ne 7, 3) := by decide +kernel
theorem dL_law_1040 : decode cL_law 1040 = .ok (.iconst 1, 1) := by decide +kernel
theorem dL_law_1041 : decode cL_law 1041 = .ok (.goto 4, 3) := by decide +kernel
theorem dL_law_1044 : decode cL_law 1044 = .ok (.iconst 0, 1) := by decide +kernel
theorem dL_law_1045 : decode cL_law 1045 = .ok (.istore_n 3, 1) := by decide +kernel
theorem dL_law_1046 : decode cL_law 1046 = .ok (.goto 157, 3) := by decide +kernel
theorem dL_law_1049 : decode cL_law 1049 = .ok (.aload_n 1, 1) := by decide +kernel
theorem dL_law_1050 : decode cL_law 1050 = .ok (.invokevirtual 53, 3) := by decide +kernel
theorem dL_law_1053 : decode cL_law 1053 = .ok (.istore 14, 2) := by decide +kernel
theorem dL_law_1055 : decode cL_law 1055 = .ok (.iload 10, 2) := by decide +kernel
theorem dL_law_1057 : decode cL_law 1057 = .ok (.iload 11, 2) := by decide +kernel
theorem dL_law_1059 : decode cL_law 1059 = .ok (.if_icmp .ne 7, 3) := by decide +kernel
theorem dL_law_1062 : decode cL_law 1062 = .ok (.iconst 0, 1) := by decide +kernel
theorem dL_law_1063 : decode cL_law 1063 = .ok (.goto 11, 3) := by decide +kernel
theorem dL_law_1066 : decode cL_law 1066 = .ok (.aload_n 1, 1) := by decide +kernel
theorem dL_law_1067 : decode cL_law 1067 = .ok (.iload 10, 2) := by decide +kernel
theorem dL_law_1069 : decode cL_law 1069 = .ok (.iload 11, 2) := by decide +kernel
theorem dL_law_1071 : decode cL_law 1071 = .ok (.invokevirtual 63, 3) := by decide +kernel
theorem dL_law_1074 : decode cL_law 1074 = .ok (.istore 15, 2) := by decide +kernel
theorem dL_law_1076 : decode cL_law 1076 = .ok (.aload_n 1, 1) := by decide +kernel
theorem dL_law_1077 : decode cL_law 1077 = .ok (.iload 10, 2) := by decide +kernel
theorem dL_law_1079 : decode cL_law 1079 = .ok (.iload 11, 2) := by decide +kernel
theorem dL_law_1081 : decode cL_law 1081 = .ok (.iload 7, 2) := by decide +kernel
theorem dL_law_1083 : decode cL_law 1083 = .ok (.bipush 14, 2) := by decide +kernel
theorem dL_law_1085 : decode cL_law 1085 = .ok (.ishr, 1) := by decide +kernel
theorem dL_law_1086 : decode cL_law 1086 = .ok (.iconst 3, 1) := by decide +kernel
theorem dL_law_1087 : decode cL_law 1087 = .ok (.iand, 1) := by decide +kernel
theorem dL_law_1088 : decode cL_law 1088 = .ok (.ifCond .ne 7, 3) := by decide +kernel
theorem dL_law_1091 : decode cL_law 1091 = .ok (.iconst 1, 1) := by decide +kernel
theorem dL_law_1092 : decode cL_law 1092 = .ok (.goto 4, 3) := by decide +kernel
theorem dL_law_1095 : decode cL_law 1095 = .ok (.iconst 0, 1) := by decide +kernel
theorem dL_law_1096 : decode cL_law 1096 = .ok (.invokestatic 109, 3) := by decide +kernel
theorem dL_law_1099 : decode cL_law 1099 = .ok (.istore 16, 2) := by decide +kernel
theorem dL_law_1101 : decode cL_law 1101 = .ok (.iload 10, 2) := by decide +kernel
theorem dL_law_1103 : decode cL_law 1103 = .ok (.iload 11, 2) := by decide +kernel
theorem dL_law_1105 : decode cL_law 1105 = .ok (.if_icmp .ne 18, 3) := by decide +kernel
theorem dL_law_1108 : decode cL_law 1108 = .ok (.iload 16, 2) := by decide +kernel
theorem dL_law_1110 : decode cL_law 1110 = .ok (.bipush (-2), 2) := by decide +kernel
theorem dL_law_1112 : decode cL_law 1112 = .ok (.if_icmp .ne 7, 3) := by decide +kernel
theorem dL_law_1115 : decode cL_law 1115 = .ok (.iconst 1, 1) := by decide +kernel
theorem dL_law_1116 : decode cL_law 1116 = .ok (.goto 86, 3) := by decide +kernel
theorem dL_law_1119 : decode cL_law 1119 = .ok (.iconst 0, 1) := by decide +kernel
theorem dL_law_1120 : decode cL_law 1120 = .ok (.goto 82, 3) := by decide +kernel
theorem dL_law_1123 : decode cL_law 1123 = .ok (.iload 16, 2) := by decide +kernel
theorem dL_law_1125 : decode cL_law 1125 = .ok (.bipush (-3), 2) := by decide +kernel
theorem dL_law_1127 : decode cL_law 1127 = .ok (.if_icmp .ne 20, 3) := by decide +kernel
theorem dL_law_1130 : decode cL_law 1130 = .ok (.aload_n 1, 1) := by decide +kernel
theorem dL_law_1131 : decode cL_law 1131 = .ok (.invokevirtual 53, 3) := by decide +kernel
theorem dL_law_1134 : decode cL_law 1134 = .ok (.iload 14, 2) := by decide +kernel
theorem dL_law_1136 : decode cL_law 1136 = .ok (.if_icmp .ne 7, 3) := by decide +kernel
theorem dL_law_1139 : decode cL_law 1139 = .ok (.iconst 1, 1) := by decide +kernel
theorem dL_law_1140 : decode cL_law 1140 = .ok (.goto 62, 3) := by decide +kernel
theorem dL_law_1143 : decode cL_law 1143 = .ok (.iconst 0, 1) := by decide +kernel
theorem dL_law_1144 : decode cL_law 1144 = .ok (.goto 58, 3) := by decide +kernel
theorem dL_law_1147 : decode cL_law 1147 = .ok (.iload 15, 2) := by decide +kernel
theorem dL_law_1149 : decode cL_law 1149 = .ok (.ifCond .le 52, 3) := by decide +kernel
theorem dL_law_1152 : decode cL_law 1152 = .ok (.iload 16, 2) := by decide +kernel
theorem dL_law_1154 : decode cL_law 1154 = .ok (.iload 14, 2) := by decide +kernel
theorem dL_law_1156 : decode cL_law 1156 = .ok (.iconst 1, 1) := by decide +kernel
theorem dL_law_1157 : decode cL_law 1157 = .ok (.isub, 1) := by decide +kernel
theorem dL_law_1158 : decode cL_law 1158 = .ok (.if_icmp .ne 43, 3) := by decide +kernel
theorem dL_law_1161 : decode cL_law 1161 = .ok (.aload_n 1, 1) := by decide +kernel
theorem dL_law_1162 : decode cL_law 1162 = .ok (.invokevirtual 53, 3) := by decide +kernel
theorem dL_law_1165 : decode cL_law 1165 = .ok (.iload 16, 2) := by decide +kernel
theorem dL_law_1167 : decode cL_law 1167 = .ok (.if_icmp .ne 34, 3) := by decide +kernel
theorem dL_law_1170 : decode cL_law 1170 = .ok (.aload_n 1, 1) := by decide +kernel
theorem dL_law_1171 : decode cL_law 1171 = .ok (.iload 10, 2) := by decide +kernel
theorem dL_law_1173 : decode cL_law 1173 = .ok (.iload 11, 2) := by decide +kernel
theorem dL_law_1175 : decode cL_law 1175 = .ok (.invokevirtual 63, 3) := by decide +kernel
theorem dL_law_1178 : decode cL_law 1178 = .ok (.iload 15, 2) := by decide +kernel
theorem dL_law_1180 : decode cL_law 1180 = .ok (.if_icmp .ne 21, 3) := by decide +kernel
theorem dL_law_1183 : decode cL_law 1183 = .ok (.aload_n 1, 1) := by decide +kernel
theorem dL_law_1184 : decode cL_law 1184 = .ok (.iload 11, 2) := by decide +kernel
theorem dL_law_1186 : decode cL_law 1186 = .ok (.iload 10, 2) := by decide +kernel
theorem dL_law_1188 : decode cL_law 1188 = .ok (.iconst 1, 1) := by decide +kernel
theorem dL_law_1189 : decode cL_law 1189 = .ok (.invokestatic 109, 3) := by decide +kernel
theorem dL_law_1192 : decode cL_law 1192 = .ok (.bipush (-3), 2) := by decide +kernel
theorem dL_law_1194 : decode cL_law 1194 = .ok (.if_icmp .ne 7, 3) := by decide +kernel
theorem dL_law_1197 : decode cL_law 1197 = .ok (.iconst 1, 1) := by decide +kernel
theorem dL_law_1198 : decode cL_law 1198 = .ok (.goto 4, 3) := by decide +kernel
theorem dL_law_1201 : decode cL_law 1201 = .ok (.iconst 0, 1) := by decide +kernel
theorem dL_law_1202 : decode cL_law 1202 = .ok (.istore_n 3, 1) := by decide +kernel
theorem dL_law_1203 : decode cL_law 1203 = .ok (.aload_n 1, 1) := by decide +kernel
theorem dL_law_1204 : decode cL_law 1204 = .ok (.invokevirtual 74, 3) := by decide +kernel
theorem dL_law_1207 : decode cL_law 1207 = .ok (.istore 9, 2) := by decide +kernel
theorem dL_law_1209 : decode cL_law 1209 = .ok (.iload_n 3, 1) := by decide +kernel
theorem dL_law_1210 : decode cL_law 1210 = .ok (.ifCond .eq 56, 3) := by decide +kernel
theorem dL_law_1213 : decode cL_law 1213 = .ok (.iload 5, 2) := by decide +kernel
theorem dL_law_1215 : decode cL_law 1215 = .ok (.iconst 4, 1) := by decide +kernel
theorem dL_law_1216 : decode cL_law 1216 = .ok (.irem, 1) := by decide +kernel
theorem dL_law_1217 : decode cL_law 1217 = .ok (.ifCond .gt 11, 3) := by decide +kernel
theorem dL_law_1220 : decode cL_law 1220 = .ok (.aload_n 1, 1) := by decide +kernel
theorem dL_law_1221 : decode cL_law 1221 = .ok (.aload_n 2, 1) := by decide +kernel
theorem dL_law_1222 : decode cL_law 1222 = .ok (.invokestatic 67, 3) := by decide +kernel
theorem dL_law_1225 : decode cL_law 1225 = .ok (.ifCond .eq 41, 3) := by decide +kernel
theorem dL_law_1228 : decode cL_law 1228 = .ok (.iload 9, 2) := by decide +kernel
theorem dL_law_1230 : decode cL_law 1230 = .ok (.ifCond .eq 32, 3) := by decide +kernel
theorem dL_law_1233 : decode cL_law 1233 = .ok (.aload_n 1, 1) := by decide +kernel
theorem dL_law_1234 : decode cL_law 1234 = .ok (.iload 7, 2) := by decide +kernel
theorem dL_law_1236 : decode cL_law 1236 = .ok (.iconst 3, 1) := by decide +kernel
theorem dL_law_1237 : decode cL_law 1237 = .ok (.ishr, 1) := by decide +kernel
theorem dL_law_1238 : decode cL_law 1238 = .ok (.iload 9, 2) := by decide +kernel
theorem dL_law_1240 : decode cL_law 1240 = .ok (.irem, 1) := by decide +kernel
theorem dL_law_1241 : decode cL_law 1241 = .ok (.invokestatic 113, 3) := by decide +kernel
theorem dL_law_1244 : decode cL_law 1244 = .ok (.ifCond .eq 22, 3) := by decide +kernel
theorem dL_law_1247 : decode cL_law 1247 = .ok (.aload_n 1, 1) := by decide +kernel
theorem dL_law_1248 : decode cL_law 1248 = .ok (.iload 7, 2) := by decide +kernel
theorem dL_law_1250 : decode cL_law 1250 = .ok (.bipush 7, 2) := by decide +kernel
theorem dL_law_1252 : decode cL_law 1252 = .ok (.ishr, 1) := by decide +kernel
theorem dL_law_1253 : decode cL_law 1253 = .ok (.iload 9, 2) := by decide +kernel
theorem dL_law_1255 : decode cL_law 1255 = .ok (.irem, 1) := by decide +kernel
theorem dL_law_1256 : decode cL_law 1256 = .ok (.invokestatic 113, 3) := by decide +kernel
theorem dL_law_1259 : decode cL_law 1259 = .ok (.ifCond .eq 7, 3) := by decide +kernel
theorem dL_law_1262 : decode cL_law 1262 = .ok (.iconst 1, 1) := by decide +kernel
theorem dL_law_1263 : decode cL_law 1263 = .ok (.goto 4, 3) := by decide +kernel
theorem dL_law_1266 : decode cL_law 1266 = .ok (.iconst 0, 1) := by decide +kernel
theorem dL_law_1267 : decode cL_law 1267 = .ok (.istore_n 3, 1) := by decide +kernel
theorem dL_law_1268 : decode cL_law 1268 = .ok (.iinc 5 1, 3) := by decide +kernel
theorem dL_law_1271 : decode cL_law 1271 = .ok (.goto (-1217), 3) := by decide +kernel
theorem dL_law_1274 : decode cL_law 1274 = .ok (.iload_n 3, 1) := by decide +kernel
theorem dL_law_1275 : decode cL_law 1275 = .ok (.ireturn, 1) := by decide +kernel
