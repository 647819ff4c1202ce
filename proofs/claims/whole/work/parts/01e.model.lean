theorem dX4_init_0 : decode cX4_init 0 = .ok (.aload_n 0, 1) := by decide +kernel
theorem dX4_init_1 : decode cX4_init 1 = .ok (.invokespecial 1, 3) := by decide +kernel
theorem dX4_init_4 : decode cX4_init 4 = .ok (.aload_n 0, 1) := by decide +kernel
theorem dX4_init_5 : decode cX4_init 5 = .ok (.bipush 24, 2) := by decide +kernel
theorem dX4_init_7 : decode cX4_init 7 = .ok (.newarray .int, 2) := by decide +kernel
theorem dX4_init_9 : decode cX4_init 9 = .ok (.putfield 7, 3) := by decide +kernel
theorem dX4_init_12 : decode cX4_init 12 = .ok (.aload_n 0, 1) := by decide +kernel
theorem dX4_init_13 : decode cX4_init 13 = .ok (.bipush 72, 2) := by decide +kernel
theorem dX4_init_15 : decode cX4_init 15 = .ok (.newarray .int, 2) := by decide +kernel
theorem dX4_init_17 : decode cX4_init 17 = .ok (.putfield 13, 3) := by decide +kernel
theorem dX4_init_20 : decode cX4_init 20 = .ok (.aload_n 0, 1) := by decide +kernel
theorem dX4_init_21 : decode cX4_init 21 = .ok (.sipush 144, 3) := by decide +kernel
theorem dX4_init_24 : decode cX4_init 24 = .ok (.newarray .int, 2) := by decide +kernel
theorem dX4_init_26 : decode cX4_init 26 = .ok (.putfield 16, 3) := by decide +kernel
theorem dX4_init_29 : decode cX4_init 29 = .ok (.aload_n 0, 1) := by decide +kernel
theorem dX4_init_30 : decode cX4_init 30 = .ok (.bipush 24, 2) := by decide +kernel
theorem dX4_init_32 : decode cX4_init 32 = .ok (.newarray .int, 2) := by decide +kernel
theorem dX4_init_34 : decode cX4_init 34 = .ok (.putfield 19, 3) := by decide +kernel
theorem dX4_init_37 : decode cX4_init 37 = .ok (.aload_n 0, 1) := by decide +kernel
theorem dX4_init_38 : decode cX4_init 38 = .ok (.bipush 24, 2) := by decide +kernel
theorem dX4_init_40 : decode cX4_init 40 = .ok (.newarray .int, 2) := by decide +kernel
theorem dX4_init_42 : decode cX4_init 42 = .ok (.putfield 22, 3) := by decide +kernel
theorem dX4_init_45 : decode cX4_init 45 = .ok (.aload_n 0, 1) := by decide +kernel
theorem dX4_init_46 : decode cX4_init 46 = .ok (.bipush 24, 2) := by decide +kernel
theorem dX4_init_48 : decode cX4_init 48 = .ok (.newarray .int, 2) := by decide +kernel
theorem dX4_init_50 : decode cX4_init 50 = .ok (.putfield 25, 3) := by decide +kernel
theorem dX4_init_53 : decode cX4_init 53 = .ok (.aload_n 0, 1) := by decide +kernel
theorem dX4_init_54 : decode cX4_init 54 = .ok (.sipush 576, 3) := by decide +kernel
theorem dX4_init_57 : decode cX4_init 57 = .ok (.newarray .int, 2) := by decide +kernel
theorem dX4_init_59 : decode cX4_init 59 = .ok (.putfield 28, 3) := by decide +kernel
theorem dX4_init_62 : decode cX4_init 62 = .ok (.return_, 1) := by decide +kernel
theorem dX4_thrown_0 : decode cX4_thrown 0 = .ok (.aload_n 0, 1) := by decide +kernel
theorem dX4_thrown_1 : decode cX4_thrown 1 = .ok (.getfield 31, 3) := by decide +kernel
theorem dX4_thrown_4 : decode cX4_thrown 4 = .ok (.ireturn, 1) := by decide +kernel
theorem dX4_isFine_0 : decode cX4_isFine 0 = .ok (.aload_n 0, 1) := by decide +kernel
theorem dX4_isFine_1 : decode cX4_isFine 1 = .ok (.iload_n 1, 1) := by decide +kernel
theorem dX4_isFine_2 : decode cX4_isFine 2 = .ok (.putfield 31, 3) := by decide +kernel
theorem dX4_isFine_5 : decode cX4_isFine 5 = .ok (.iload_n 1, 1) := by decide +kernel
theorem dX4_isFine_6 : decode cX4_isFine 6 = .ok (.ifCond .ne 7, 3) := by decide +kernel
theorem dX4_isFine_9 : decode cX4_isFine 9 = .ok (.iconst 1, 1) := by decide +kernel
theorem dX4_isFine_10 : decode cX4_isFine 10 = .ok (.goto 4, 3) := by decide +kernel
theorem dX4_isFine_13 : decode cX4_isFine 13 = .ok (.iconst 0, 1) := by decide +kernel
theorem dX4_isFine_14 : decode cX4_isFine 14 = .ok (.ireturn, 1) := by decide +kernel
theorem dX4_isIn_0 : decode cX4_isIn 0 = .ok (.iload_n 0, 1) := by decide +kernel
theorem dX4_isIn_1 : decode cX4_isIn 1 = .ok (.iload_n 1, 1) := by decide +kernel
theorem dX4_isIn_2 : decode cX4_isIn 2 = .ok (.if_icmp .lt 12, 3) := by decide +kernel
theorem dX4_isIn_5 : decode cX4_isIn 5 = .ok (.iload_n 0, 1) := by decide +kernel
theorem dX4_isIn_6 : decode cX4_isIn 6 = .ok (.iload_n 2, 1) := by decide +kernel
theorem dX4_isIn_7 : decode cX4_isIn 7 = .ok (.if_icmp .gt 7, 3) := by decide +kernel
theorem dX4_isIn_10 : decode cX4_isIn 10 = .ok (.iconst 1, 1) := by decide +kernel
theorem dX4_isIn_11 : decode cX4_isIn 11 = .ok (.goto 4, 3) := by decide +kernel
theorem dX4_isIn_14 : decode cX4_isIn 14 = .ok (.iconst 0, 1) := by decide +kernel
theorem dX4_isIn_15 : decode cX4_isIn 15 = .ok (.ireturn, 1) := by decide +kernel
set_option maxRecDepth 20000 in
theorem ggX4_isCard_X4_isIn : GoodIn wsX4_isCard wsX4_isIn := goodIn_r _ [5] (by decide +kernel) (by decide +kernel)
set_option maxRecDepth 20000 in
theorem gX4_isCard_X4_isIn : GoodIn wsX4_isCard (va_wsS RX4 38 yX4_isIn wsX4_isIn) := goodIn_app (goodIn_of _ (by decide +kernel)) ggX4_isCard_X4_isIn
theorem dX4_isCard_0 : decode cX4_isCard 0 = .ok (.iload_n 1, 1) := by decide +kernel
theorem dX4_isCard_1 : decode cX4_isCard 1 = .ok (.iconst 0, 1) := by decide +kernel
theorem dX4_isCard_2 : decode cX4_isCard 2 = .ok (.aload_n 0, 1) := by decide +kernel
theorem dX4_isCard_3 : decode cX4_isCard 3 = .ok (.getfield 35, 3) := by decide +kernel
theorem dX4_isCard_6 : decode cX4_isCard 6 = .ok (.iconst 1, 1) := by decide +kernel
theorem dX4_isCard_7 : decode cX4_isCard 7 = .ok (.isub, 1) := by decide +kernel
theorem dX4_isCard_8 : decode cX4_isCard 8 = .ok (.invokestatic 38, 3) := by decide +kernel
theorem dX4_isCard_11 : decode cX4_isCard 11 = .ok (.ireturn, 1) := by decide +kernel
set_option maxRecDepth 20000 in
theorem ggX4_isBook_X4_isIn : GoodIn wsX4_isBook wsX4_isIn := goodIn_r _ [4] (by decide +kernel) (by decide +kernel)
set_option maxRecDepth 20000 in
theorem gX4_isBook_X4_isIn : GoodIn wsX4_isBook (va_wsS RX4 38 yX4_isIn wsX4_isIn) := goodIn_app (goodIn_of _ (by decide +kernel)) ggX4_isBook_X4_isIn
theorem dX4_isBook_0 : decode cX4_isBook 0 = .ok (.iload_n 0, 1) := by decide +kernel
theorem dX4_isBook_1 : decode cX4_isBook 1 = .ok (.iconst 0, 1) := by decide +kernel
theorem dX4_isBook_2 : decode cX4_isBook 2 = .ok (.iconst 2, 1) := by decide +kernel
theorem dX4_isBook_3 : decode cX4_isBook 3 = .ok (.invokestatic 38, 3) := by decide +kernel
theorem dX4_isBook_6 : decode cX4_isBook 6 = .ok (.ireturn, 1) := by decide +kernel
set_option maxRecDepth 20000 in
theorem ggX4_isKind_X4_isIn : GoodIn wsX4_isKind wsX4_isIn := goodIn_r _ [4] (by decide +kernel) (by decide +kernel)
set_option maxRecDepth 20000 in
theorem gX4_isKind_X4_isIn : GoodIn wsX4_isKind (va_wsS RX4 38 yX4_isIn wsX4_isIn) := goodIn_app (goodIn_of _ (by decide +kernel)) ggX4_isKind_X4_isIn
theorem dX4_isKind_0 : decode cX4_isKind 0 = .ok (.iload_n 0, 1) := by decide +kernel
theorem dX4_isKind_1 : decode cX4_isKind 1 = .ok (.iconst 0, 1) := by decide +kernel
theorem dX4_isKind_2 : decode cX4_isKind 2 = .ok (.iconst 1, 1) := by decide +kernel
theorem dX4_isKind_3 : decode cX4_isKind 3 = .ok (.invokestatic 38, 3) := by decide +kernel
theorem dX4_isKind_6 : decode cX4_isKind 6 = .ok (.ireturn, 1) := by decide +kernel
theorem dX4_at_0 : decode cX4_at 0 = .ok (.iconst 2, 1) := by decide +kernel
theorem dX4_at_1 : decode cX4_at 1 = .ok (.iconst 3, 1) := by decide +kernel
theorem dX4_at_2 : decode cX4_at 2 = .ok (.iload_n 0, 1) := by decide +kernel
theorem dX4_at_3 : decode cX4_at 3 = .ok (.imul, 1) := by decide +kernel
theorem dX4_at_4 : decode cX4_at 4 = .ok (.iload_n 1, 1) := by decide +kernel
theorem dX4_at_5 : decode cX4_at 5 = .ok (.iadd, 1) := by decide +kernel
theorem dX4_at_6 : decode cX4_at 6 = .ok (.imul, 1) := by decide +kernel
theorem dX4_at_7 : decode cX4_at 7 = .ok (.iload_n 2, 1) := by decide +kernel
theorem dX4_at_8 : decode cX4_at 8 = .ok (.iadd, 1) := by decide +kernel
theorem dX4_at_9 : decode cX4_at 9 = .ok (.ireturn, 1) := by decide +kernel
theorem dX4_count_0 : decode cX4_count 0 = .ok (.iconst 0, 1) := by decide +kernel
theorem dX4_count_1 : decode cX4_count 1 = .ok (.istore_n 1, 1) := by decide +kernel
theorem dX4_count_2 : decode cX4_count 2 = .ok (.iconst 0, 1) := by decide +kernel
theorem dX4_count_3 : decode cX4_count 3 = .ok (.istore_n 2, 1) := by decide +kernel
theorem dX4_count_4 : decode cX4_count 4 = .ok (.iload_n 2, 1) := by decide +kernel
theorem dX4_count_5 : decode cX4_count 5 = .ok (.bipush 30, 2) := by decide +kernel
theorem dX4_count_7 : decode cX4_count 7 = .ok (.if_icmp .ge 17, 3) := by decide +kernel
theorem dX4_count_10 : decode cX4_count 10 = .ok (.iload_n 1, 1) := by decide +kernel
theorem dX4_count_11 : decode cX4_count 11 = .ok (.iload_n 0, 1) := by decide +kernel
theorem dX4_count_12 : decode cX4_count 12 = .ok (.iload_n 2, 1) := by decide +kernel
theorem dX4_count_13 : decode cX4_count 13 = .ok (.ishr, 1) := by decide +kernel
theorem dX4_count_14 : decode cX4_count 14 = .ok (.iconst 1, 1) := by decide +kernel
theorem dX4_count_15 : decode cX4_count 15 = .ok (.iand, 1) := by decide +kernel
theorem dX4_count_16 : decode cX4_count 16 = .ok (.iadd, 1) := by decide +kernel
theorem dX4_count_17 : decode cX4_count 17 = .ok (.istore_n 1, 1) := by decide +kernel
theorem dX4_count_18 : decode cX4_count 18 = .ok (.iinc 2 1, 3) := by decide +kernel
theorem dX4_count_21 : decode cX4_count 21 = .ok (.goto (-17), 3) := by decide +kernel
theorem dX4_count_24 : decode cX4_count 24 = .ok (.iload_n 1, 1) := by decide +kernel
theorem dX4_count_25 : decode cX4_count 25 = .ok (.ireturn, 1) := by decide +kernel
theorem dX4_has_0 : decode cX4_has 0 = .ok (.iload_n 0, 1) := by decide +kernel
theorem dX4_has_1 : decode cX4_has 1 = .ok (.iload_n 1, 1) := by decide +kernel
theorem dX4_has_2 : decode cX4_has 2 = .ok (.ishr, 1) := by decide +kernel
theorem dX4_has_3 : decode cX4_has 3 = .ok (.iconst 1, 1) := by decide +kernel
theorem dX4_has_4 : decode cX4_has 4 = .ok (.iand, 1) := by decide +kernel
theorem dX4_has_5 : decode cX4_has 5 = .ok (.iconst 1, 1) := by decide +kernel
theorem dX4_has_6 : decode cX4_has 6 = .ok (.if_icmp .ne 7, 3) := by decide +kernel
theorem dX4_has_9 : decode cX4_has 9 = .ok (.iconst 1, 1) := by decide +kernel
theorem dX4_has_10 : decode cX4_has 10 = .ok (.goto 4, 3) := by decide +kernel
theorem dX4_has_13 : decode cX4_has 13 = .ok (.iconst 0, 1) := by decide +kernel
theorem dX4_has_14 : decode cX4_has 14 = .ok (.ireturn, 1) := by decide +kernel
set_option maxRecDepth 20000 in
theorem ggX4_add_X4_isBook : GoodIn wsX4_add wsX4_isBook := goodIn_r _ [7, 8, 9, 6, 10] (by decide +kernel) (by decide +kernel)
set_option maxRecDepth 20000 in
theorem gX4_add_X4_isBook : GoodIn wsX4_add (va_wsS RX4 42 yX4_isBook wsX4_isBook) := goodIn_app (goodIn_of _ (by decide +kernel)) ggX4_add_X4_isBook
set_option maxRecDepth 20000 in
theorem ggX4_add_X4_isIn : GoodIn wsX4_add wsX4_isIn := goodIn_r _ [10] (by decide +kernel) (by decide +kernel)
set_option maxRecDepth 20000 in
theorem gX4_add_X4_isIn : GoodIn wsX4_add (va_wsS RX4 38 yX4_isIn wsX4_isIn) := goodIn_app (goodIn_of _ (by decide +kernel)) ggX4_add_X4_isIn
set_option maxRecDepth 20000 in
theorem ggX4_add_X4_isFine : GoodIn wsX4_add wsX4_isFine := goodIn_r _ [14, 15, 16, 17, 18, 19, 20, 21, 22, 23, 24] (by decide +kernel) (by decide +kernel)
set_option maxRecDepth 20000 in
theorem gX4_add_X4_isFine : GoodIn wsX4_add (wsV RX4 46 RX4 yX4_isFine wsX4_isFine) := goodIn_app (goodIn_of _ (by decide +kernel)) ggX4_add_X4_isFine
theorem dX4_add_0 : decode cX4_add 0 = .ok (.aload_n 0, 1) := by decide +kernel
theorem dX4_add_1 : decode cX4_add 1 = .ok (.iload_n 1, 1) := by decide +kernel
theorem dX4_add_2 : decode cX4_add 2 = .ok (.invokestatic 42, 3) := by decide +kernel
theorem dX4_add_5 : decode cX4_add 5 = .ok (.ifCond .ne 7, 3) := by decide +kernel
theorem dX4_add_8 : decode cX4_add 8 = .ok (.iconst 1, 1) := by decide +kernel
theorem dX4_add_9 : decode cX4_add 9 = .ok (.goto 31, 3) := by decide +kernel
theorem dX4_add_12 : decode cX4_add 12 = .ok (.iload_n 2, 1) := by decide +kernel
theorem dX4_add_13 : decode cX4_add 13 = .ok (.iconst 0, 1) := by decide +kernel
theorem dX4_add_14 : decode cX4_add 14 = .ok (.bipush 31, 2) := by decide +kernel
theorem dX4_add_16 : decode cX4_add 16 = .ok (.invokestatic 38, 3) := by decide +kernel
theorem dX4_add_19 : decode cX4_add 19 = .ok (.ifCond .ne 7, 3) := by decide +kernel
theorem dX4_add_22 : decode cX4_add 22 = .ok (.iconst 2, 1) := by decide +kernel
theorem dX4_add_23 : decode cX4_add 23 = .ok (.goto 17, 3) := by decide +kernel
theorem dX4_add_26 : decode cX4_add 26 = .ok (.aload_n 0, 1) := by decide +kernel
theorem dX4_add_27 : decode cX4_add 27 = .ok (.getfield 35, 3) := by decide +kernel
theorem dX4_add_30 : decode cX4_add 30 = .ok (.bipush 24, 2) := by decide +kernel
theorem dX4_add_32 : decode cX4_add 32 = .ok (.if_icmp .ne 7, 3) := by decide +kernel
theorem dX4_add_35 : decode cX4_add 35 = .ok (.iconst 3, 1) := by decide +kernel
theorem dX4_add_36 : decode cX4_add 36 = .ok (.goto 4, 3) := by decide +kernel
theorem dX4_add_39 : decode cX4_add 39 = .ok (.iconst 0, 1) := by decide +kernel
theorem dX4_add_40 : decode cX4_add 40 = .ok (.invokevirtual 46, 3) := by decide +kernel
theorem dX4_add_43 : decode cX4_add 43 = .ok (.ifCond .ne 5, 3) := by decide +kernel
theorem dX4_add_46 : decode cX4_add 46 = .ok (.iconst 0, 1) := by decide +kernel
theorem dX4_add_47 : decode cX4_add 47 = .ok (.ireturn, 1) := by decide +kernel
theorem dX4_add_48 : decode cX4_add 48 = .ok (.aload_n 0, 1) := by decide +kernel
theorem dX4_add_49 : decode cX4_add 49 = .ok (.getfield 7, 3) := by decide +kernel
theorem dX4_add_52 : decode cX4_add 52 = .ok (.aload_n 0, 1) := by decide +kernel
theorem dX4_add_53 : decode cX4_add 53 = .ok (.getfield 35, 3) := by decide +kernel
theorem dX4_add_56 : decode cX4_add 56 = .ok (.iload_n 1, 1) := by decide +kernel
theorem dX4_add_57 : decode cX4_add 57 = .ok (.iastore, 1) := by decide +kernel
theorem dX4_add_58 : decode cX4_add 58 = .ok (.iconst 0, 1) := by decide +kernel
theorem dX4_add_59 : decode cX4_add 59 = .ok (.istore_n 3, 1) := by decide +kernel
theorem dX4_add_60 : decode cX4_add 60 = .ok (.iload_n 3, 1) := by decide +kernel
theorem dX4_add_61 : decode cX4_add 61 = .ok (.iconst 3, 1) := by decide +kernel
theorem dX4_add_62 : decode cX4_add 62 = .ok (.if_icmp .ge 23, 3) := by decide +kernel
theorem dX4_add_65 : decode cX4_add 65 = .ok (.aload_n 0, 1) := by decide +kernel
theorem dX4_add_66 : decode cX4_add 66 = .ok (.getfield 13, 3) := by decide +kernel
theorem dX4_add_69 : decode cX4_add 69 = .ok (.iconst 3, 1) := by decide +kernel
theorem dX4_add_70 : decode cX4_add 70 = .ok (.aload_n 0, 1) := by decide +kernel
theorem dX4_add_71 : decode cX4_add 71 = .ok (.getfield 35, 3) := by decide +kernel
theorem dX4_add_74 : decode cX4_add 74 = .ok (.imul, 1) := by decide +kernel
theorem dX4_add_75 : decode cX4_add 75 = .ok (.iload_n 3, 1) := by decide +kernel
theorem dX4_add_76 : decode cX4_add 76 = .ok (.iadd, 1) := by decide +kernel
theorem dX4_add_77 : decode cX4_add 77 = .ok (.iload_n 2, 1) := by decide +kernel
theorem dX4_add_78 : decode cX4_add 78 = .ok (.iastore, 1) := by decide +kernel
theorem dX4_add_79 : decode cX4_add 79 = .ok (.iinc 3 1, 3) := by decide +kernel
theorem dX4_add_82 : decode cX4_add 82 = .ok (.goto (-22), 3) := by decide +kernel
theorem dX4_add_85 : decode cX4_add 85 = .ok (.aload_n 0, 1) := by decide +kernel
theorem dX4_add_86 : decode cX4_add 86 = .ok (.dup, 1) := by decide +kernel
theorem dX4_add_87 : decode cX4_add 87 = .ok (.getfield 35, 3) := by decide +kernel
theorem dX4_add_90 : decode cX4_add 90 = .ok (.iconst 1, 1) := by decide +kernel
theorem dX4_add_91 : decode cX4_add 91 = .ok (.iadd, 1) := by decide +kernel
theorem dX4_add_92 : decode cX4_add 92 = .ok (.putfield 35, 3) := by decide +kernel
theorem dX4_add_95 : decode cX4_add 95 = .ok (.aload_n 0, 1) := by decide +kernel
theorem dX4_add_96 : decode cX4_add 96 = .ok (.getfield 35, 3) := by decide +kernel
theorem dX4_add_99 : decode cX4_add 99 = .ok (.iconst 1, 1) := by decide +kernel
theorem dX4_add_100 : decode cX4_add 100 = .ok (.isub, 1) := by decide +kernel
theorem dX4_add_101 : decode cX4_add 101 = .ok (.ireturn, 1) := by decide +kernel
theorem dX4_changes_0 : decode cX4_changes 0 = .ok (.aload_n 0, 1) := by decide +kernel
theorem dX4_changes_1 : decode cX4_changes 1 = .ok (.getfield 25, 3) := by decide +kernel
theorem dX4_changes_4 : decode cX4_changes 4 = .ok (.iload_n 1, 1) := by decide +kernel
theorem dX4_changes_5 : decode cX4_changes 5 = .ok (.iconst 0, 1) := by decide +kernel
theorem dX4_changes_6 : decode cX4_changes 6 = .ok (.iastore, 1) := by decide +kernel
theorem dX4_changes_7 : decode cX4_changes 7 = .ok (.iconst 0, 1) := by decide +kernel
theorem dX4_changes_8 : decode cX4_changes 8 = .ok (.istore_n 2, 1) := by decide +kernel
theorem dX4_changes_9 : decode cX4_changes 9 = .ok (.iload_n 2, 1) := by decide +kernel
theorem dX4_changes_10 : decode cX4_changes 10 = .ok (.aload_n 0, 1) := by decide +kernel
theorem dX4_changes_11 : decode cX4_changes 11 = .ok (.getfield 35, 3) := by decide +kernel
theorem dX4_changes_14 : decode cX4_changes 14 = .ok (.if_icmp .ge 23, 3) := by decide +kernel
theorem dX4_changes_17 : decode cX4_changes 17 = .ok (.aload_n 0, 1) := by decide +kernel
theorem dX4_changes_18 : decode cX4_changes 18 = .ok (.getfield 25, 3) := by decide +kernel
theorem dX4_changes_21 : decode cX4_changes 21 = .ok (.iload_n 2, 1) := by decide +kernel
theorem dX4_changes_22 : decode cX4_changes 22 = .ok (.dup2, 1) := by decide +kernel
theorem dX4_changes_23 : decode cX4_changes 23 = .ok (.iaload, 1) := by decide +kernel
theorem dX4_changes_24 : decode cX4_changes 24 = .ok (.iconst 1, 1) := by decide +kernel
theorem dX4_changes_25 : decode cX4_changes 25 = .ok (.iload_n 1, 1) := by decide +kernel
theorem dX4_changes_26 : decode cX4_changes 26 = .ok (.ishl, 1) := by decide +kernel
theorem dX4_changes_27 : decode cX4_changes 27 = .ok (.iconst (-1), 1) := by decide +kernel
theorem dX4_changes_28 : decode cX4_changes 28 = .ok (.ixor, 1) := by decide +kernel
theorem dX4_changes_29 : decode cX4_changes 29 = .ok (.iand, 1) := by decide +kernel
theorem dX4_changes_30 : decode cX4_changes 30 = .ok (.iastore, 1) := by decide +kernel
theorem dX4_changes_31 : decode cX4_changes 31 = .ok (.iinc 2 1, 3) := by decide +kernel
theorem dX4_changes_34 : decode cX4_changes 34 = .ok (.goto (-25), 3) := by decide +kernel
theorem dX4_changes_37 : decode cX4_changes 37 = .ok (.return_, 1) := by decide +kernel
set_option maxRecDepth 20000 in
theorem ggX4_sets_X4_at : GoodIn wsX4_sets wsX4_at := goodIn_r _ [5] (by decide +kernel) (by decide +kernel)
set_option maxRecDepth 20000 in
theorem gX4_sets_X4_at : GoodIn wsX4_sets (va_wsS RX4 49 yX4_at wsX4_at) := goodIn_app (goodIn_of _ (by decide +kernel)) ggX4_sets_X4_at
set_option maxRecDepth 20000 in
theorem ggX4_sets_X4_changes : GoodIn wsX4_sets wsX4_changes := goodIn_r _ [9, 10, 11, 12, 13, 14, 15, 16, 17, 18, 19, 20] (by decide +kernel) (by decide +kernel)
set_option maxRecDepth 20000 in
theorem gX4_sets_X4_changes : GoodIn wsX4_sets (wsV RX4 53 RX4 yX4_changes wsX4_changes) := goodIn_app (goodIn_of _ (by decide +kernel)) ggX4_sets_X4_changes
theorem dX4_sets_0 : decode cX4_sets 0 = .ok (.iload_n 2, 1) := by decide +kernel
theorem dX4_sets_1 : decode cX4_sets 1 = .ok (.ifCond .ne 24, 3) := by decide +kernel
theorem dX4_sets_4 : decode cX4_sets 4 = .ok (.aload_n 0, 1) := by decide +kernel
theorem dX4_sets_5 : decode cX4_sets 5 = .ok (.getfield 16, 3) := by decide +kernel
theorem dX4_sets_8 : decode cX4_sets 8 = .ok (.iload_n 1, 1) := by decide +kernel
theorem dX4_sets_9 : decode cX4_sets 9 = .ok (.iload_n 2, 1) := by decide +kernel
theorem dX4_sets_10 : decode cX4_sets 10 = .ok (.iload_n 3, 1) := by decide +kernel
theorem dX4_sets_11 : decode cX4_sets 11 = .ok (.invokestatic 49, 3) := by decide +kernel
theorem dX4_sets_14 : decode cX4_sets 14 = .ok (.iaload, 1) := by decide +kernel
theorem dX4_sets_15 : decode cX4_sets 15 = .ok (.iload 4, 2) := by decide +kernel
theorem dX4_sets_17 : decode cX4_sets 17 = .ok (.if_icmp .eq 8, 3) := by decide +kernel
theorem dX4_sets_20 : decode cX4_sets 20 = .ok (.aload_n 0, 1) := by decide +kernel
theorem dX4_sets_21 : decode cX4_sets 21 = .ok (.iload_n 1, 1) := by decide +kernel
theorem dX4_sets_22 : decode cX4_sets 22 = .ok (.invokevirtual 53, 3) := by decide +kernel
theorem dX4_sets_25 : decode cX4_sets 25 = .ok (.aload_n 0, 1) := by decide +kernel
theorem dX4_sets_26 : decode cX4_sets 26 = .ok (.getfield 16, 3) := by decide +kernel
theorem dX4_sets_29 : decode cX4_sets 29 = .ok (.iload_n 1, 1) := by decide +kernel
theorem dX4_sets_30 : decode cX4_sets 30 = .ok (.iload_n 2, 1) := by decide +kernel
theorem dX4_sets_31 : decode cX4_sets 31 = .ok (.iload_n 3, 1) := by decide +kernel
theorem dX4_sets_32 : decode cX4_sets 32 = .ok (.invokestatic 49, 3) := by decide +kernel
theorem dX4_sets_35 : decode cX4_sets 35 = .ok (.iload 4, 2) := by decide +kernel
theorem dX4_sets_37 : decode cX4_sets 37 = .ok (.iastore, 1) := by decide +kernel
theorem dX4_sets_38 : decode cX4_sets 38 = .ok (.return_, 1) := by decide +kernel
set_option maxRecDepth 20000 in
theorem ggX4_names_X4_changes : GoodIn wsX4_names wsX4_changes := goodIn_r _ [6, 7, 8, 9, 10, 11, 12, 13, 14, 15, 16, 17] (by decide +kernel) (by decide +kernel)
set_option maxRecDepth 20000 in
theorem gX4_names_X4_changes : GoodIn wsX4_names (wsV RX4 53 RX4 yX4_changes wsX4_changes) := goodIn_app (goodIn_of _ (by decide +kernel)) ggX4_names_X4_changes
theorem dX4_names_0 : decode cX4_names 0 = .ok (.iload_n 2, 1) := by decide +kernel
theorem dX4_names_1 : decode cX4_names 1 = .ok (.ifCond .ne 22, 3) := by decide +kernel
theorem dX4_names_4 : decode cX4_names 4 = .ok (.aload_n 0, 1) := by decide +kernel
theorem dX4_names_5 : decode cX4_names 5 = .ok (.getfield 13, 3) := by decide +kernel
theorem dX4_names_8 : decode cX4_names 8 = .ok (.iconst 3, 1) := by decide +kernel
theorem dX4_names_9 : decode cX4_names 9 = .ok (.iload_n 1, 1) := by decide +kernel
theorem dX4_names_10 : decode cX4_names 10 = .ok (.imul, 1) := by decide +kernel
theorem dX4_names_11 : decode cX4_names 11 = .ok (.iload_n 2, 1) := by decide +kernel
theorem dX4_names_12 : decode cX4_names 12 = .ok (.iadd, 1) := by decide +kernel
theorem dX4_names_13 : decode cX4_names 13 = .ok (.iaload, 1) := by decide +kernel
theorem dX4_names_14 : decode cX4_names 14 = .ok (.iload_n 3, 1) := by decide +kernel
theorem dX4_names_15 : decode cX4_names 15 = .ok (.if_icmp .eq 8, 3) := by decide +kernel
theorem dX4_names_18 : decode cX4_names 18 = .ok (.aload_n 0, 1) := by decide +kernel
theorem dX4_names_19 : decode cX4_names 19 = .ok (.iload_n 1, 1) := by decide +kernel
theorem dX4_names_20 : decode cX4_names 20 = .ok (.invokevirtual 53, 3) := by decide +kernel
theorem dX4_names_23 : decode cX4_names 23 = .ok (.aload_n 0, 1) := by decide +kernel
theorem dX4_names_24 : decode cX4_names 24 = .ok (.getfield 13, 3) := by decide +kernel
theorem dX4_names_27 : decode cX4_names 27 = .ok (.iconst 3, 1) := by decide +kernel
theorem dX4_names_28 : decode cX4_names 28 = .ok (.iload_n 1, 1) := by decide +kernel
theorem dX4_names_29 : decode cX4_names 29 = .ok (.imul, 1) := by decide +kernel
theorem dX4_names_30 : decode cX4_names 30 = .ok (.iload_n 2, 1) := by decide +kernel
theorem dX4_names_31 : decode cX4_names 31 = .ok (.iadd, 1) := by decide +kernel
theorem dX4_names_32 : decode cX4_names 32 = .ok (.iload_n 3, 1) := by decide +kernel
theorem dX4_names_33 : decode cX4_names 33 = .ok (.iastore, 1) := by decide +kernel
theorem dX4_names_34 : decode cX4_names 34 = .ok (.return_, 1) := by decide +kernel
set_option maxRecDepth 20000 in
theorem ggX4_turn_X4_isIn : GoodIn wsX4_turn wsX4_isIn := goodIn_r _ [5] (by decide +kernel) (by decide +kernel)
set_option maxRecDepth 20000 in
theorem gX4_turn_X4_isIn : GoodIn wsX4_turn (va_wsS RX4 38 yX4_isIn wsX4_isIn) := goodIn_app (goodIn_of _ (by decide +kernel)) ggX4_turn_X4_isIn
set_option maxRecDepth 20000 in
theorem ggX4_turn_X4_isKind : GoodIn wsX4_turn wsX4_isKind := goodIn_r _ [8, 2, 3, 4, 5] (by decide +kernel) (by decide +kernel)
set_option maxRecDepth 20000 in
theorem gX4_turn_X4_isKind : GoodIn wsX4_turn (va_wsS RX4 57 yX4_isKind wsX4_isKind) := goodIn_app (goodIn_of _ (by decide +kernel)) ggX4_turn_X4_isKind
set_option maxRecDepth 20000 in
theorem ggX4_turn_X4_isCard : GoodIn wsX4_turn wsX4_isCard := goodIn_r _ [12, 13, 2, 3, 4, 5, 34, 35, 36, 37, 38, 39, 40, 41, 42] (by decide +kernel) (by decide +kernel)
set_option maxRecDepth 20000 in
theorem gX4_turn_X4_isCard : GoodIn wsX4_turn (wsV RX4 60 RX4 yX4_isCard wsX4_isCard) := goodIn_app (goodIn_of _ (by decide +kernel)) ggX4_turn_X4_isCard
set_option maxRecDepth 20000 in
theorem ggX4_turn_X4_isFine : GoodIn wsX4_turn wsX4_isFine := goodIn_r _ [17, 18, 34, 35, 36, 37, 38, 39, 40, 41, 42] (by decide +kernel) (by decide +kernel)
set_option maxRecDepth 20000 in
theorem gX4_turn_X4_isFine : GoodIn wsX4_turn (wsV RX4 46 RX4 yX4_isFine wsX4_isFine) := goodIn_app (goodIn_of _ (by decide +kernel)) ggX4_turn_X4_isFine
set_option maxRecDepth 20000 in
theorem ggX4_turn_X4_at : GoodIn wsX4_turn wsX4_at := goodIn_r _ [21] (by decide +kernel) (by decide +kernel)
set_option maxRecDepth 20000 in
theorem gX4_turn_X4_at : GoodIn wsX4_turn (va_wsS RX4 49 yX4_at wsX4_at) := goodIn_app (goodIn_of _ (by decide +kernel)) ggX4_turn_X4_at
set_option maxRecDepth 20000 in
theorem ggX4_turn_X4_sets : GoodIn wsX4_turn wsX4_sets := goodIn_r _ [25, 1, 19, 20, 4, 21, 26, 27, 28, 29, 30, 13, 34, 35, 36, 37, 38, 39, 40, 41, 42] (by decide +kernel) (by decide +kernel)
set_option maxRecDepth 20000 in
theorem gX4_turn_X4_sets : GoodIn wsX4_turn (wsV RX4 63 RX4 yX4_sets wsX4_sets) := goodIn_app (goodIn_of _ (by decide +kernel)) ggX4_turn_X4_sets
set_option maxRecDepth 20000 in
theorem ggX4_turn_X4_has : GoodIn wsX4_turn wsX4_has := goodIn_r _ [33] (by decide +kernel) (by decide +kernel)
set_option maxRecDepth 20000 in
theorem gX4_turn_X4_has : GoodIn wsX4_turn (va_wsS RX4 67 yX4_has wsX4_has) := goodIn_app (goodIn_of _ (by decide +kernel)) ggX4_turn_X4_has
theorem dX4_turn_0 : decode cX4_turn 0 = .ok (.iload_n 2, 1) := by decide +kernel
theorem dX4_turn_1 : decode cX4_turn 1 = .ok (.iconst 0, 1) := by decide +kernel
theorem dX4_turn_2 : decode cX4_turn 2 = .ok (.iconst 1, 1) := by decide +kernel
theorem dX4_turn_3 : decode cX4_turn 3 = .ok (.invokestatic 38, 3) := by decide +kernel
theorem dX4_turn_6 : decode cX4_turn 6 = .ok (.ifCond .eq 25, 3) := by decide +kernel
theorem dX4_turn_9 : decode cX4_turn 9 = .ok (.iload_n 3, 1) := by decide +kernel
theorem dX4_turn_10 : decode cX4_turn 10 = .ok (.invokestatic 57, 3) := by decide +kernel
theorem dX4_turn_13 : decode cX4_turn 13 = .ok (.ifCond .eq 18, 3) := by decide +kernel
theorem dX4_turn_16 : decode cX4_turn 16 = .ok (.iload 4, 2) := by decide +kernel
theorem dX4_turn_18 : decode cX4_turn 18 = .ok (.iconst 0, 1) := by decide +kernel
theorem dX4_turn_19 : decode cX4_turn 19 = .ok (.bipush 29, 2) := by decide +kernel
theorem dX4_turn_21 : decode cX4_turn 21 = .ok (.invokestatic 38, 3) := by decide +kernel
theorem dX4_turn_24 : decode cX4_turn 24 = .ok (.ifCond .eq 7, 3) := by decide +kernel
theorem dX4_turn_27 : decode cX4_turn 27 = .ok (.iconst 1, 1) := by decide +kernel
theorem dX4_turn_28 : decode cX4_turn 28 = .ok (.goto 4, 3) := by decide +kernel
theorem dX4_turn_31 : decode cX4_turn 31 = .ok (.iconst 0, 1) := by decide +kernel
theorem dX4_turn_32 : decode cX4_turn 32 = .ok (.istore 5, 2) := by decide +kernel
theorem dX4_turn_34 : decode cX4_turn 34 = .ok (.aload_n 0, 1) := by decide +kernel
theorem dX4_turn_35 : decode cX4_turn 35 = .ok (.aload_n 0, 1) := by decide +kernel
theorem dX4_turn_36 : decode cX4_turn 36 = .ok (.iload_n 1, 1) := by decide +kernel
theorem dX4_turn_37 : decode cX4_turn 37 = .ok (.invokevirtual 60, 3) := by decide +kernel
theorem dX4_turn_40 : decode cX4_turn 40 = .ok (.ifCond .ne 7, 3) := by decide +kernel
theorem dX4_turn_43 : decode cX4_turn 43 = .ok (.iconst 1, 1) := by decide +kernel
theorem dX4_turn_44 : decode cX4_turn 44 = .ok (.goto 13, 3) := by decide +kernel
theorem dX4_turn_47 : decode cX4_turn 47 = .ok (.iload 5, 2) := by decide +kernel
theorem dX4_turn_49 : decode cX4_turn 49 = .ok (.ifCond .ne 7, 3) := by decide +kernel
theorem dX4_turn_52 : decode cX4_turn 52 = .ok (.iconst 2, 1) := by decide +kernel
theorem dX4_turn_53 : decode cX4_turn 53 = .ok (.goto 4, 3) := by decide +kernel
theorem dX4_turn_56 : decode cX4_turn 56 = .ok (.iconst 0, 1) := by decide +kernel
theorem dX4_turn_57 : decode cX4_turn 57 = .ok (.invokevirtual 46, 3) := by decide +kernel
theorem dX4_turn_60 : decode cX4_turn 60 = .ok (.ifCond .ne 5, 3) := by decide +kernel
theorem dX4_turn_63 : decode cX4_turn 63 = .ok (.iconst 0, 1) := by decide +kernel
theorem dX4_turn_64 : decode cX4_turn 64 = .ok (.ireturn, 1) := by decide +kernel
theorem dX4_turn_65 : decode cX4_turn 65 = .ok (.aload_n 0, 1) := by decide +kernel
theorem dX4_turn_66 : decode cX4_turn 66 = .ok (.iload_n 1, 1) := by decide +kernel
theorem dX4_turn_67 : decode cX4_turn 67 = .ok (.iload_n 2, 1) := by decide +kernel
theorem dX4_turn_68 : decode cX4_turn 68 = .ok (.iload_n 3, 1) := by decide +kernel
theorem dX4_turn_69 : decode cX4_turn 69 = .ok (.aload_n 0, 1) := by decide +kernel
theorem dX4_turn_70 : decode cX4_turn 70 = .ok (.getfield 16, 3) := by decide +kernel
theorem dX4_turn_73 : decode cX4_turn 73 = .ok (.iload_n 1, 1) := by decide +kernel
theorem dX4_turn_74 : decode cX4_turn 74 = .ok (.iload_n 2, 1) := by decide +kernel
theorem dX4_turn_75 : decode cX4_turn 75 = .ok (.iload_n 3, 1) := by decide +kernel
theorem dX4_turn_76 : decode cX4_turn 76 = .ok (.invokestatic 49, 3) := by decide +kernel
theorem dX4_turn_79 : decode cX4_turn 79 = .ok (.iaload, 1) := by decide +kernel
theorem dX4_turn_80 : decode cX4_turn 80 = .ok (.iconst 1, 1) := by decide +kernel
theorem dX4_turn_81 : decode cX4_turn 81 = .ok (.iload 4, 2) := by decide +kernel
theorem dX4_turn_83 : decode cX4_turn 83 = .ok (.ishl, 1) := by decide +kernel
theorem dX4_turn_84 : decode cX4_turn 84 = .ok (.ixor, 1) := by decide +kernel
theorem dX4_turn_85 : decode cX4_turn 85 = .ok (.invokevirtual 63, 3) := by decide +kernel
theorem dX4_turn_88 : decode cX4_turn 88 = .ok (.aload_n 0, 1) := by decide +kernel
theorem dX4_turn_89 : decode cX4_turn 89 = .ok (.getfield 16, 3) := by decide +kernel
theorem dX4_turn_92 : decode cX4_turn 92 = .ok (.iload_n 1, 1) := by decide +kernel
theorem dX4_turn_93 : decode cX4_turn 93 = .ok (.iload_n 2, 1) := by decide +kernel
theorem dX4_turn_94 : decode cX4_turn 94 = .ok (.iload_n 3, 1) := by decide +kernel
theorem dX4_turn_95 : decode cX4_turn 95 = .ok (.invokestatic 49, 3) := by decide +kernel
theorem dX4_turn_98 : decode cX4_turn 98 = .ok (.iaload, 1) := by decide +kernel
theorem dX4_turn_99 : decode cX4_turn 99 = .ok (.iload 4, 2) := by decide +kernel
theorem dX4_turn_101 : decode cX4_turn 101 = .ok (.invokestatic 67, 3) := by decide +kernel
theorem dX4_turn_104 : decode cX4_turn 104 = .ok (.ireturn, 1) := by decide +kernel
set_option maxRecDepth 20000 in
theorem ggX4_rename_X4_isIn : GoodIn wsX4_rename wsX4_isIn := goodIn_r _ [5] (by decide +kernel) (by decide +kernel)
set_option maxRecDepth 20000 in
theorem gX4_rename_X4_isIn : GoodIn wsX4_rename (va_wsS RX4 38 yX4_isIn wsX4_isIn) := goodIn_app (goodIn_of _ (by decide +kernel)) ggX4_rename_X4_isIn
set_option maxRecDepth 20000 in
theorem ggX4_rename_X4_isCard : GoodIn wsX4_rename wsX4_isCard := goodIn_r _ [9, 10, 2, 3, 4, 5, 25, 26, 27, 28, 29, 30, 31, 32, 33] (by decide +kernel) (by decide +kernel)
set_option maxRecDepth 20000 in
theorem gX4_rename_X4_isCard : GoodIn wsX4_rename (wsV RX4 60 RX4 yX4_isCard wsX4_isCard) := goodIn_app (goodIn_of _ (by decide +kernel)) ggX4_rename_X4_isCard
set_option maxRecDepth 20000 in
theorem ggX4_rename_X4_isFine : GoodIn wsX4_rename wsX4_isFine := goodIn_r _ [14, 15, 25, 26, 27, 28, 29, 30, 31, 32, 33] (by decide +kernel) (by decide +kernel)
set_option maxRecDepth 20000 in
theorem gX4_rename_X4_isFine : GoodIn wsX4_rename (wsV RX4 46 RX4 yX4_isFine wsX4_isFine) := goodIn_app (goodIn_of _ (by decide +kernel)) ggX4_rename_X4_isFine
set_option maxRecDepth 20000 in
theorem ggX4_rename_X4_names : GoodIn wsX4_rename wsX4_names := goodIn_r _ [19, 1, 20, 21, 22, 4, 23, 24, 10, 25, 26, 27, 28, 29, 30, 31, 32, 33] (by decide +kernel) (by decide +kernel)
set_option maxRecDepth 20000 in
theorem gX4_rename_X4_names : GoodIn wsX4_rename (wsV RX4 71 RX4 yX4_names wsX4_names) := goodIn_app (goodIn_of _ (by decide +kernel)) ggX4_rename_X4_names
theorem dX4_rename_0 : decode cX4_rename 0 = .ok (.iload_n 2, 1) := by decide +kernel
theorem dX4_rename_1 : decode cX4_rename 1 = .ok (.iconst 0, 1) := by decide +kernel
theorem dX4_rename_2 : decode cX4_rename 2 = .ok (.iconst 1, 1) := by decide +kernel
theorem dX4_rename_3 : decode cX4_rename 3 = .ok (.invokestatic 38, 3) := by decide +kernel
theorem dX4_rename_6 : decode cX4_rename 6 = .ok (.ifCond .eq 17, 3) := by decide +kernel
theorem dX4_rename_9 : decode cX4_rename 9 = .ok (.iload_n 3, 1) := by decide +kernel
theorem dX4_rename_10 : decode cX4_rename 10 = .ok (.iconst 0, 1) := by decide +kernel
theorem dX4_rename_11 : decode cX4_rename 11 = .ok (.bipush 31, 2) := by decide +kernel
theorem dX4_rename_13 : decode cX4_rename 13 = .ok (.invokestatic 38, 3) := by decide +kernel
theorem dX4_rename_16 : decode cX4_rename 16 = .ok (.ifCond .eq 7, 3) := by decide +kernel
theorem dX4_rename_19 : decode cX4_rename 19 = .ok (.iconst 1, 1) := by decide +kernel
theorem dX4_rename_20 : decode cX4_rename 20 = .ok (.goto 4, 3) := by decide +kernel
theorem dX4_rename_23 : decode cX4_rename 23 = .ok (.iconst 0, 1) := by decide +kernel
theorem dX4_rename_24 : decode cX4_rename 24 = .ok (.istore 4, 2) := by decide +kernel
theorem dX4_rename_26 : decode cX4_rename 26 = .ok (.aload_n 0, 1) := by decide +kernel
theorem dX4_rename_27 : decode cX4_rename 27 = .ok (.aload_n 0, 1) := by decide +kernel
theorem dX4_rename_28 : decode cX4_rename 28 = .ok (.iload_n 1, 1) := by decide +kernel
theorem dX4_rename_29 : decode cX4_rename 29 = .ok (.invokevirtual 60, 3) := by decide +kernel
theorem dX4_rename_32 : decode cX4_rename 32 = .ok (.ifCond .ne 7, 3) := by decide +kernel
theorem dX4_rename_35 : decode cX4_rename 35 = .ok (.iconst 1, 1) := by decide +kernel
theorem dX4_rename_36 : decode cX4_rename 36 = .ok (.goto 13, 3) := by decide +kernel
theorem dX4_rename_39 : decode cX4_rename 39 = .ok (.iload 4, 2) := by decide +kernel
theorem dX4_rename_41 : decode cX4_rename 41 = .ok (.ifCond .ne 7, 3) := by decide +kernel
theorem dX4_rename_44 : decode cX4_rename 44 = .ok (.iconst 2, 1) := by decide +kernel
theorem dX4_rename_45 : decode cX4_rename 45 = .ok (.goto 4, 3) := by decide +kernel
theorem dX4_rename_48 : decode cX4_rename 48 = .ok (.iconst 0, 1) := by decide +kernel
theorem dX4_rename_49 : decode cX4_rename 49 = .ok (.invokevirtual 46, 3) := by decide +kernel
theorem dX4_rename_52 : decode cX4_rename 52 = .ok (.ifCond .ne 5, 3) := by decide +kernel
theorem dX4_rename_55 : decode cX4_rename 55 = .ok (.iconst 0, 1) := by decide +kernel
theorem dX4_rename_56 : decode cX4_rename 56 = .ok (.ireturn, 1) := by decide +kernel
theorem dX4_rename_57 : decode cX4_rename 57 = .ok (.aload_n 0, 1) := by decide +kernel
theorem dX4_rename_58 : decode cX4_rename 58 = .ok (.getfield 13, 3) := by decide +kernel
theorem dX4_rename_61 : decode cX4_rename 61 = .ok (.iconst 3, 1) := by decide +kernel
theorem dX4_rename_62 : decode cX4_rename 62 = .ok (.iload_n 1, 1) := by decide +kernel
theorem dX4_rename_63 : decode cX4_rename 63 = .ok (.imul, 1) := by decide +kernel
theorem dX4_rename_64 : decode cX4_rename 64 = .ok (.iload_n 2, 1) := by decide +kernel
theorem dX4_rename_65 : decode cX4_rename 65 = .ok (.iadd, 1) := by decide +kernel
theorem dX4_rename_66 : decode cX4_rename 66 = .ok (.iaload, 1) := by decide +kernel
theorem dX4_rename_67 : decode cX4_rename 67 = .ok (.istore 5, 2) := by decide +kernel
theorem dX4_rename_69 : decode cX4_rename 69 = .ok (.aload_n 0, 1) := by decide +kernel
theorem dX4_rename_70 : decode cX4_rename 70 = .ok (.iload_n 1, 1) := by decide +kernel
theorem dX4_rename_71 : decode cX4_rename 71 = .ok (.iload_n 2, 1) := by decide +kernel
theorem dX4_rename_72 : decode cX4_rename 72 = .ok (.iload_n 3, 1) := by decide +kernel
theorem dX4_rename_73 : decode cX4_rename 73 = .ok (.invokevirtual 71, 3) := by decide +kernel
theorem dX4_rename_76 : decode cX4_rename 76 = .ok (.iload 5, 2) := by decide +kernel
theorem dX4_rename_78 : decode cX4_rename 78 = .ok (.ireturn, 1) := by decide +kernel
set_option maxRecDepth 20000 in
theorem ggX4_mergedOf_X4_at : GoodIn wsX4_mergedOf wsX4_at := goodIn_r _ [5] (by decide +kernel) (by decide +kernel)
set_option maxRecDepth 20000 in
theorem gX4_mergedOf_X4_at : GoodIn wsX4_mergedOf (va_wsS RX4 49 yX4_at wsX4_at) := goodIn_app (goodIn_of _ (by decide +kernel)) ggX4_mergedOf_X4_at
theorem dX4_mergedOf_0 : decode cX4_mergedOf 0 = .ok (.aload_n 0, 1) := by decide +kernel
theorem dX4_mergedOf_1 : decode cX4_mergedOf 1 = .ok (.getfield 16, 3) := by decide +kernel
theorem dX4_mergedOf_4 : decode cX4_mergedOf 4 = .ok (.iload_n 1, 1) := by decide +kernel
theorem dX4_mergedOf_5 : decode cX4_mergedOf 5 = .ok (.iconst 0, 1) := by decide +kernel
theorem dX4_mergedOf_6 : decode cX4_mergedOf 6 = .ok (.iload_n 2, 1) := by decide +kernel
theorem dX4_mergedOf_7 : decode cX4_mergedOf 7 = .ok (.invokestatic 49, 3) := by decide +kernel
theorem dX4_mergedOf_10 : decode cX4_mergedOf 10 = .ok (.iaload, 1) := by decide +kernel
theorem dX4_mergedOf_11 : decode cX4_mergedOf 11 = .ok (.istore_n 3, 1) := by decide +kernel
theorem dX4_mergedOf_12 : decode cX4_mergedOf 12 = .ok (.aload_n 0, 1) := by decide +kernel
theorem dX4_mergedOf_13 : decode cX4_mergedOf 13 = .ok (.getfield 16, 3) := by decide +kernel
theorem dX4_mergedOf_16 : decode cX4_mergedOf 16 = .ok (.iload_n 1, 1) := by decide +kernel
theorem dX4_mergedOf_17 : decode cX4_mergedOf 17 = .ok (.iconst 1, 1) := by decide +kernel
theorem dX4_mergedOf_18 : decode cX4_mergedOf 18 = .ok (.iload_n 2, 1) := by decide +kernel
theorem dX4_mergedOf_19 : decode cX4_mergedOf 19 = .ok (.invokestatic 49, 3) := by decide +kernel
theorem dX4_mergedOf_22 : decode cX4_mergedOf 22 = .ok (.iaload, 1) := by decide +kernel
theorem dX4_mergedOf_23 : decode cX4_mergedOf 23 = .ok (.istore 4, 2) := by decide +kernel
theorem dX4_mergedOf_25 : decode cX4_mergedOf 25 = .ok (.iload_n 3, 1) := by decide +kernel
theorem dX4_mergedOf_26 : decode cX4_mergedOf 26 = .ok (.iload 4, 2) := by decide +kernel
theorem dX4_mergedOf_28 : decode cX4_mergedOf 28 = .ok (.iand, 1) := by decide +kernel
theorem dX4_mergedOf_29 : decode cX4_mergedOf 29 = .ok (.iload_n 3, 1) := by decide +kernel
theorem dX4_mergedOf_30 : decode cX4_mergedOf 30 = .ok (.iload 4, 2) := by decide +kernel
theorem dX4_mergedOf_32 : decode cX4_mergedOf 32 = .ok (.ixor, 1) := by decide +kernel
theorem dX4_mergedOf_33 : decode cX4_mergedOf 33 = .ok (.aload_n 0, 1) := by decide +kernel
theorem dX4_mergedOf_34 : decode cX4_mergedOf 34 = .ok (.getfield 16, 3) := by decide +kernel
theorem dX4_mergedOf_37 : decode cX4_mergedOf 37 = .ok (.iload_n 1, 1) := by decide +kernel
theorem dX4_mergedOf_38 : decode cX4_mergedOf 38 = .ok (.iconst 2, 1) := by decide +kernel
theorem dX4_mergedOf_39 : decode cX4_mergedOf 39 = .ok (.iload_n 2, 1) := by decide +kernel
theorem dX4_mergedOf_40 : decode cX4_mergedOf 40 = .ok (.invokestatic 49, 3) := by decide +kernel
theorem dX4_mergedOf_43 : decode cX4_mergedOf 43 = .ok (.iaload, 1) := by decide +kernel
theorem dX4_mergedOf_44 : decode cX4_mergedOf 44 = .ok (.iconst (-1), 1) := by decide +kernel
theorem dX4_mergedOf_45 : decode cX4_mergedOf 45 = .ok (.ixor, 1) := by decide +kernel
theorem dX4_mergedOf_46 : decode cX4_mergedOf 46 = .ok (.iand, 1) := by decide +kernel
theorem dX4_mergedOf_47 : decode cX4_mergedOf 47 = .ok (.ior, 1) := by decide +kernel
theorem dX4_mergedOf_48 : decode cX4_mergedOf 48 = .ok (.ireturn, 1) := by decide +kernel
theorem dX4_mergedName_0 : decode cX4_mergedName 0 = .ok (.aload_n 0, 1) := by decide +kernel
theorem dX4_mergedName_1 : decode cX4_mergedName 1 = .ok (.getfield 13, 3) := by decide +kernel
theorem dX4_mergedName_4 : decode cX4_mergedName 4 = .ok (.iconst 3, 1) := by decide +kernel
theorem dX4_mergedName_5 : decode cX4_mergedName 5 = .ok (.iload_n 1, 1) := by decide +kernel
theorem dX4_mergedName_6 : decode cX4_mergedName 6 = .ok (.imul, 1) := by decide +kernel
theorem dX4_mergedName_7 : decode cX4_mergedName 7 = .ok (.iconst 0, 1) := by decide +kernel
theorem dX4_mergedName_8 : decode cX4_mergedName 8 = .ok (.iadd, 1) := by decide +kernel
theorem dX4_mergedName_9 : decode cX4_mergedName 9 = .ok (.iaload, 1) := by decide +kernel
theorem dX4_mergedName_10 : decode cX4_mergedName 10 = .ok (.istore_n 2, 1) := by decide +kernel
theorem dX4_mergedName_11 : decode cX4_mergedName 11 = .ok (.iload_n 2, 1) := by decide +kernel
theorem dX4_mergedName_12 : decode cX4_mergedName 12 = .ok (.aload_n 0, 1) := by decide +kernel
theorem dX4_mergedName_13 : decode cX4_mergedName 13 = .ok (.getfield 13, 3) := by decide +kernel
theorem dX4_mergedName_16 : decode cX4_mergedName 16 = .ok (.iconst 3, 1) := by decide +kernel
theorem dX4_mergedName_17 : decode cX4_mergedName 17 = .ok (.iload_n 1, 1) := by decide +kernel
theorem dX4_mergedName_18 : decode cX4_mergedName 18 = .ok (.imul, 1) := by decide +kernel
theorem dX4_mergedName_19 : decode cX4_mergedName 19 = .ok (.iconst 2, 1) := by decide +kernel
theorem dX4_mergedName_20 : decode cX4_mergedName 20 = .ok (.iadd, 1) := by decide +kernel
theorem dX4_mergedName_21 : decode cX4_mergedName 21 = .ok (.iaload, 1) := by decide +kernel
theorem dX4_mergedName_22 : decode cX4_mergedName 22 = .ok (.if_icmp .ne 16, 3) := by decide +kernel
theorem dX4_mergedName_25 : decode cX4_mergedName 25 = .ok (.aload_n 0, 1) := by decide +kernel
theorem dX4_mergedName_26 : decode cX4_mergedName 26 = .ok (.getfield 13, 3) := by decide +kernel
theorem dX4_mergedName_29 : decode cX4_mergedName 29 = .ok (.iconst 3, 1) := by decide +kernel
theorem dX4_mergedName_30 : decode cX4_mergedName 30 = .ok (.iload_n 1, 1) := by decide +kernel
theorem dX4_mergedName_31 : decode cX4_mergedName 31 = .ok (.imul, 1) := by decide +kernel
theorem dX4_mergedName_32 : decode cX4_mergedName 32 = .ok (.iconst 1, 1) := by decide +kernel
theorem dX4_mergedName_33 : decode cX4_mergedName 33 = .ok (.iadd, 1) := by decide +kernel
theorem dX4_mergedName_34 : decode cX4_mergedName 34 = .ok (.iaload, 1) := by decide +kernel
theorem dX4_mergedName_35 : decode cX4_mergedName 35 = .ok (.goto 4, 3) := by decide +kernel
theorem dX4_mergedName_38 : decode cX4_mergedName 38 = .ok (.iload_n 2, 1) := by decide +kernel
theorem dX4_mergedName_39 : decode cX4_mergedName 39 = .ok (.ireturn, 1) := by decide +kernel
theorem dX4_clashes_0 : decode cX4_clashes 0 = .ok (.aload_n 0, 1) := by decide +kernel
theorem dX4_clashes_1 : decode cX4_clashes 1 = .ok (.getfield 13, 3) := by decide +kernel
theorem dX4_clashes_4 : decode cX4_clashes 4 = .ok (.iconst 3, 1) := by decide +kernel
theorem dX4_clashes_5 : decode cX4_clashes 5 = .ok (.iload_n 1, 1) := by decide +kernel
theorem dX4_clashes_6 : decode cX4_clashes 6 = .ok (.imul, 1) := by decide +kernel
theorem dX4_clashes_7 : decode cX4_clashes 7 = .ok (.iconst 0, 1) := by decide +kernel
theorem dX4_clashes_8 : decode cX4_clashes 8 = .ok (.iadd, 1) := by decide +kernel
theorem dX4_clashes_9 : decode cX4_clashes 9 = .ok (.iaload, 1) := by decide +kernel
theorem dX4_clashes_10 : decode cX4_clashes 10 = .ok (.istore_n 2, 1) := by decide +kernel
theorem dX4_clashes_11 : decode cX4_clashes 11 = .ok (.aload_n 0, 1) := by decide +kernel
theorem dX4_clashes_12 : decode cX4_clashes 12 = .ok (.getfield 13, 3) := by decide +kernel
theorem dX4_clashes_15 : decode cX4_clashes 15 = .ok (.iconst 3, 1) := by decide +kernel
theorem dX4_clashes_16 : decode cX4_clashes 16 = .ok (.iload_n 1, 1) := by decide +kernel
theorem dX4_clashes_17 : decode cX4_clashes 17 = .ok (.imul, 1) := by decide +kernel
theorem dX4_clashes_18 : decode cX4_clashes 18 = .ok (.iconst 1, 1) := by decide +kernel
theorem dX4_clashes_19 : decode cX4_clashes 19 = .ok (.iadd, 1) := by decide +kernel
theorem dX4_clashes_20 : decode cX4_clashes 20 = .ok (.iaload, 1) := by decide +kernel
theorem dX4_clashes_21 : decode cX4_clashes 21 = .ok (.istore_n 3, 1) := by decide +kernel
theorem dX4_clashes_22 : decode cX4_clashes 22 = .ok (.aload_n 0, 1) := by decide +kernel
theorem dX4_clashes_23 : decode cX4_clashes 23 = .ok (.getfield 13, 3) := by decide +kernel
theorem dX4_clashes_26 : decode cX4_clashes 26 = .ok (.iconst 3, 1) := by decide +kernel
theorem dX4_clashes_27 : decode cX4_clashes 27 = .ok (.iload_n 1, 1) := by decide +kernel
theorem dX4_clashes_28 : decode cX4_clashes 28 = .ok (.imul, 1) := by decide +kernel
theorem dX4_clashes_29 : decode cX4_clashes 29 = .ok (.iconst 2, 1) := by decide +kernel
theorem dX4_clashes_30 : decode cX4_clashes 30 = .ok (.iadd, 1) := by decide +kernel
theorem dX4_clashes_31 : decode cX4_clashes 31 = .ok (.iaload, 1) := by decide +kernel
theorem dX4_clashes_32 : decode cX4_clashes 32 = .ok (.istore 4, 2) := by decide +kernel
theorem dX4_clashes_34 : decode cX4_clashes 34 = .ok (.iload_n 2, 1) := by decide +kernel
theorem dX4_clashes_35 : decode cX4_clashes 35 = .ok (.iload_n 3, 1) := by decide +kernel
theorem dX4_clashes_36 : decode cX4_clashes 36 = .ok (.if_icmp .eq 19, 3) := by decide +kernel
theorem dX4_clashes_39 : decode cX4_clashes 39 = .ok (.iload_n 2, 1) := by decide +kernel
theorem dX4_clashes_40 : decode cX4_clashes 40 = .ok (.iload 4, 2) := by decide +kernel
theorem dX4_clashes_42 : decode cX4_clashes 42 = .ok (.if_icmp .eq 13, 3) := by decide +kernel
theorem dX4_clashes_45 : decode cX4_clashes 45 = .ok (.iload_n 3, 1) := by decide +kernel
theorem dX4_clashes_46 : decode cX4_clashes 46 = .ok (.iload 4, 2) := by decide +kernel
theorem dX4_clashes_48 : decode cX4_clashes 48 = .ok (.if_icmp .eq 7, 3) := by decide +kernel
theorem dX4_clashes_51 : decode cX4_clashes 51 = .ok (.iconst 1, 1) := by decide +kernel
theorem dX4_clashes_52 : decode cX4_clashes 52 = .ok (.goto 4, 3) := by decide +kernel
theorem dX4_clashes_55 : decode cX4_clashes 55 = .ok (.iconst 0, 1) := by decide +kernel
theorem dX4_clashes_56 : decode cX4_clashes 56 = .ok (.ireturn, 1) := by decide +kernel
set_option maxRecDepth 20000 in
theorem ggX4_sync_X4_isBook : GoodIn wsX4_sync wsX4_isBook := goodIn_r _ [6, 7, 8, 5, 9] (by decide +kernel) (by decide +kernel)
set_option maxRecDepth 20000 in
theorem gX4_sync_X4_isBook : GoodIn wsX4_sync (va_wsS RX4 42 yX4_isBook wsX4_isBook) := goodIn_app (goodIn_of _ (by decide +kernel)) ggX4_sync_X4_isBook
set_option maxRecDepth 20000 in
theorem ggX4_sync_X4_isFine : GoodIn wsX4_sync wsX4_isFine := goodIn_r _ [13, 14, 45, 46, 47, 48, 49, 50, 51, 52, 53] (by decide +kernel) (by decide +kernel)
set_option maxRecDepth 20000 in
theorem gX4_sync_X4_isFine : GoodIn wsX4_sync (wsV RX4 46 RX4 yX4_isFine wsX4_isFine) := goodIn_app (goodIn_of _ (by decide +kernel)) ggX4_sync_X4_isFine
set_option maxRecDepth 20000 in
theorem ggX4_sync_X4_clashes : GoodIn wsX4_sync wsX4_clashes := goodIn_r _ [18, 19, 45, 46, 47, 48, 49, 50, 51, 52, 53] (by decide +kernel) (by decide +kernel)
set_option maxRecDepth 20000 in
theorem gX4_sync_X4_clashes : GoodIn wsX4_sync (wsV RX4 75 RX4 yX4_clashes wsX4_clashes) := goodIn_app (goodIn_of _ (by decide +kernel)) ggX4_sync_X4_clashes
set_option maxRecDepth 20000 in
theorem ggX4_sync_X4_mergedOf : GoodIn wsX4_sync wsX4_mergedOf := goodIn_r _ [23, 24, 25, 26, 5, 27, 45, 46, 47, 48, 49, 50, 51, 52, 53] (by decide +kernel) (by decide +kernel)
set_option maxRecDepth 20000 in
theorem gX4_sync_X4_mergedOf : GoodIn wsX4_sync (wsV RX4 78 RX4 yX4_mergedOf wsX4_mergedOf) := goodIn_app (goodIn_of _ (by decide +kernel)) ggX4_sync_X4_mergedOf
set_option maxRecDepth 20000 in
theorem ggX4_sync_X4_mergedName : GoodIn wsX4_sync wsX4_mergedName := goodIn_r _ [31, 19, 45, 46, 47, 48, 49, 50, 51, 52, 53] (by decide +kernel) (by decide +kernel)
set_option maxRecDepth 20000 in
theorem gX4_sync_X4_mergedName : GoodIn wsX4_sync (wsV RX4 82 RX4 yX4_mergedName wsX4_mergedName) := goodIn_app (goodIn_of _ (by decide +kernel)) ggX4_sync_X4_mergedName
set_option maxRecDepth 20000 in
theorem ggX4_sync_X4_sets : GoodIn wsX4_sync wsX4_sets := goodIn_r _ [35, 24, 25, 26, 5, 27, 36, 37, 38, 39, 40, 1, 45, 46, 47, 48, 49, 50, 51, 52, 53] (by decide +kernel) (by decide +kernel)
set_option maxRecDepth 20000 in
theorem gX4_sync_X4_sets : GoodIn wsX4_sync (wsV RX4 63 RX4 yX4_sets wsX4_sets) := goodIn_app (goodIn_of _ (by decide +kernel)) ggX4_sync_X4_sets
set_option maxRecDepth 20000 in
theorem ggX4_sync_X4_names : GoodIn wsX4_sync wsX4_names := goodIn_r _ [44, 19, 36, 37, 38, 5, 39, 40, 1, 45, 46, 47, 48, 49, 50, 51, 52, 53] (by decide +kernel) (by decide +kernel)
set_option maxRecDepth 20000 in
theorem gX4_sync_X4_names : GoodIn wsX4_sync (wsV RX4 71 RX4 yX4_names wsX4_names) := goodIn_app (goodIn_of _ (by decide +kernel)) ggX4_sync_X4_names
theorem dX4_sync_0 : decode cX4_sync 0 = .ok (.aload_n 0, 1) := by decide +kernel
theorem dX4_sync_1 : decode cX4_sync 1 = .ok (.iload_n 1, 1) := by decide +kernel
theorem dX4_sync_2 : decode cX4_sync 2 = .ok (.invokestatic 42, 3) := by decide +kernel
theorem dX4_sync_5 : decode cX4_sync 5 = .ok (.ifCond .eq 7, 3) := by decide +kernel
theorem dX4_sync_8 : decode cX4_sync 8 = .ok (.iconst 0, 1) := by decide +kernel
theorem dX4_sync_9 : decode cX4_sync 9 = .ok (.goto 4, 3) := by decide +kernel
theorem dX4_sync_12 : decode cX4_sync 12 = .ok (.iconst 1, 1) := by decide +kernel
theorem dX4_sync_13 : decode cX4_sync 13 = .ok (.invokevirtual 46, 3) := by decide +kernel
theorem dX4_sync_16 : decode cX4_sync 16 = .ok (.ifCond .ne 5, 3) := by decide +kernel
theorem dX4_sync_19 : decode cX4_sync 19 = .ok (.iconst 0, 1) := by decide +kernel
theorem dX4_sync_20 : decode cX4_sync 20 = .ok (.ireturn, 1) := by decide +kernel
theorem dX4_sync_21 : decode cX4_sync 21 = .ok (.iconst 0, 1) := by decide +kernel
theorem dX4_sync_22 : decode cX4_sync 22 = .ok (.istore_n 2, 1) := by decide +kernel
theorem dX4_sync_23 : decode cX4_sync 23 = .ok (.iconst 0, 1) := by decide +kernel
theorem dX4_sync_24 : decode cX4_sync 24 = .ok (.istore_n 3, 1) := by decide +kernel
theorem dX4_sync_25 : decode cX4_sync 25 = .ok (.iload_n 3, 1) := by decide +kernel
theorem dX4_sync_26 : decode cX4_sync 26 = .ok (.aload_n 0, 1) := by decide +kernel
theorem dX4_sync_27 : decode cX4_sync 27 = .ok (.getfield 35, 3) := by decide +kernel
theorem dX4_sync_30 : decode cX4_sync 30 = .ok (.if_icmp .ge 102, 3) := by decide +kernel
theorem dX4_sync_33 : decode cX4_sync 33 = .ok (.aload_n 0, 1) := by decide +kernel
theorem dX4_sync_34 : decode cX4_sync 34 = .ok (.getfield 7, 3) := by decide +kernel
theorem dX4_sync_37 : decode cX4_sync 37 = .ok (.iload_n 3, 1) := by decide +kernel
theorem dX4_sync_38 : decode cX4_sync 38 = .ok (.iaload, 1) := by decide +kernel
theorem dX4_sync_39 : decode cX4_sync 39 = .ok (.iload_n 1, 1) := by decide +kernel
theorem dX4_sync_40 : decode cX4_sync 40 = .ok (.if_icmp .ne 86, 3) := by decide +kernel
theorem dX4_sync_43 : decode cX4_sync 43 = .ok (.iload_n 2, 1) := by decide +kernel
theorem dX4_sync_44 : decode cX4_sync 44 = .ok (.aload_n 0, 1) := by decide +kernel
theorem dX4_sync_45 : decode cX4_sync 45 = .ok (.iload_n 3, 1) := by decide +kernel
theorem dX4_sync_46 : decode cX4_sync 46 = .ok (.invokevirtual 75, 3) := by decide +kernel
theorem dX4_sync_49 : decode cX4_sync 49 = .ok (.ifCond .eq 7, 3) := by decide +kernel
theorem dX4_sync_52 : decode cX4_sync 52 = .ok (.iconst 1, 1) := by decide +kernel
theorem dX4_sync_53 : decode cX4_sync 53 = .ok (.goto 4, 3) := by decide +kernel
theorem dX4_sync_56 : decode cX4_sync 56 = .ok (.iconst 0, 1) := by decide +kernel
theorem dX4_sync_57 : decode cX4_sync 57 = .ok (.iadd, 1) := by decide +kernel
theorem dX4_sync_58 : decode cX4_sync 58 = .ok (.istore_n 2, 1) := by decide +kernel
theorem dX4_sync_59 : decode cX4_sync 59 = .ok (.aload_n 0, 1) := by decide +kernel
theorem dX4_sync_60 : decode cX4_sync 60 = .ok (.iload_n 3, 1) := by decide +kernel
theorem dX4_sync_61 : decode cX4_sync 61 = .ok (.iconst 0, 1) := by decide +kernel
theorem dX4_sync_62 : decode cX4_sync 62 = .ok (.invokevirtual 78, 3) := by decide +kernel
theorem dX4_sync_65 : decode cX4_sync 65 = .ok (.istore 4, 2) := by decide +kernel
theorem dX4_sync_67 : decode cX4_sync 67 = .ok (.aload_n 0, 1) := by decide +kernel
theorem dX4_sync_68 : decode cX4_sync 68 = .ok (.iload_n 3, 1) := by decide +kernel
theorem dX4_sync_69 : decode cX4_sync 69 = .ok (.iconst 1, 1) := by decide +kernel
theorem dX4_sync_70 : decode cX4_sync 70 = .ok (.invokevirtual 78, 3) := by decide +kernel
theorem dX4_sync_73 : decode cX4_sync 73 = .ok (.istore 5, 2) := by decide +kernel
theorem dX4_sync_75 : decode cX4_sync 75 = .ok (.aload_n 0, 1) := by decide +kernel
theorem dX4_sync_76 : decode cX4_sync 76 = .ok (.iload_n 3, 1) := by decide +kernel
theorem dX4_sync_77 : decode cX4_sync 77 = .ok (.invokevirtual 82, 3) := by decide +kernel
theorem dX4_sync_80 : decode cX4_sync 80 = .ok (.istore 6, 2) := by decide +kernel
theorem dX4_sync_82 : decode cX4_sync 82 = .ok (.iconst 0, 1) := by decide +kernel
theorem dX4_sync_83 : decode cX4_sync 83 = .ok (.istore 7, 2) := by decide +kernel
theorem dX4_sync_85 : decode cX4_sync 85 = .ok (.iload 7, 2) := by decide +kernel
theorem dX4_sync_87 : decode cX4_sync 87 = .ok (.iconst 3, 1) := by decide +kernel
theorem dX4_sync_88 : decode cX4_sync 88 = .ok (.if_icmp .ge 38, 3) := by decide +kernel
theorem dX4_sync_91 : decode cX4_sync 91 = .ok (.aload_n 0, 1) := by decide +kernel
theorem dX4_sync_92 : decode cX4_sync 92 = .ok (.iload_n 3, 1) := by decide +kernel
theorem dX4_sync_93 : decode cX4_sync 93 = .ok (.iload 7, 2) := by decide +kernel
theorem dX4_sync_95 : decode cX4_sync 95 = .ok (.iconst 0, 1) := by decide +kernel
theorem dX4_sync_96 : decode cX4_sync 96 = .ok (.iload 4, 2) := by decide +kernel
theorem dX4_sync_98 : decode cX4_sync 98 = .ok (.invokevirtual 63, 3) := by decide +kernel
theorem dX4_sync_101 : decode cX4_sync 101 = .ok (.aload_n 0, 1) := by decide +kernel
theorem dX4_sync_102 : decode cX4_sync 102 = .ok (.iload_n 3, 1) := by decide +kernel
theorem dX4_sync_103 : decode cX4_sync 103 = .ok (.iload 7, 2) := by decide +kernel
theorem dX4_sync_105 : decode cX4_sync 105 = .ok (.iconst 1, 1) := by decide +kernel
theorem dX4_sync_106 : decode cX4_sync 106 = .ok (.iload 5, 2) := by decide +kernel
theorem dX4_sync_108 : decode cX4_sync 108 = .ok (.invokevirtual 63, 3) := by decide +kernel
theorem dX4_sync_111 : decode cX4_sync 111 = .ok (.aload_n 0, 1) := by decide +kernel
theorem dX4_sync_112 : decode cX4_sync 112 = .ok (.iload_n 3, 1) := by decide +kernel
theorem dX4_sync_113 : decode cX4_sync 113 = .ok (.iload 7, 2) := by decide +kernel
theorem dX4_sync_115 : decode cX4_sync 115 = .ok (.iload 6, 2) := by decide +kernel
theorem dX4_sync_117 : decode cX4_sync 117 = .ok (.invokevirtual 71, 3) := by decide +kernel
theorem dX4_sync_120 : decode cX4_sync 120 = .ok (.iinc 7 1, 3) := by decide +kernel
theorem dX4_sync_123 : decode cX4_sync 123 = .ok (.goto (-38), 3) := by decide +kernel
theorem dX4_sync_126 : decode cX4_sync 126 = .ok (.iinc 3 1, 3) := by decide +kernel
theorem dX4_sync_129 : decode cX4_sync 129 = .ok (.goto (-104), 3) := by decide +kernel
theorem dX4_sync_132 : decode cX4_sync 132 = .ok (.iload_n 2, 1) := by decide +kernel
theorem dX4_sync_133 : decode cX4_sync 133 = .ok (.ireturn, 1) := by decide +kernel
theorem dX4_cards_0 : decode cX4_cards 0 = .ok (.aload_n 0, 1) := by decide +kernel
theorem dX4_cards_1 : decode cX4_cards 1 = .ok (.iconst 0, 1) := by decide +kernel
theorem dX4_cards_2 : decode cX4_cards 2 = .ok (.putfield 31, 3) := by decide +kernel
theorem dX4_cards_5 : decode cX4_cards 5 = .ok (.aload_n 0, 1) := by decide +kernel
theorem dX4_cards_6 : decode cX4_cards 6 = .ok (.getfield 35, 3) := by decide +kernel
theorem dX4_cards_9 : decode cX4_cards 9 = .ok (.ireturn, 1) := by decide +kernel
set_option maxRecDepth 20000 in
theorem ggX4_values_X4_isIn : GoodIn wsX4_values wsX4_isIn := goodIn_r _ [5] (by decide +kernel) (by decide +kernel)
set_option maxRecDepth 20000 in
theorem gX4_values_X4_isIn : GoodIn wsX4_values (va_wsS RX4 38 yX4_isIn wsX4_isIn) := goodIn_app (goodIn_of _ (by decide +kernel)) ggX4_values_X4_isIn
set_option maxRecDepth 20000 in
theorem ggX4_values_X4_isKind : GoodIn wsX4_values wsX4_isKind := goodIn_r _ [8, 2, 3, 4, 5] (by decide +kernel) (by decide +kernel)
set_option maxRecDepth 20000 in
theorem gX4_values_X4_isKind : GoodIn wsX4_values (va_wsS RX4 57 yX4_isKind wsX4_isKind) := goodIn_app (goodIn_of _ (by decide +kernel)) ggX4_values_X4_isKind
set_option maxRecDepth 20000 in
theorem ggX4_values_X4_isCard : GoodIn wsX4_values wsX4_isCard := goodIn_r _ [12, 13, 2, 3, 4, 5, 22, 23, 24, 25, 26, 27, 28, 29, 30] (by decide +kernel) (by decide +kernel)
set_option maxRecDepth 20000 in
theorem gX4_values_X4_isCard : GoodIn wsX4_values (wsV RX4 60 RX4 yX4_isCard wsX4_isCard) := goodIn_app (goodIn_of _ (by decide +kernel)) ggX4_values_X4_isCard
set_option maxRecDepth 20000 in
theorem ggX4_values_X4_isFine : GoodIn wsX4_values wsX4_isFine := goodIn_r _ [17, 18, 22, 23, 24, 25, 26, 27, 28, 29, 30] (by decide +kernel) (by decide +kernel)
set_option maxRecDepth 20000 in
theorem gX4_values_X4_isFine : GoodIn wsX4_values (wsV RX4 46 RX4 yX4_isFine wsX4_isFine) := goodIn_app (goodIn_of _ (by decide +kernel)) ggX4_values_X4_isFine
set_option maxRecDepth 20000 in
theorem ggX4_values_X4_at : GoodIn wsX4_values wsX4_at := goodIn_r _ [21] (by decide +kernel) (by decide +kernel)
set_option maxRecDepth 20000 in
theorem gX4_values_X4_at : GoodIn wsX4_values (va_wsS RX4 49 yX4_at wsX4_at) := goodIn_app (goodIn_of _ (by decide +kernel)) ggX4_values_X4_at
theorem dX4_values_0 : decode cX4_values 0 = .ok (.iload_n 2, 1) := by decide +kernel
theorem dX4_values_1 : decode cX4_values 1 = .ok (.iconst 0, 1) := by decide +kernel
theorem dX4_values_2 : decode cX4_values 2 = .ok (.iconst 2, 1) := by decide +kernel
theorem dX4_values_3 : decode cX4_values 3 = .ok (.invokestatic 38, 3) := by decide +kernel
theorem dX4_values_6 : decode cX4_values 6 = .ok (.ifCond .eq 14, 3) := by decide +kernel
theorem dX4_values_9 : decode cX4_values 9 = .ok (.iload_n 3, 1) := by decide +kernel
theorem dX4_values_10 : decode cX4_values 10 = .ok (.invokestatic 57, 3) := by decide +kernel
theorem dX4_values_13 : decode cX4_values 13 = .ok (.ifCond .eq 7, 3) := by decide +kernel
theorem dX4_values_16 : decode cX4_values 16 = .ok (.iconst 1, 1) := by decide +kernel
theorem dX4_values_17 : decode cX4_values 17 = .ok (.goto 4, 3) := by decide +kernel
theorem dX4_values_20 : decode cX4_values 20 = .ok (.iconst 0, 1) := by decide +kernel
theorem dX4_values_21 : decode cX4_values 21 = .ok (.istore 4, 2) := by decide +kernel
theorem dX4_values_23 : decode cX4_values 23 = .ok (.aload_n 0, 1) := by decide +kernel
theorem dX4_values_24 : decode cX4_values 24 = .ok (.aload_n 0, 1) := by decide +kernel
theorem dX4_values_25 : decode cX4_values 25 = .ok (.iload_n 1, 1) := by decide +kernel
theorem dX4_values_26 : decode cX4_values 26 = .ok (.invokevirtual 60, 3) := by decide +kernel
theorem dX4_values_29 : decode cX4_values 29 = .ok (.ifCond .ne 7, 3) := by decide +kernel
theorem dX4_values_32 : decode cX4_values 32 = .ok (.iconst 1, 1) := by decide +kernel
theorem dX4_values_33 : decode cX4_values 33 = .ok (.goto 13, 3) := by decide +kernel
theorem dX4_values_36 : decode cX4_values 36 = .ok (.iload 4, 2) := by decide +kernel
theorem dX4_values_38 : decode cX4_values 38 = .ok (.ifCond .ne 7, 3) := by decide +kernel
theorem dX4_values_41 : decode cX4_values 41 = .ok (.iconst 2, 1) := by decide +kernel
theorem dX4_values_42 : decode cX4_values 42 = .ok (.goto 4, 3) := by decide +kernel
theorem dX4_values_45 : decode cX4_values 45 = .ok (.iconst 0, 1) := by decide +kernel
theorem dX4_values_46 : decode cX4_values 46 = .ok (.invokevirtual 46, 3) := by decide +kernel
theorem dX4_values_49 : decode cX4_values 49 = .ok (.ifCond .eq 17, 3) := by decide +kernel
theorem dX4_values_52 : decode cX4_values 52 = .ok (.aload_n 0, 1) := by decide +kernel
theorem dX4_values_53 : decode cX4_values 53 = .ok (.getfield 16, 3) := by decide +kernel
theorem dX4_values_56 : decode cX4_values 56 = .ok (.iload_n 1, 1) := by decide +kernel
theorem dX4_values_57 : decode cX4_values 57 = .ok (.iload_n 2, 1) := by decide +kernel
theorem dX4_values_58 : decode cX4_values 58 = .ok (.iload_n 3, 1) := by decide +kernel
theorem dX4_values_59 : decode cX4_values 59 = .ok (.invokestatic 49, 3) := by decide +kernel
theorem dX4_values_62 : decode cX4_values 62 = .ok (.iaload, 1) := by decide +kernel
theorem dX4_values_63 : decode cX4_values 63 = .ok (.goto 4, 3) := by decide +kernel
theorem dX4_values_66 : decode cX4_values 66 = .ok (.iconst 0, 1) := by decide +kernel
theorem dX4_values_67 : decode cX4_values 67 = .ok (.ireturn, 1) := by decide +kernel
set_option maxRecDepth 20000 in
theorem ggX4_nameOf_X4_isCard : GoodIn wsX4_nameOf wsX4_isCard := goodIn_r _ [6, 7, 8, 9, 5, 10, 16, 17, 18, 19, 20, 21, 22, 23, 24] (by decide +kernel) (by decide +kernel)
set_option maxRecDepth 20000 in
theorem gX4_nameOf_X4_isCard : GoodIn wsX4_nameOf (wsV RX4 60 RX4 yX4_isCard wsX4_isCard) := goodIn_app (goodIn_of _ (by decide +kernel)) ggX4_nameOf_X4_isCard
set_option maxRecDepth 20000 in
theorem ggX4_nameOf_X4_isIn : GoodIn wsX4_nameOf wsX4_isIn := goodIn_r _ [10] (by decide +kernel) (by decide +kernel)
set_option maxRecDepth 20000 in
theorem gX4_nameOf_X4_isIn : GoodIn wsX4_nameOf (va_wsS RX4 38 yX4_isIn wsX4_isIn) := goodIn_app (goodIn_of _ (by decide +kernel)) ggX4_nameOf_X4_isIn
set_option maxRecDepth 20000 in
theorem ggX4_nameOf_X4_isFine : GoodIn wsX4_nameOf wsX4_isFine := goodIn_r _ [14, 15, 16, 17, 18, 19, 20, 21, 22, 23, 24] (by decide +kernel) (by decide +kernel)
set_option maxRecDepth 20000 in
theorem gX4_nameOf_X4_isFine : GoodIn wsX4_nameOf (wsV RX4 46 RX4 yX4_isFine wsX4_isFine) := goodIn_app (goodIn_of _ (by decide +kernel)) ggX4_nameOf_X4_isFine
theorem dX4_nameOf_0 : decode cX4_nameOf 0 = .ok (.aload_n 0, 1) := by decide +kernel
theorem dX4_nameOf_1 : decode cX4_nameOf 1 = .ok (.aload_n 0, 1) := by decide +kernel
theorem dX4_nameOf_2 : decode cX4_nameOf 2 = .ok (.iload_n 1, 1) := by decide +kernel
theorem dX4_nameOf_3 : decode cX4_nameOf 3 = .ok (.invokevirtual 60, 3) := by decide +kernel
theorem dX4_nameOf_6 : decode cX4_nameOf 6 = .ok (.ifCond .ne 7, 3) := by decide +kernel
theorem dX4_nameOf_9 : decode cX4_nameOf 9 = .ok (.iconst 1, 1) := by decide +kernel
theorem dX4_nameOf_10 : decode cX4_nameOf 10 = .ok (.goto 17, 3) := by decide +kernel
theorem dX4_nameOf_13 : decode cX4_nameOf 13 = .ok (.iload_n 2, 1) := by decide +kernel
theorem dX4_nameOf_14 : decode cX4_nameOf 14 = .ok (.iconst 0, 1) := by decide +kernel
theorem dX4_nameOf_15 : decode cX4_nameOf 15 = .ok (.iconst 2, 1) := by decide +kernel
theorem dX4_nameOf_16 : decode cX4_nameOf 16 = .ok (.invokestatic 38, 3) := by decide +kernel
theorem dX4_nameOf_19 : decode cX4_nameOf 19 = .ok (.ifCond .ne 7, 3) := by decide +kernel
theorem dX4_nameOf_22 : decode cX4_nameOf 22 = .ok (.iconst 2, 1) := by decide +kernel
theorem dX4_nameOf_23 : decode cX4_nameOf 23 = .ok (.goto 4, 3) := by decide +kernel
theorem dX4_nameOf_26 : decode cX4_nameOf 26 = .ok (.iconst 0, 1) := by decide +kernel
theorem dX4_nameOf_27 : decode cX4_nameOf 27 = .ok (.invokevirtual 46, 3) := by decide +kernel
theorem dX4_nameOf_30 : decode cX4_nameOf 30 = .ok (.ifCond .eq 16, 3) := by decide +kernel
theorem dX4_nameOf_33 : decode cX4_nameOf 33 = .ok (.aload_n 0, 1) := by decide +kernel
theorem dX4_nameOf_34 : decode cX4_nameOf 34 = .ok (.getfield 13, 3) := by decide +kernel
theorem dX4_nameOf_37 : decode cX4_nameOf 37 = .ok (.iconst 3, 1) := by decide +kernel
theorem dX4_nameOf_38 : decode cX4_nameOf 38 = .ok (.iload_n 1, 1) := by decide +kernel
theorem dX4_nameOf_39 : decode cX4_nameOf 39 = .ok (.imul, 1) := by decide +kernel
theorem dX4_nameOf_40 : decode cX4_nameOf 40 = .ok (.iload_n 2, 1) := by decide +kernel
theorem dX4_nameOf_41 : decode cX4_nameOf 41 = .ok (.iadd, 1) := by decide +kernel
theorem dX4_nameOf_42 : decode cX4_nameOf 42 = .ok (.iaload, 1) := by decide +kernel
theorem dX4_nameOf_43 : decode cX4_nameOf 43 = .ok (.goto 4, 3) := by decide +kernel
theorem dX4_nameOf_46 : decode cX4_nameOf 46 = .ok (.iconst 0, 1) := by decide +kernel
theorem dX4_nameOf_47 : decode cX4_nameOf 47 = .ok (.ireturn, 1) := by decide +kernel
set_option maxRecDepth 20000 in
theorem ggX4_merged_X4_isCard : GoodIn wsX4_merged wsX4_isCard := goodIn_r _ [5, 6, 7, 8, 4, 9, 26, 27, 28, 29, 30, 31, 32, 33, 34] (by decide +kernel) (by decide +kernel)
set_option maxRecDepth 20000 in
theorem gX4_merged_X4_isCard : GoodIn wsX4_merged (wsV RX4 60 RX4 yX4_isCard wsX4_isCard) := goodIn_app (goodIn_of _ (by decide +kernel)) ggX4_merged_X4_isCard
set_option maxRecDepth 20000 in
theorem ggX4_merged_X4_isKind : GoodIn wsX4_merged wsX4_isKind := goodIn_r _ [12, 7, 8, 4, 9] (by decide +kernel) (by decide +kernel)
set_option maxRecDepth 20000 in
theorem gX4_merged_X4_isKind : GoodIn wsX4_merged (va_wsS RX4 57 yX4_isKind wsX4_isKind) := goodIn_app (goodIn_of _ (by decide +kernel)) ggX4_merged_X4_isKind
set_option maxRecDepth 20000 in
theorem ggX4_merged_X4_isFine : GoodIn wsX4_merged wsX4_isFine := goodIn_r _ [16, 17, 26, 27, 28, 29, 30, 31, 32, 33, 34] (by decide +kernel) (by decide +kernel)
set_option maxRecDepth 20000 in
theorem gX4_merged_X4_isFine : GoodIn wsX4_merged (wsV RX4 46 RX4 yX4_isFine wsX4_isFine) := goodIn_app (goodIn_of _ (by decide +kernel)) ggX4_merged_X4_isFine
set_option maxRecDepth 20000 in
theorem ggX4_merged_X4_mergedOf : GoodIn wsX4_merged wsX4_mergedOf := goodIn_r _ [21, 22, 23, 24, 4, 25, 26, 27, 28, 29, 30, 31, 32, 33, 34] (by decide +kernel) (by decide +kernel)
set_option maxRecDepth 20000 in
theorem gX4_merged_X4_mergedOf : GoodIn wsX4_merged (wsV RX4 78 RX4 yX4_mergedOf wsX4_mergedOf) := goodIn_app (goodIn_of _ (by decide +kernel)) ggX4_merged_X4_mergedOf
theorem dX4_merged_0 : decode cX4_merged 0 = .ok (.aload_n 0, 1) := by decide +kernel
theorem dX4_merged_1 : decode cX4_merged 1 = .ok (.aload_n 0, 1) := by decide +kernel
theorem dX4_merged_2 : decode cX4_merged 2 = .ok (.iload_n 1, 1) := by decide +kernel
theorem dX4_merged_3 : decode cX4_merged 3 = .ok (.invokevirtual 60, 3) := by decide +kernel
theorem dX4_merged_6 : decode cX4_merged 6 = .ok (.ifCond .ne 7, 3) := by decide +kernel
theorem dX4_merged_9 : decode cX4_merged 9 = .ok (.iconst 1, 1) := by decide +kernel
theorem dX4_merged_10 : decode cX4_merged 10 = .ok (.goto 15, 3) := by decide +kernel
theorem dX4_merged_13 : decode cX4_merged 13 = .ok (.iload_n 2, 1) := by decide +kernel
theorem dX4_merged_14 : decode cX4_merged 14 = .ok (.invokestatic 57, 3) := by decide +kernel
theorem dX4_merged_17 : decode cX4_merged 17 = .ok (.ifCond .ne 7, 3) := by decide +kernel
theorem dX4_merged_20 : decode cX4_merged 20 = .ok (.iconst 2, 1) := by decide +kernel
theorem dX4_merged_21 : decode cX4_merged 21 = .ok (.goto 4, 3) := by decide +kernel
theorem dX4_merged_24 : decode cX4_merged 24 = .ok (.iconst 0, 1) := by decide +kernel
theorem dX4_merged_25 : decode cX4_merged 25 = .ok (.invokevirtual 46, 3) := by decide +kernel
theorem dX4_merged_28 : decode cX4_merged 28 = .ok (.ifCond .eq 12, 3) := by decide +kernel
theorem dX4_merged_31 : decode cX4_merged 31 = .ok (.aload_n 0, 1) := by decide +kernel
theorem dX4_merged_32 : decode cX4_merged 32 = .ok (.iload_n 1, 1) := by decide +kernel
theorem dX4_merged_33 : decode cX4_merged 33 = .ok (.iload_n 2, 1) := by decide +kernel
theorem dX4_merged_34 : decode cX4_merged 34 = .ok (.invokevirtual 78, 3) := by decide +kernel
theorem dX4_merged_37 : decode cX4_merged 37 = .ok (.goto 4, 3) := by decide +kernel
theorem dX4_merged_40 : decode cX4_merged 40 = .ok (.iconst 0, 1) := by decide +kernel
theorem dX4_merged_41 : decode cX4_merged 41 = .ok (.ireturn, 1) := by decide +kernel
set_option maxRecDepth 20000 in
theorem ggX4_mergedByValues_X4_isCard : GoodIn wsX4_mergedByValues wsX4_isCard := goodIn_r _ [5, 6, 7, 8, 4, 9, 26, 27, 28, 29, 30, 31, 32, 33, 34] (by decide +kernel) (by decide +kernel)
set_option maxRecDepth 20000 in
theorem gX4_mergedByValues_X4_isCard : GoodIn wsX4_mergedByValues (wsV RX4 60 RX4 yX4_isCard wsX4_isCard) := goodIn_app (goodIn_of _ (by decide +kernel)) ggX4_mergedByValues_X4_isCard
set_option maxRecDepth 20000 in
theorem ggX4_mergedByValues_X4_isKind : GoodIn wsX4_mergedByValues wsX4_isKind := goodIn_r _ [12, 7, 8, 4, 9] (by decide +kernel) (by decide +kernel)
set_option maxRecDepth 20000 in
theorem gX4_mergedByValues_X4_isKind : GoodIn wsX4_mergedByValues (va_wsS RX4 57 yX4_isKind wsX4_isKind) := goodIn_app (goodIn_of _ (by decide +kernel)) ggX4_mergedByValues_X4_isKind
set_option maxRecDepth 20000 in
theorem ggX4_mergedByValues_X4_isFine : GoodIn wsX4_mergedByValues wsX4_isFine := goodIn_r _ [16, 17, 26, 27, 28, 29, 30, 31, 32, 33, 34] (by decide +kernel) (by decide +kernel)
set_option maxRecDepth 20000 in
theorem gX4_mergedByValues_X4_isFine : GoodIn wsX4_mergedByValues (wsV RX4 46 RX4 yX4_isFine wsX4_isFine) := goodIn_app (goodIn_of _ (by decide +kernel)) ggX4_mergedByValues_X4_isFine
set_option maxRecDepth 20000 in
theorem ggX4_mergedByValues_X4_mergedOf : GoodIn wsX4_mergedByValues wsX4_mergedOf := goodIn_r _ [21, 22, 23, 24, 4, 25, 26, 27, 28, 29, 30, 31, 32, 33, 34] (by decide +kernel) (by decide +kernel)
set_option maxRecDepth 20000 in
theorem gX4_mergedByValues_X4_mergedOf : GoodIn wsX4_mergedByValues (wsV RX4 78 RX4 yX4_mergedOf wsX4_mergedOf) := goodIn_app (goodIn_of _ (by decide +kernel)) ggX4_mergedByValues_X4_mergedOf
theorem dX4_mergedByValues_0 : decode cX4_mergedByValues 0 = .ok (.aload_n 0, 1) := by decide +kernel
theorem dX4_mergedByValues_1 : decode cX4_mergedByValues 1 = .ok (.aload_n 0, 1) := by decide +kernel
theorem dX4_mergedByValues_2 : decode cX4_mergedByValues 2 = .ok (.iload_n 1, 1) := by decide +kernel
theorem dX4_mergedByValues_3 : decode cX4_mergedByValues 3 = .ok (.invokevirtual 60, 3) := by decide +kernel
theorem dX4_mergedByValues_6 : decode cX4_mergedByValues 6 = .ok (.ifCond .ne 7, 3) := by decide +kernel
theorem dX4_mergedByValues_9 : decode cX4_mergedByValues 9 = .ok (.iconst 1, 1) := by decide +kernel
theorem dX4_mergedByValues_10 : decode cX4_mergedByValues 10 = .ok (.goto 15, 3) := by decide +kernel
theorem dX4_mergedByValues_13 : decode cX4_mergedByValues 13 = .ok (.iload_n 2, 1) := by decide +kernel
theorem dX4_mergedByValues_14 : decode cX4_mergedByValues 14 = .ok (.invokestatic 57, 3) := by decide +kernel
theorem dX4_mergedByValues_17 : decode cX4_mergedByValues 17 = .ok (.ifCond .ne 7, 3) := by decide +kernel
theorem dX4_mergedByValues_20 : decode cX4_mergedByValues 20 = .ok (.iconst 2, 1) := by decide +kernel
theorem dX4_mergedByValues_21 : decode cX4_mergedByValues 21 = .ok (.goto 4, 3) := by decide +kernel
theorem dX4_mergedByValues_24 : decode cX4_mergedByValues 24 = .ok (.iconst 0, 1) := by decide +kernel
theorem dX4_mergedByValues_25 : decode cX4_mergedByValues 25 = .ok (.invokevirtual 46, 3) := by decide +kernel
theorem dX4_mergedByValues_28 : decode cX4_mergedByValues 28 = .ok (.ifCond .eq 12, 3) := by decide +kernel
theorem dX4_mergedByValues_31 : decode cX4_mergedByValues 31 = .ok (.aload_n 0, 1) := by decide +kernel
theorem dX4_mergedByValues_32 : decode cX4_mergedByValues 32 = .ok (.iload_n 1, 1) := by decide +kernel
theorem dX4_mergedByValues_33 : decode cX4_mergedByValues 33 = .ok (.iload_n 2, 1) := by decide +kernel
theorem dX4_mergedByValues_34 : decode cX4_mergedByValues 34 = .ok (.invokevirtual 78, 3) := by decide +kernel
theorem dX4_mergedByValues_37 : decode cX4_mergedByValues 37 = .ok (.goto 4, 3) := by decide +kernel
theorem dX4_mergedByValues_40 : decode cX4_mergedByValues 40 = .ok (.iconst 0, 1) := by decide +kernel
theorem dX4_mergedByValues_41 : decode cX4_mergedByValues 41 = .ok (.ireturn, 1) := by decide +kernel
set_option maxRecDepth 20000 in
theorem ggX4_unsynced_X4_isBook : GoodIn wsX4_unsynced wsX4_isBook := goodIn_r _ [8, 9, 10, 7, 11] (by decide +kernel) (by decide +kernel)
set_option maxRecDepth 20000 in
theorem gX4_unsynced_X4_isBook : GoodIn wsX4_unsynced (va_wsS RX4 42 yX4_isBook wsX4_isBook) := goodIn_app (goodIn_of _ (by decide +kernel)) ggX4_unsynced_X4_isBook
set_option maxRecDepth 20000 in
theorem ggX4_unsynced_X4_isFine : GoodIn wsX4_unsynced wsX4_isFine := goodIn_r _ [15, 16, 28, 29, 30, 31, 32, 33, 34, 35, 36] (by decide +kernel) (by decide +kernel)
set_option maxRecDepth 20000 in
theorem gX4_unsynced_X4_isFine : GoodIn wsX4_unsynced (wsV RX4 46 RX4 yX4_isFine wsX4_isFine) := goodIn_app (goodIn_of _ (by decide +kernel)) ggX4_unsynced_X4_isFine
set_option maxRecDepth 20000 in
theorem ggX4_unsynced_X4_mergedName : GoodIn wsX4_unsynced wsX4_mergedName := goodIn_r _ [20, 2, 28, 29, 30, 31, 32, 33, 34, 35, 36] (by decide +kernel) (by decide +kernel)
set_option maxRecDepth 20000 in
theorem gX4_unsynced_X4_mergedName : GoodIn wsX4_unsynced (wsV RX4 82 RX4 yX4_mergedName wsX4_mergedName) := goodIn_app (goodIn_of _ (by decide +kernel)) ggX4_unsynced_X4_mergedName
set_option maxRecDepth 20000 in
theorem ggX4_unsynced_X4_at : GoodIn wsX4_unsynced wsX4_at := goodIn_r _ [23] (by decide +kernel) (by decide +kernel)
set_option maxRecDepth 20000 in
theorem gX4_unsynced_X4_at : GoodIn wsX4_unsynced (va_wsS RX4 49 yX4_at wsX4_at) := goodIn_app (goodIn_of _ (by decide +kernel)) ggX4_unsynced_X4_at
set_option maxRecDepth 20000 in
theorem ggX4_unsynced_X4_mergedOf : GoodIn wsX4_unsynced wsX4_mergedOf := goodIn_r _ [27, 3, 21, 22, 7, 23, 28, 29, 30, 31, 32, 33, 34, 35, 36] (by decide +kernel) (by decide +kernel)
set_option maxRecDepth 20000 in
theorem gX4_unsynced_X4_mergedOf : GoodIn wsX4_unsynced (wsV RX4 78 RX4 yX4_mergedOf wsX4_mergedOf) := goodIn_app (goodIn_of _ (by decide +kernel)) ggX4_unsynced_X4_mergedOf
theorem dX4_unsynced_0 : decode cX4_unsynced 0 = .ok (.aload_n 0, 1) := by decide +kernel
theorem dX4_unsynced_1 : decode cX4_unsynced 1 = .ok (.iload_n 1, 1) := by decide +kernel
theorem dX4_unsynced_2 : decode cX4_unsynced 2 = .ok (.invokestatic 42, 3) := by decide +kernel
theorem dX4_unsynced_5 : decode cX4_unsynced 5 = .ok (.ifCond .eq 7, 3) := by decide +kernel
theorem dX4_unsynced_8 : decode cX4_unsynced 8 = .ok (.iconst 0, 1) := by decide +kernel
theorem dX4_unsynced_9 : decode cX4_unsynced 9 = .ok (.goto 4, 3) := by decide +kernel
theorem dX4_unsynced_12 : decode cX4_unsynced 12 = .ok (.iconst 1, 1) := by decide +kernel
theorem dX4_unsynced_13 : decode cX4_unsynced 13 = .ok (.invokevirtual 46, 3) := by decide +kernel
theorem dX4_unsynced_16 : decode cX4_unsynced 16 = .ok (.ifCond .ne 5, 3) := by decide +kernel
theorem dX4_unsynced_19 : decode cX4_unsynced 19 = .ok (.iconst 0, 1) := by decide +kernel
theorem dX4_unsynced_20 : decode cX4_unsynced 20 = .ok (.ireturn, 1) := by decide +kernel
theorem dX4_unsynced_21 : decode cX4_unsynced 21 = .ok (.iconst 0, 1) := by decide +kernel
theorem dX4_unsynced_22 : decode cX4_unsynced 22 = .ok (.istore_n 2, 1) := by decide +kernel
theorem dX4_unsynced_23 : decode cX4_unsynced 23 = .ok (.iconst 0, 1) := by decide +kernel
theorem dX4_unsynced_24 : decode cX4_unsynced 24 = .ok (.istore_n 3, 1) := by decide +kernel
theorem dX4_unsynced_25 : decode cX4_unsynced 25 = .ok (.iload_n 3, 1) := by decide +kernel
theorem dX4_unsynced_26 : decode cX4_unsynced 26 = .ok (.aload_n 0, 1) := by decide +kernel
theorem dX4_unsynced_27 : decode cX4_unsynced 27 = .ok (.getfield 35, 3) := by decide +kernel
theorem dX4_unsynced_30 : decode cX4_unsynced 30 = .ok (.if_icmp .ge 123, 3) := by decide +kernel
theorem dX4_unsynced_33 : decode cX4_unsynced 33 = .ok (.iconst 1, 1) := by decide +kernel
theorem dX4_unsynced_34 : decode cX4_unsynced 34 = .ok (.istore 4, 2) := by decide +kernel
theorem dX4_unsynced_36 : decode cX4_unsynced 36 = .ok (.iconst 0, 1) := by decide +kernel
theorem dX4_unsynced_37 : decode cX4_unsynced 37 = .ok (.istore 5, 2) := by decide +kernel
theorem dX4_unsynced_39 : decode cX4_unsynced 39 = .ok (.iload 5, 2) := by decide +kernel
theorem dX4_unsynced_41 : decode cX4_unsynced 41 = .ok (.iconst 3, 1) := by decide +kernel
theorem dX4_unsynced_42 : decode cX4_unsynced 42 = .ok (.if_icmp .ge 82, 3) := by decide +kernel
theorem dX4_unsynced_45 : decode cX4_unsynced 45 = .ok (.iload 4, 2) := by decide +kernel
theorem dX4_unsynced_47 : decode cX4_unsynced 47 = .ok (.ifCond .eq 68, 3) := by decide +kernel
theorem dX4_unsynced_50 : decode cX4_unsynced 50 = .ok (.aload_n 0, 1) := by decide +kernel
theorem dX4_unsynced_51 : decode cX4_unsynced 51 = .ok (.getfield 13, 3) := by decide +kernel
theorem dX4_unsynced_54 : decode cX4_unsynced 54 = .ok (.iconst 3, 1) := by decide +kernel
theorem dX4_unsynced_55 : decode cX4_unsynced 55 = .ok (.iload_n 3, 1) := by decide +kernel
theorem dX4_unsynced_56 : decode cX4_unsynced 56 = .ok (.imul, 1) := by decide +kernel
theorem dX4_unsynced_57 : decode cX4_unsynced 57 = .ok (.iload 5, 2) := by decide +kernel
theorem dX4_unsynced_59 : decode cX4_unsynced 59 = .ok (.iadd, 1) := by decide +kernel
theorem dX4_unsynced_60 : decode cX4_unsynced 60 = .ok (.iaload, 1) := by decide +kernel
theorem dX4_unsynced_61 : decode cX4_unsynced 61 = .ok (.aload_n 0, 1) := by decide +kernel
theorem dX4_unsynced_62 : decode cX4_unsynced 62 = .ok (.iload_n 3, 1) := by decide +kernel
theorem dX4_unsynced_63 : decode cX4_unsynced 63 = .ok (.invokevirtual 82, 3) := by decide +kernel
theorem dX4_unsynced_66 : decode cX4_unsynced 66 = .ok (.if_icmp .ne 49, 3) := by decide +kernel
theorem dX4_unsynced_69 : decode cX4_unsynced 69 = .ok (.aload_n 0, 1) := by decide +kernel
theorem dX4_unsynced_70 : decode cX4_unsynced 70 = .ok (.getfield 16, 3) := by decide +kernel
theorem dX4_unsynced_73 : decode cX4_unsynced 73 = .ok (.iload_n 3, 1) := by decide +kernel
theorem dX4_unsynced_74 : decode cX4_unsynced 74 = .ok (.iload 5, 2) := by decide +kernel
theorem dX4_unsynced_76 : decode cX4_unsynced 76 = .ok (.iconst 0, 1) := by decide +kernel
theorem dX4_unsynced_77 : decode cX4_unsynced 77 = .ok (.invokestatic 49, 3) := by decide +kernel
theorem dX4_unsynced_80 : decode cX4_unsynced 80 = .ok (.iaload, 1) := by decide +kernel
theorem dX4_unsynced_81 : decode cX4_unsynced 81 = .ok (.aload_n 0, 1) := by decide +kernel
theorem dX4_unsynced_82 : decode cX4_unsynced 82 = .ok (.iload_n 3, 1) := by decide +kernel
theorem dX4_unsynced_83 : decode cX4_unsynced 83 = .ok (.iconst 0, 1) := by decide +kernel
theorem dX4_unsynced_84 : decode cX4_unsynced 84 = .ok (.invokevirtual 78, 3) := by decide +kernel
theorem dX4_unsynced_87 : decode cX4_unsynced 87 = .ok (.if_icmp .ne 28, 3) := by decide +kernel
theorem dX4_unsynced_90 : decode cX4_unsynced 90 = .ok (.aload_n 0, 1) := by decide +kernel
theorem dX4_unsynced_91 : decode cX4_unsynced 91 = .ok (.getfield 16, 3) := by decide +kernel
theorem dX4_unsynced_94 : decode cX4_unsynced 94 = .ok (.iload_n 3, 1) := by decide +kernel
theorem dX4_unsynced_95 : decode cX4_unsynced 95 = .ok (.iload 5, 2) := by decide +kernel
theorem dX4_unsynced_97 : decode cX4_unsynced 97 = .ok (.iconst 1, 1) := by decide +kernel
theorem dX4_unsynced_98 : decode cX4_unsynced 98 = .ok (.invokestatic 49, 3) := by decide +kernel
theorem dX4_unsynced_101 : decode cX4_unsynced 101 = .ok (.iaload, 1) := by decide +kernel
theorem dX4_unsynced_102 : decode cX4_unsynced 102 = .ok (.aload_n 0, 1) := by decide +kernel
theorem dX4_unsynced_103 : decode cX4_unsynced 103 = .ok (.iload_n 3, 1) := by decide +kernel
theorem dX4_unsynced_104 : decode cX4_unsynced 104 = .ok (.iconst 1, 1) := by decide +kernel
theorem dX4_unsynced_105 : decode cX4_unsynced 105 = .ok (.invokevirtual 78, 3) := by decide +kernel
theorem dX4_unsynced_108 : decode cX4_unsynced 108 = .ok (.if_icmp .ne 7, 3) := by decide +kernel
theorem dX4_unsynced_111 : decode cX4_unsynced 111 = .ok (.iconst 1, 1) := by decide +kernel
theorem dX4_unsynced_112 : decode cX4_unsynced 112 = .ok (.goto 4, 3) := by decide +kernel
theorem dX4_unsynced_115 : decode cX4_unsynced 115 = .ok (.iconst 0, 1) := by decide +kernel
theorem dX4_unsynced_116 : decode cX4_unsynced 116 = .ok (.istore 4, 2) := by decide +kernel
theorem dX4_unsynced_118 : decode cX4_unsynced 118 = .ok (.iinc 5 1, 3) := by decide +kernel
theorem dX4_unsynced_121 : decode cX4_unsynced 121 = .ok (.goto (-82), 3) := by decide +kernel
theorem dX4_unsynced_124 : decode cX4_unsynced 124 = .ok (.iload_n 2, 1) := by decide +kernel
theorem dX4_unsynced_125 : decode cX4_unsynced 125 = .ok (.aload_n 0, 1) := by decide +kernel
theorem dX4_unsynced_126 : decode cX4_unsynced 126 = .ok (.getfield 7, 3) := by decide +kernel
theorem dX4_unsynced_129 : decode cX4_unsynced 129 = .ok (.iload_n 3, 1) := by decide +kernel
theorem dX4_unsynced_130 : decode cX4_unsynced 130 = .ok (.iaload, 1) := by decide +kernel
theorem dX4_unsynced_131 : decode cX4_unsynced 131 = .ok (.iload_n 1, 1) := by decide +kernel
theorem dX4_unsynced_132 : decode cX4_unsynced 132 = .ok (.if_icmp .ne 12, 3) := by decide +kernel
theorem dX4_unsynced_135 : decode cX4_unsynced 135 = .ok (.iload 4, 2) := by decide +kernel
theorem dX4_unsynced_137 : decode cX4_unsynced 137 = .ok (.ifCond .ne 7, 3) := by decide +kernel
theorem dX4_unsynced_140 : decode cX4_unsynced 140 = .ok (.iconst 1, 1) := by decide +kernel
theorem dX4_unsynced_141 : decode cX4_unsynced 141 = .ok (.goto 4, 3) := by decide +kernel
theorem dX4_unsynced_144 : decode cX4_unsynced 144 = .ok (.iconst 0, 1) := by decide +kernel
theorem dX4_unsynced_145 : decode cX4_unsynced 145 = .ok (.iadd, 1) := by decide +kernel
theorem dX4_unsynced_146 : decode cX4_unsynced 146 = .ok (.istore_n 2, 1) := by decide +kernel
theorem dX4_unsynced_147 : decode cX4_unsynced 147 = .ok (.iinc 3 1, 3) := by decide +kernel
theorem dX4_unsynced_150 : decode cX4_unsynced 150 = .ok (.goto (-125), 3) := by decide +kernel
theorem dX4_unsynced_153 : decode cX4_unsynced 153 = .ok (.iload_n 2, 1) := by decide +kernel
theorem dX4_unsynced_154 : decode cX4_unsynced 154 = .ok (.ireturn, 1) := by decide +kernel
set_option maxRecDepth 20000 in
theorem ggX4_groupOf_X4_has : GoodIn wsX4_groupOf wsX4_has := goodIn_r _ [6] (by decide +kernel) (by decide +kernel)
set_option maxRecDepth 20000 in
theorem gX4_groupOf_X4_has : GoodIn wsX4_groupOf (va_wsS RX4 67 yX4_has wsX4_has) := goodIn_app (goodIn_of _ (by decide +kernel)) ggX4_groupOf_X4_has
theorem dX4_groupOf_0 : decode cX4_groupOf 0 = .ok (.iconst 1, 1) := by decide +kernel
theorem dX4_groupOf_1 : decode cX4_groupOf 1 = .ok (.iload_n 1, 1) := by decide +kernel
theorem dX4_groupOf_2 : decode cX4_groupOf 2 = .ok (.ishl, 1) := by decide +kernel
theorem dX4_groupOf_3 : decode cX4_groupOf 3 = .ok (.istore_n 2, 1) := by decide +kernel
theorem dX4_groupOf_4 : decode cX4_groupOf 4 = .ok (.iconst 0, 1) := by decide +kernel
theorem dX4_groupOf_5 : decode cX4_groupOf 5 = .ok (.istore_n 3, 1) := by decide +kernel
theorem dX4_groupOf_6 : decode cX4_groupOf 6 = .ok (.iload_n 2, 1) := by decide +kernel
theorem dX4_groupOf_7 : decode cX4_groupOf 7 = .ok (.iload_n 3, 1) := by decide +kernel
theorem dX4_groupOf_8 : decode cX4_groupOf 8 = .ok (.if_icmp .eq 49, 3) := by decide +kernel
theorem dX4_groupOf_11 : decode cX4_groupOf 11 = .ok (.iload_n 2, 1) := by decide +kernel
theorem dX4_groupOf_12 : decode cX4_groupOf 12 = .ok (.istore_n 3, 1) := by decide +kernel
theorem dX4_groupOf_13 : decode cX4_groupOf 13 = .ok (.iconst 0, 1) := by decide +kernel
theorem dX4_groupOf_14 : decode cX4_groupOf 14 = .ok (.istore 4, 2) := by decide +kernel
theorem dX4_groupOf_16 : decode cX4_groupOf 16 = .ok (.iload 4, 2) := by decide +kernel
theorem dX4_groupOf_18 : decode cX4_groupOf 18 = .ok (.aload_n 0, 1) := by decide +kernel
theorem dX4_groupOf_19 : decode cX4_groupOf 19 = .ok (.getfield 35, 3) := by decide +kernel
theorem dX4_groupOf_22 : decode cX4_groupOf 22 = .ok (.if_icmp .ge 32, 3) := by decide +kernel
theorem dX4_groupOf_25 : decode cX4_groupOf 25 = .ok (.iload_n 2, 1) := by decide +kernel
theorem dX4_groupOf_26 : decode cX4_groupOf 26 = .ok (.iload_n 2, 1) := by decide +kernel
theorem dX4_groupOf_27 : decode cX4_groupOf 27 = .ok (.iload 4, 2) := by decide +kernel
theorem dX4_groupOf_29 : decode cX4_groupOf 29 = .ok (.invokestatic 67, 3) := by decide +kernel
theorem dX4_groupOf_32 : decode cX4_groupOf 32 = .ok (.ifCond .eq 13, 3) := by decide +kernel
theorem dX4_groupOf_35 : decode cX4_groupOf 35 = .ok (.aload_n 0, 1) := by decide +kernel
theorem dX4_groupOf_36 : decode cX4_groupOf 36 = .ok (.getfield 19, 3) := by decide +kernel
theorem dX4_groupOf_39 : decode cX4_groupOf 39 = .ok (.iload 4, 2) := by decide +kernel
theorem dX4_groupOf_41 : decode cX4_groupOf 41 = .ok (.iaload, 1) := by decide +kernel
theorem dX4_groupOf_42 : decode cX4_groupOf 42 = .ok (.goto 4, 3) := by decide +kernel
theorem dX4_groupOf_45 : decode cX4_groupOf 45 = .ok (.iconst 0, 1) := by decide +kernel
theorem dX4_groupOf_46 : decode cX4_groupOf 46 = .ok (.ior, 1) := by decide +kernel
theorem dX4_groupOf_47 : decode cX4_groupOf 47 = .ok (.istore_n 2, 1) := by decide +kernel
theorem dX4_groupOf_48 : decode cX4_groupOf 48 = .ok (.iinc 4 1, 3) := by decide +kernel
theorem dX4_groupOf_51 : decode cX4_groupOf 51 = .ok (.goto (-35), 3) := by decide +kernel
theorem dX4_groupOf_54 : decode cX4_groupOf 54 = .ok (.goto (-48), 3) := by decide +kernel
theorem dX4_groupOf_57 : decode cX4_groupOf 57 = .ok (.iload_n 2, 1) := by decide +kernel
theorem dX4_groupOf_58 : decode cX4_groupOf 58 = .ok (.ireturn, 1) := by decide +kernel
set_option maxRecDepth 20000 in
theorem ggX4_link_X4_isCard : GoodIn wsX4_link wsX4_isCard := goodIn_r _ [6, 7, 8, 9, 5, 10, 26, 27, 28, 29, 30, 31, 32, 33, 34] (by decide +kernel) (by decide +kernel)
set_option maxRecDepth 20000 in
theorem gX4_link_X4_isCard : GoodIn wsX4_link (wsV RX4 60 RX4 yX4_isCard wsX4_isCard) := goodIn_app (goodIn_of _ (by decide +kernel)) ggX4_link_X4_isCard
set_option maxRecDepth 20000 in
theorem ggX4_link_X4_has : GoodIn wsX4_link wsX4_has := goodIn_r _ [13] (by decide +kernel) (by decide +kernel)
set_option maxRecDepth 20000 in
theorem gX4_link_X4_has : GoodIn wsX4_link (va_wsS RX4 67 yX4_has wsX4_has) := goodIn_app (goodIn_of _ (by decide +kernel)) ggX4_link_X4_has
set_option maxRecDepth 20000 in
theorem ggX4_link_X4_isFine : GoodIn wsX4_link wsX4_isFine := goodIn_r _ [17, 18, 26, 27, 28, 29, 30, 31, 32, 33, 34] (by decide +kernel) (by decide +kernel)
set_option maxRecDepth 20000 in
theorem gX4_link_X4_isFine : GoodIn wsX4_link (wsV RX4 46 RX4 yX4_isFine wsX4_isFine) := goodIn_app (goodIn_of _ (by decide +kernel)) ggX4_link_X4_isFine
set_option maxRecDepth 20000 in
theorem ggX4_link_X4_groupOf : GoodIn wsX4_link wsX4_groupOf := goodIn_r _ [22, 7, 1, 11, 12, 5, 13, 26, 27, 28, 29, 30, 31, 32, 33, 34] (by decide +kernel) (by decide +kernel)
set_option maxRecDepth 20000 in
theorem gX4_link_X4_groupOf : GoodIn wsX4_link (wsV RX4 86 RX4 yX4_groupOf wsX4_groupOf) := goodIn_app (goodIn_of _ (by decide +kernel)) ggX4_link_X4_groupOf
set_option maxRecDepth 20000 in
theorem ggX4_link_X4_count : GoodIn wsX4_link wsX4_count := goodIn_r _ [25] (by decide +kernel) (by decide +kernel)
set_option maxRecDepth 20000 in
theorem gX4_link_X4_count : GoodIn wsX4_link (va_wsS RX4 89 yX4_count wsX4_count) := goodIn_app (goodIn_of _ (by decide +kernel)) ggX4_link_X4_count
theorem dX4_link_0 : decode cX4_link 0 = .ok (.aload_n 0, 1) := by decide +kernel
theorem dX4_link_1 : decode cX4_link 1 = .ok (.iload_n 1, 1) := by decide +kernel
theorem dX4_link_2 : decode cX4_link 2 = .ok (.invokevirtual 60, 3) := by decide +kernel
theorem dX4_link_5 : decode cX4_link 5 = .ok (.ifCond .eq 15, 3) := by decide +kernel
theorem dX4_link_8 : decode cX4_link 8 = .ok (.aload_n 0, 1) := by decide +kernel
theorem dX4_link_9 : decode cX4_link 9 = .ok (.iload_n 2, 1) := by decide +kernel
theorem dX4_link_10 : decode cX4_link 10 = .ok (.invokevirtual 60, 3) := by decide +kernel
theorem dX4_link_13 : decode cX4_link 13 = .ok (.ifCond .eq 7, 3) := by decide +kernel
theorem dX4_link_16 : decode cX4_link 16 = .ok (.iconst 1, 1) := by decide +kernel
theorem dX4_link_17 : decode cX4_link 17 = .ok (.goto 4, 3) := by decide +kernel
theorem dX4_link_20 : decode cX4_link 20 = .ok (.iconst 0, 1) := by decide +kernel
theorem dX4_link_21 : decode cX4_link 21 = .ok (.istore_n 3, 1) := by decide +kernel
theorem dX4_link_22 : decode cX4_link 22 = .ok (.aload_n 0, 1) := by decide +kernel
theorem dX4_link_23 : decode cX4_link 23 = .ok (.iload_n 3, 1) := by decide +kernel
theorem dX4_link_24 : decode cX4_link 24 = .ok (.ifCond .ne 7, 3) := by decide +kernel
theorem dX4_link_27 : decode cX4_link 27 = .ok (.iconst 1, 1) := by decide +kernel
theorem dX4_link_28 : decode cX4_link 28 = .ok (.goto 30, 3) := by decide +kernel
theorem dX4_link_31 : decode cX4_link 31 = .ok (.iload_n 1, 1) := by decide +kernel
theorem dX4_link_32 : decode cX4_link 32 = .ok (.iload_n 2, 1) := by decide +kernel
theorem dX4_link_33 : decode cX4_link 33 = .ok (.if_icmp .ne 7, 3) := by decide +kernel
theorem dX4_link_36 : decode cX4_link 36 = .ok (.iconst 2, 1) := by decide +kernel
theorem dX4_link_37 : decode cX4_link 37 = .ok (.goto 21, 3) := by decide +kernel
theorem dX4_link_40 : decode cX4_link 40 = .ok (.aload_n 0, 1) := by decide +kernel
theorem dX4_link_41 : decode cX4_link 41 = .ok (.getfield 19, 3) := by decide +kernel
theorem dX4_link_44 : decode cX4_link 44 = .ok (.iload_n 1, 1) := by decide +kernel
theorem dX4_link_45 : decode cX4_link 45 = .ok (.iaload, 1) := by decide +kernel
theorem dX4_link_46 : decode cX4_link 46 = .ok (.iload_n 2, 1) := by decide +kernel
theorem dX4_link_47 : decode cX4_link 47 = .ok (.invokestatic 67, 3) := by decide +kernel
theorem dX4_link_50 : decode cX4_link 50 = .ok (.ifCond .eq 7, 3) := by decide +kernel
theorem dX4_link_53 : decode cX4_link 53 = .ok (.iconst 3, 1) := by decide +kernel
theorem dX4_link_54 : decode cX4_link 54 = .ok (.goto 4, 3) := by decide +kernel
theorem dX4_link_57 : decode cX4_link 57 = .ok (.iconst 0, 1) := by decide +kernel
theorem dX4_link_58 : decode cX4_link 58 = .ok (.invokevirtual 46, 3) := by decide +kernel
theorem dX4_link_61 : decode cX4_link 61 = .ok (.ifCond .ne 5, 3) := by decide +kernel
theorem dX4_link_64 : decode cX4_link 64 = .ok (.iconst 0, 1) := by decide +kernel
theorem dX4_link_65 : decode cX4_link 65 = .ok (.ireturn, 1) := by decide +kernel
theorem dX4_link_66 : decode cX4_link 66 = .ok (.aload_n 0, 1) := by decide +kernel
theorem dX4_link_67 : decode cX4_link 67 = .ok (.getfield 19, 3) := by decide +kernel
theorem dX4_link_70 : decode cX4_link 70 = .ok (.iload_n 1, 1) := by decide +kernel
theorem dX4_link_71 : decode cX4_link 71 = .ok (.dup2, 1) := by decide +kernel
theorem dX4_link_72 : decode cX4_link 72 = .ok (.iaload, 1) := by decide +kernel
theorem dX4_link_73 : decode cX4_link 73 = .ok (.iconst 1, 1) := by decide +kernel
theorem dX4_link_74 : decode cX4_link 74 = .ok (.iload_n 2, 1) := by decide +kernel
theorem dX4_link_75 : decode cX4_link 75 = .ok (.ishl, 1) := by decide +kernel
theorem dX4_link_76 : decode cX4_link 76 = .ok (.ior, 1) := by decide +kernel
theorem dX4_link_77 : decode cX4_link 77 = .ok (.iastore, 1) := by decide +kernel
theorem dX4_link_78 : decode cX4_link 78 = .ok (.aload_n 0, 1) := by decide +kernel
theorem dX4_link_79 : decode cX4_link 79 = .ok (.getfield 19, 3) := by decide +kernel
theorem dX4_link_82 : decode cX4_link 82 = .ok (.iload_n 2, 1) := by decide +kernel
theorem dX4_link_83 : decode cX4_link 83 = .ok (.dup2, 1) := by decide +kernel
theorem dX4_link_84 : decode cX4_link 84 = .ok (.iaload, 1) := by decide +kernel
theorem dX4_link_85 : decode cX4_link 85 = .ok (.iconst 1, 1) := by decide +kernel
theorem dX4_link_86 : decode cX4_link 86 = .ok (.iload_n 1, 1) := by decide +kernel
theorem dX4_link_87 : decode cX4_link 87 = .ok (.ishl, 1) := by decide +kernel
theorem dX4_link_88 : decode cX4_link 88 = .ok (.ior, 1) := by decide +kernel
theorem dX4_link_89 : decode cX4_link 89 = .ok (.iastore, 1) := by decide +kernel
theorem dX4_link_90 : decode cX4_link 90 = .ok (.aload_n 0, 1) := by decide +kernel
theorem dX4_link_91 : decode cX4_link 91 = .ok (.iload_n 1, 1) := by decide +kernel
theorem dX4_link_92 : decode cX4_link 92 = .ok (.invokevirtual 86, 3) := by decide +kernel
theorem dX4_link_95 : decode cX4_link 95 = .ok (.invokestatic 89, 3) := by decide +kernel
theorem dX4_link_98 : decode cX4_link 98 = .ok (.ireturn, 1) := by decide +kernel
set_option maxRecDepth 20000 in
theorem ggX4_cut_X4_isCard : GoodIn wsX4_cut wsX4_isCard := goodIn_r _ [6, 7, 8, 9, 5, 10, 23, 24, 25, 26, 27, 28, 29, 30, 31] (by decide +kernel) (by decide +kernel)
set_option maxRecDepth 20000 in
theorem gX4_cut_X4_isCard : GoodIn wsX4_cut (wsV RX4 60 RX4 yX4_isCard wsX4_isCard) := goodIn_app (goodIn_of _ (by decide +kernel)) ggX4_cut_X4_isCard
set_option maxRecDepth 20000 in
theorem ggX4_cut_X4_has : GoodIn wsX4_cut wsX4_has := goodIn_r _ [13] (by decide +kernel) (by decide +kernel)
set_option maxRecDepth 20000 in
theorem gX4_cut_X4_has : GoodIn wsX4_cut (va_wsS RX4 67 yX4_has wsX4_has) := goodIn_app (goodIn_of _ (by decide +kernel)) ggX4_cut_X4_has
set_option maxRecDepth 20000 in
theorem ggX4_cut_X4_isFine : GoodIn wsX4_cut wsX4_isFine := goodIn_r _ [17, 18, 23, 24, 25, 26, 27, 28, 29, 30, 31] (by decide +kernel) (by decide +kernel)
set_option maxRecDepth 20000 in
theorem gX4_cut_X4_isFine : GoodIn wsX4_cut (wsV RX4 46 RX4 yX4_isFine wsX4_isFine) := goodIn_app (goodIn_of _ (by decide +kernel)) ggX4_cut_X4_isFine
set_option maxRecDepth 20000 in
theorem ggX4_cut_X4_groupOf : GoodIn wsX4_cut wsX4_groupOf := goodIn_r _ [22, 7, 1, 11, 12, 5, 13, 23, 24, 25, 26, 27, 28, 29, 30, 31] (by decide +kernel) (by decide +kernel)
set_option maxRecDepth 20000 in
theorem gX4_cut_X4_groupOf : GoodIn wsX4_cut (wsV RX4 86 RX4 yX4_groupOf wsX4_groupOf) := goodIn_app (goodIn_of _ (by decide +kernel)) ggX4_cut_X4_groupOf
theorem dX4_cut_0 : decode cX4_cut 0 = .ok (.aload_n 0, 1) := by decide +kernel
theorem dX4_cut_1 : decode cX4_cut 1 = .ok (.iload_n 1, 1) := by decide +kernel
theorem dX4_cut_2 : decode cX4_cut 2 = .ok (.invokevirtual 60, 3) := by decide +kernel
theorem dX4_cut_5 : decode cX4_cut 5 = .ok (.ifCond .eq 15, 3) := by decide +kernel
theorem dX4_cut_8 : decode cX4_cut 8 = .ok (.aload_n 0, 1) := by decide +kernel
theorem dX4_cut_9 : decode cX4_cut 9 = .ok (.iload_n 2, 1) := by decide +kernel
theorem dX4_cut_10 : decode cX4_cut 10 = .ok (.invokevirtual 60, 3) := by decide +kernel
theorem dX4_cut_13 : decode cX4_cut 13 = .ok (.ifCond .eq 7, 3) := by decide +kernel
theorem dX4_cut_16 : decode cX4_cut 16 = .ok (.iconst 1, 1) := by decide +kernel
theorem dX4_cut_17 : decode cX4_cut 17 = .ok (.goto 4, 3) := by decide +kernel
theorem dX4_cut_20 : decode cX4_cut 20 = .ok (.iconst 0, 1) := by decide +kernel
theorem dX4_cut_21 : decode cX4_cut 21 = .ok (.istore_n 3, 1) := by decide +kernel
theorem dX4_cut_22 : decode cX4_cut 22 = .ok (.aload_n 0, 1) := by decide +kernel
theorem dX4_cut_23 : decode cX4_cut 23 = .ok (.iload_n 3, 1) := by decide +kernel
theorem dX4_cut_24 : decode cX4_cut 24 = .ok (.ifCond .ne 7, 3) := by decide +kernel
theorem dX4_cut_27 : decode cX4_cut 27 = .ok (.iconst 1, 1) := by decide +kernel
theorem dX4_cut_28 : decode cX4_cut 28 = .ok (.goto 21, 3) := by decide +kernel
theorem dX4_cut_31 : decode cX4_cut 31 = .ok (.aload_n 0, 1) := by decide +kernel
theorem dX4_cut_32 : decode cX4_cut 32 = .ok (.getfield 19, 3) := by decide +kernel
theorem dX4_cut_35 : decode cX4_cut 35 = .ok (.iload_n 1, 1) := by decide +kernel
theorem dX4_cut_36 : decode cX4_cut 36 = .ok (.iaload, 1) := by decide +kernel
theorem dX4_cut_37 : decode cX4_cut 37 = .ok (.iload_n 2, 1) := by decide +kernel
theorem dX4_cut_38 : decode cX4_cut 38 = .ok (.invokestatic 67, 3) := by decide +kernel
theorem dX4_cut_41 : decode cX4_cut 41 = .ok (.ifCond .ne 7, 3) := by decide +kernel
theorem dX4_cut_44 : decode cX4_cut 44 = .ok (.iconst 2, 1) := by decide +kernel
theorem dX4_cut_45 : decode cX4_cut 45 = .ok (.goto 4, 3) := by decide +kernel
theorem dX4_cut_48 : decode cX4_cut 48 = .ok (.iconst 0, 1) := by decide +kernel
theorem dX4_cut_49 : decode cX4_cut 49 = .ok (.invokevirtual 46, 3) := by decide +kernel
theorem dX4_cut_52 : decode cX4_cut 52 = .ok (.ifCond .ne 5, 3) := by decide +kernel
theorem dX4_cut_55 : decode cX4_cut 55 = .ok (.iconst 0, 1) := by decide +kernel
theorem dX4_cut_56 : decode cX4_cut 56 = .ok (.ireturn, 1) := by decide +kernel
theorem dX4_cut_57 : decode cX4_cut 57 = .ok (.aload_n 0, 1) := by decide +kernel
theorem dX4_cut_58 : decode cX4_cut 58 = .ok (.getfield 19, 3) := by decide +kernel
theorem dX4_cut_61 : decode cX4_cut 61 = .ok (.iload_n 1, 1) := by decide +kernel
theorem dX4_cut_62 : decode cX4_cut 62 = .ok (.dup2, 1) := by decide +kernel
theorem dX4_cut_63 : decode cX4_cut 63 = .ok (.iaload, 1) := by decide +kernel
theorem dX4_cut_64 : decode cX4_cut 64 = .ok (.iconst 1, 1) := by decide +kernel
theorem dX4_cut_65 : decode cX4_cut 65 = .ok (.iload_n 2, 1) := by decide +kernel
theorem dX4_cut_66 : decode cX4_cut 66 = .ok (.ishl, 1) := by decide +kernel
theorem dX4_cut_67 : decode cX4_cut 67 = .ok (.iconst (-1), 1) := by decide +kernel
theorem dX4_cut_68 : decode cX4_cut 68 = .ok (.ixor, 1) := by decide +kernel
theorem dX4_cut_69 : decode cX4_cut 69 = .ok (.iand, 1) := by decide +kernel
theorem dX4_cut_70 : decode cX4_cut 70 = .ok (.iastore, 1) := by decide +kernel
theorem dX4_cut_71 : decode cX4_cut 71 = .ok (.aload_n 0, 1) := by decide +kernel
theorem dX4_cut_72 : decode cX4_cut 72 = .ok (.getfield 19, 3) := by decide +kernel
theorem dX4_cut_75 : decode cX4_cut 75 = .ok (.iload_n 2, 1) := by decide +kernel
theorem dX4_cut_76 : decode cX4_cut 76 = .ok (.dup2, 1) := by decide +kernel
theorem dX4_cut_77 : decode cX4_cut 77 = .ok (.iaload, 1) := by decide +kernel
theorem dX4_cut_78 : decode cX4_cut 78 = .ok (.iconst 1, 1) := by decide +kernel
theorem dX4_cut_79 : decode cX4_cut 79 = .ok (.iload_n 1, 1) := by decide +kernel
theorem dX4_cut_80 : decode cX4_cut 80 = .ok (.ishl, 1) := by decide +kernel
theorem dX4_cut_81 : decode cX4_cut 81 = .ok (.iconst (-1), 1) := by decide +kernel
theorem dX4_cut_82 : decode cX4_cut 82 = .ok (.ixor, 1) := by decide +kernel
theorem dX4_cut_83 : decode cX4_cut 83 = .ok (.iand, 1) := by decide +kernel
theorem dX4_cut_84 : decode cX4_cut 84 = .ok (.iastore, 1) := by decide +kernel
theorem dX4_cut_85 : decode cX4_cut 85 = .ok (.aload_n 0, 1) := by decide +kernel
theorem dX4_cut_86 : decode cX4_cut 86 = .ok (.iload_n 1, 1) := by decide +kernel
theorem dX4_cut_87 : decode cX4_cut 87 = .ok (.invokevirtual 86, 3) := by decide +kernel
theorem dX4_cut_90 : decode cX4_cut 90 = .ok (.iload_n 2, 1) := by decide +kernel
theorem dX4_cut_91 : decode cX4_cut 91 = .ok (.invokestatic 67, 3) := by decide +kernel
theorem dX4_cut_94 : decode cX4_cut 94 = .ok (.ireturn, 1) := by decide +kernel
set_option maxRecDepth 20000 in
theorem ggX4_group_X4_isCard : GoodIn wsX4_group wsX4_isCard := goodIn_r _ [5, 6, 7, 8, 4, 9, 23, 24, 25, 26, 27, 28, 29, 30, 31] (by decide +kernel) (by decide +kernel)
set_option maxRecDepth 20000 in
theorem gX4_group_X4_isCard : GoodIn wsX4_group (wsV RX4 60 RX4 yX4_isCard wsX4_isCard) := goodIn_app (goodIn_of _ (by decide +kernel)) ggX4_group_X4_isCard
set_option maxRecDepth 20000 in
theorem ggX4_group_X4_isFine : GoodIn wsX4_group wsX4_isFine := goodIn_r _ [13, 14, 23, 24, 25, 26, 27, 28, 29, 30, 31] (by decide +kernel) (by decide +kernel)
set_option maxRecDepth 20000 in
theorem gX4_group_X4_isFine : GoodIn wsX4_group (wsV RX4 46 RX4 yX4_isFine wsX4_isFine) := goodIn_app (goodIn_of _ (by decide +kernel)) ggX4_group_X4_isFine
set_option maxRecDepth 20000 in
theorem ggX4_group_X4_groupOf : GoodIn wsX4_group wsX4_groupOf := goodIn_r _ [18, 6, 19, 20, 21, 4, 22, 23, 24, 25, 26, 27, 28, 29, 30, 31] (by decide +kernel) (by decide +kernel)
set_option maxRecDepth 20000 in
theorem gX4_group_X4_groupOf : GoodIn wsX4_group (wsV RX4 86 RX4 yX4_groupOf wsX4_groupOf) := goodIn_app (goodIn_of _ (by decide +kernel)) ggX4_group_X4_groupOf
theorem dX4_group_0 : decode cX4_group 0 = .ok (.aload_n 0, 1) := by decide +kernel
theorem dX4_group_1 : decode cX4_group 1 = .ok (.aload_n 0, 1) := by decide +kernel
theorem dX4_group_2 : decode cX4_group 2 = .ok (.iload_n 1, 1) := by decide +kernel
theorem dX4_group_3 : decode cX4_group 3 = .ok (.invokevirtual 60, 3) := by decide +kernel
theorem dX4_group_6 : decode cX4_group 6 = .ok (.ifCond .eq 7, 3) := by decide +kernel
theorem dX4_group_9 : decode cX4_group 9 = .ok (.iconst 0, 1) := by decide +kernel
theorem dX4_group_10 : decode cX4_group 10 = .ok (.goto 4, 3) := by decide +kernel
theorem dX4_group_13 : decode cX4_group 13 = .ok (.iconst 1, 1) := by decide +kernel
theorem dX4_group_14 : decode cX4_group 14 = .ok (.invokevirtual 46, 3) := by decide +kernel
theorem dX4_group_17 : decode cX4_group 17 = .ok (.ifCond .eq 11, 3) := by decide +kernel
theorem dX4_group_20 : decode cX4_group 20 = .ok (.aload_n 0, 1) := by decide +kernel
theorem dX4_group_21 : decode cX4_group 21 = .ok (.iload_n 1, 1) := by decide +kernel
theorem dX4_group_22 : decode cX4_group 22 = .ok (.invokevirtual 86, 3) := by decide +kernel
theorem dX4_group_25 : decode cX4_group 25 = .ok (.goto 4, 3) := by decide +kernel
theorem dX4_group_28 : decode cX4_group 28 = .ok (.iconst 0, 1) := by decide +kernel
theorem dX4_group_29 : decode cX4_group 29 = .ok (.ireturn, 1) := by decide +kernel
set_option maxRecDepth 20000 in
theorem ggX4_groups_X4_groupOf : GoodIn wsX4_groups wsX4_groupOf := goodIn_r _ [7, 2, 8, 9, 10, 6, 11, 12, 13, 14, 15, 16, 17, 18, 19, 20] (by decide +kernel) (by decide +kernel)
set_option maxRecDepth 20000 in
theorem gX4_groups_X4_groupOf : GoodIn wsX4_groups (wsV RX4 86 RX4 yX4_groupOf wsX4_groupOf) := goodIn_app (goodIn_of _ (by decide +kernel)) ggX4_groups_X4_groupOf
theorem dX4_groups_0 : decode cX4_groups 0 = .ok (.aload_n 0, 1) := by decide +kernel
theorem dX4_groups_1 : decode cX4_groups 1 = .ok (.iconst 0, 1) := by decide +kernel
theorem dX4_groups_2 : decode cX4_groups 2 = .ok (.putfield 31, 3) := by decide +kernel
theorem dX4_groups_5 : decode cX4_groups 5 = .ok (.iconst 0, 1) := by decide +kernel
theorem dX4_groups_6 : decode cX4_groups 6 = .ok (.istore_n 1, 1) := by decide +kernel
theorem dX4_groups_7 : decode cX4_groups 7 = .ok (.iconst 0, 1) := by decide +kernel
theorem dX4_groups_8 : decode cX4_groups 8 = .ok (.istore_n 2, 1) := by decide +kernel
theorem dX4_groups_9 : decode cX4_groups 9 = .ok (.iload_n 2, 1) := by decide +kernel
theorem dX4_groups_10 : decode cX4_groups 10 = .ok (.aload_n 0, 1) := by decide +kernel
theorem dX4_groups_11 : decode cX4_groups 11 = .ok (.getfield 35, 3) := by decide +kernel
theorem dX4_groups_14 : decode cX4_groups 14 = .ok (.if_icmp .ge 31, 3) := by decide +kernel
theorem dX4_groups_17 : decode cX4_groups 17 = .ok (.iload_n 1, 1) := by decide +kernel
theorem dX4_groups_18 : decode cX4_groups 18 = .ok (.aload_n 0, 1) := by decide +kernel
theorem dX4_groups_19 : decode cX4_groups 19 = .ok (.iload_n 2, 1) := by decide +kernel
theorem dX4_groups_20 : decode cX4_groups 20 = .ok (.invokevirtual 86, 3) := by decide +kernel
theorem dX4_groups_23 : decode cX4_groups 23 = .ok (.iconst 1, 1) := by decide +kernel
theorem dX4_groups_24 : decode cX4_groups 24 = .ok (.iload_n 2, 1) := by decide +kernel
theorem dX4_groups_25 : decode cX4_groups 25 = .ok (.ishl, 1) := by decide +kernel
theorem dX4_groups_26 : decode cX4_groups 26 = .ok (.iconst 1, 1) := by decide +kernel
theorem dX4_groups_27 : decode cX4_groups 27 = .ok (.isub, 1) := by decide +kernel
theorem dX4_groups_28 : decode cX4_groups 28 = .ok (.iand, 1) := by decide +kernel
theorem dX4_groups_29 : decode cX4_groups 29 = .ok (.ifCond .ne 7, 3) := by decide +kernel
theorem dX4_groups_32 : decode cX4_groups 32 = .ok (.iconst 1, 1) := by decide +kernel
theorem dX4_groups_33 : decode cX4_groups 33 = .ok (.goto 4, 3) := by decide +kernel
theorem dX4_groups_36 : decode cX4_groups 36 = .ok (.iconst 0, 1) := by decide +kernel
theorem dX4_groups_37 : decode cX4_groups 37 = .ok (.iadd, 1) := by decide +kernel
theorem dX4_groups_38 : decode cX4_groups 38 = .ok (.istore_n 1, 1) := by decide +kernel
theorem dX4_groups_39 : decode cX4_groups 39 = .ok (.iinc 2 1, 3) := by decide +kernel
theorem dX4_groups_42 : decode cX4_groups 42 = .ok (.goto (-33), 3) := by decide +kernel
theorem dX4_groups_45 : decode cX4_groups 45 = .ok (.iload_n 1, 1) := by decide +kernel
theorem dX4_groups_46 : decode cX4_groups 46 = .ok (.ireturn, 1) := by decide +kernel
set_option maxRecDepth 20000 in
theorem ggX4_preferredOf_X4_groupOf : GoodIn wsX4_preferredOf wsX4_groupOf := goodIn_r _ [7, 1, 8, 9, 10, 6, 11, 12, 13, 14, 15, 16, 17, 18, 19, 20] (by decide +kernel) (by decide +kernel)
set_option maxRecDepth 20000 in
theorem gX4_preferredOf_X4_groupOf : GoodIn wsX4_preferredOf (wsV RX4 86 RX4 yX4_groupOf wsX4_groupOf) := goodIn_app (goodIn_of _ (by decide +kernel)) ggX4_preferredOf_X4_groupOf
set_option maxRecDepth 20000 in
theorem ggX4_preferredOf_X4_has : GoodIn wsX4_preferredOf wsX4_has := goodIn_r _ [11] (by decide +kernel) (by decide +kernel)
set_option maxRecDepth 20000 in
theorem gX4_preferredOf_X4_has : GoodIn wsX4_preferredOf (va_wsS RX4 67 yX4_has wsX4_has) := goodIn_app (goodIn_of _ (by decide +kernel)) ggX4_preferredOf_X4_has
theorem dX4_preferredOf_0 : decode cX4_preferredOf 0 = .ok (.aload_n 0, 1) := by decide +kernel
theorem dX4_preferredOf_1 : decode cX4_preferredOf 1 = .ok (.iload_n 1, 1) := by decide +kernel
theorem dX4_preferredOf_2 : decode cX4_preferredOf 2 = .ok (.invokevirtual 86, 3) := by decide +kernel
theorem dX4_preferredOf_5 : decode cX4_preferredOf 5 = .ok (.istore_n 2, 1) := by decide +kernel
theorem dX4_preferredOf_6 : decode cX4_preferredOf 6 = .ok (.iload_n 1, 1) := by decide +kernel
theorem dX4_preferredOf_7 : decode cX4_preferredOf 7 = .ok (.istore_n 3, 1) := by decide +kernel
theorem dX4_preferredOf_8 : decode cX4_preferredOf 8 = .ok (.iconst 0, 1) := by decide +kernel
theorem dX4_preferredOf_9 : decode cX4_preferredOf 9 = .ok (.istore 4, 2) := by decide +kernel
theorem dX4_preferredOf_11 : decode cX4_preferredOf 11 = .ok (.iload 4, 2) := by decide +kernel
theorem dX4_preferredOf_13 : decode cX4_preferredOf 13 = .ok (.aload_n 0, 1) := by decide +kernel
theorem dX4_preferredOf_14 : decode cX4_preferredOf 14 = .ok (.getfield 35, 3) := by decide +kernel
theorem dX4_preferredOf_17 : decode cX4_preferredOf 17 = .ok (.if_icmp .ge 75, 3) := by decide +kernel
theorem dX4_preferredOf_20 : decode cX4_preferredOf 20 = .ok (.aload_n 0, 1) := by decide +kernel
theorem dX4_preferredOf_21 : decode cX4_preferredOf 21 = .ok (.getfield 7, 3) := by decide +kernel
theorem dX4_preferredOf_24 : decode cX4_preferredOf 24 = .ok (.iload 4, 2) := by decide +kernel
theorem dX4_preferredOf_26 : decode cX4_preferredOf 26 = .ok (.iaload, 1) := by decide +kernel
theorem dX4_preferredOf_27 : decode cX4_preferredOf 27 = .ok (.aload_n 0, 1) := by decide +kernel
theorem dX4_preferredOf_28 : decode cX4_preferredOf 28 = .ok (.getfield 7, 3) := by decide +kernel
theorem dX4_preferredOf_31 : decode cX4_preferredOf 31 = .ok (.iload_n 3, 1) := by decide +kernel
theorem dX4_preferredOf_32 : decode cX4_preferredOf 32 = .ok (.iaload, 1) := by decide +kernel
theorem dX4_preferredOf_33 : decode cX4_preferredOf 33 = .ok (.if_icmp .lt 25, 3) := by decide +kernel
theorem dX4_preferredOf_36 : decode cX4_preferredOf 36 = .ok (.aload_n 0, 1) := by decide +kernel
theorem dX4_preferredOf_37 : decode cX4_preferredOf 37 = .ok (.getfield 7, 3) := by decide +kernel
theorem dX4_preferredOf_40 : decode cX4_preferredOf 40 = .ok (.iload 4, 2) := by decide +kernel
theorem dX4_preferredOf_42 : decode cX4_preferredOf 42 = .ok (.iaload, 1) := by decide +kernel
theorem dX4_preferredOf_43 : decode cX4_preferredOf 43 = .ok (.aload_n 0, 1) := by decide +kernel
theorem dX4_preferredOf_44 : decode cX4_preferredOf 44 = .ok (.getfield 7, 3) := by decide +kernel
theorem dX4_preferredOf_47 : decode cX4_preferredOf 47 = .ok (.iload_n 3, 1) := by decide +kernel
theorem dX4_preferredOf_48 : decode cX4_preferredOf 48 = .ok (.iaload, 1) := by decide +kernel
theorem dX4_preferredOf_49 : decode cX4_preferredOf 49 = .ok (.if_icmp .ne 13, 3) := by decide +kernel
theorem dX4_preferredOf_52 : decode cX4_preferredOf 52 = .ok (.iload 4, 2) := by decide +kernel
theorem dX4_preferredOf_54 : decode cX4_preferredOf 54 = .ok (.iload_n 3, 1) := by decide +kernel
theorem dX4_preferredOf_55 : decode cX4_preferredOf 55 = .ok (.if_icmp .ge 7, 3) := by decide +kernel
theorem dX4_preferredOf_58 : decode cX4_preferredOf 58 = .ok (.iconst 1, 1) := by decide +kernel
theorem dX4_preferredOf_59 : decode cX4_preferredOf 59 = .ok (.goto 4, 3) := by decide +kernel
theorem dX4_preferredOf_62 : decode cX4_preferredOf 62 = .ok (.iconst 0, 1) := by decide +kernel
theorem dX4_preferredOf_63 : decode cX4_preferredOf 63 = .ok (.istore 5, 2) := by decide +kernel
theorem dX4_preferredOf_65 : decode cX4_preferredOf 65 = .ok (.iload_n 2, 1) := by decide +kernel
theorem dX4_preferredOf_66 : decode cX4_preferredOf 66 = .ok (.iload 4, 2) := by decide +kernel
theorem dX4_preferredOf_68 : decode cX4_preferredOf 68 = .ok (.invokestatic 67, 3) := by decide +kernel
theorem dX4_preferredOf_71 : decode cX4_preferredOf 71 = .ok (.ifCond .eq 13, 3) := by decide +kernel
theorem dX4_preferredOf_74 : decode cX4_preferredOf 74 = .ok (.iload 5, 2) := by decide +kernel
theorem dX4_preferredOf_76 : decode cX4_preferredOf 76 = .ok (.ifCond .eq 8, 3) := by decide +kernel
theorem dX4_preferredOf_79 : decode cX4_preferredOf 79 = .ok (.iload 4, 2) := by decide +kernel
theorem dX4_preferredOf_81 : decode cX4_preferredOf 81 = .ok (.goto 4, 3) := by decide +kernel
theorem dX4_preferredOf_84 : decode cX4_preferredOf 84 = .ok (.iload_n 3, 1) := by decide +kernel
theorem dX4_preferredOf_85 : decode cX4_preferredOf 85 = .ok (.istore_n 3, 1) := by decide +kernel
theorem dX4_preferredOf_86 : decode cX4_preferredOf 86 = .ok (.iinc 4 1, 3) := by decide +kernel
theorem dX4_preferredOf_89 : decode cX4_preferredOf 89 = .ok (.goto (-78), 3) := by decide +kernel
theorem dX4_preferredOf_92 : decode cX4_preferredOf 92 = .ok (.iload_n 3, 1) := by decide +kernel
theorem dX4_preferredOf_93 : decode cX4_preferredOf 93 = .ok (.ireturn, 1) := by decide +kernel
set_option maxRecDepth 20000 in
theorem ggX4_preferred_X4_isCard : GoodIn wsX4_preferred wsX4_isCard := goodIn_r _ [5, 6, 7, 8, 4, 9, 28, 29, 30, 31, 32, 33, 34, 35, 36] (by decide +kernel) (by decide +kernel)
set_option maxRecDepth 20000 in
theorem gX4_preferred_X4_isCard : GoodIn wsX4_preferred (wsV RX4 60 RX4 yX4_isCard wsX4_isCard) := goodIn_app (goodIn_of _ (by decide +kernel)) ggX4_preferred_X4_isCard
set_option maxRecDepth 20000 in
theorem ggX4_preferred_X4_isFine : GoodIn wsX4_preferred wsX4_isFine := goodIn_r _ [13, 14, 28, 29, 30, 31, 32, 33, 34, 35, 36] (by decide +kernel) (by decide +kernel)
set_option maxRecDepth 20000 in
theorem gX4_preferred_X4_isFine : GoodIn wsX4_preferred (wsV RX4 46 RX4 yX4_isFine wsX4_isFine) := goodIn_app (goodIn_of _ (by decide +kernel)) ggX4_preferred_X4_isFine
set_option maxRecDepth 20000 in
theorem ggX4_preferred_X4_preferredOf : GoodIn wsX4_preferred wsX4_preferredOf := goodIn_r _ [18, 6, 19, 20, 21, 22, 4, 23, 24, 25, 26, 27, 28, 29, 30, 31, 32, 33, 34, 35, 36] (by decide +kernel) (by decide +kernel)
set_option maxRecDepth 20000 in
theorem gX4_preferred_X4_preferredOf : GoodIn wsX4_preferred (wsV RX4 92 RX4 yX4_preferredOf wsX4_preferredOf) := goodIn_app (goodIn_of _ (by decide +kernel)) ggX4_preferred_X4_preferredOf
theorem dX4_preferred_0 : decode cX4_preferred 0 = .ok (.aload_n 0, 1) := by decide +kernel
theorem dX4_preferred_1 : decode cX4_preferred 1 = .ok (.aload_n 0, 1) := by decide +kernel
theorem dX4_preferred_2 : decode cX4_preferred 2 = .ok (.iload_n 1, 1) := by decide +kernel
theorem dX4_preferred_3 : decode cX4_preferred 3 = .ok (.invokevirtual 60, 3) := by decide +kernel
theorem dX4_preferred_6 : decode cX4_preferred 6 = .ok (.ifCond .eq 7, 3) := by decide +kernel
theorem dX4_preferred_9 : decode cX4_preferred 9 = .ok (.iconst 0, 1) := by decide +kernel
theorem dX4_preferred_10 : decode cX4_preferred 10 = .ok (.goto 4, 3) := by decide +kernel
theorem dX4_preferred_13 : decode cX4_preferred 13 = .ok (.iconst 1, 1) := by decide +kernel
theorem dX4_preferred_14 : decode cX4_preferred 14 = .ok (.invokevirtual 46, 3) := by decide +kernel
theorem dX4_preferred_17 : decode cX4_preferred 17 = .ok (.ifCond .eq 11, 3) := by decide +kernel
theorem dX4_preferred_20 : decode cX4_preferred 20 = .ok (.aload_n 0, 1) := by decide +kernel
theorem dX4_preferred_21 : decode cX4_preferred 21 = .ok (.iload_n 1, 1) := by decide +kernel
theorem dX4_preferred_22 : decode cX4_preferred 22 = .ok (.invokevirtual 92, 3) := by decide +kernel
theorem dX4_preferred_25 : decode cX4_preferred 25 = .ok (.goto 4, 3) := by decide +kernel
theorem dX4_preferred_28 : decode cX4_preferred 28 = .ok (.iconst 0, 1) := by decide +kernel
theorem dX4_preferred_29 : decode cX4_preferred 29 = .ok (.ireturn, 1) := by decide +kernel
set_option maxRecDepth 20000 in
theorem ggX4_shownOf_X4_groupOf : GoodIn wsX4_shownOf wsX4_groupOf := goodIn_r _ [7, 1, 8, 9, 10, 6, 11, 15, 16, 17, 18, 19, 20, 21, 22, 23] (by decide +kernel) (by decide +kernel)
set_option maxRecDepth 20000 in
theorem gX4_shownOf_X4_groupOf : GoodIn wsX4_shownOf (wsV RX4 86 RX4 yX4_groupOf wsX4_groupOf) := goodIn_app (goodIn_of _ (by decide +kernel)) ggX4_shownOf_X4_groupOf
set_option maxRecDepth 20000 in
theorem ggX4_shownOf_X4_has : GoodIn wsX4_shownOf wsX4_has := goodIn_r _ [11] (by decide +kernel) (by decide +kernel)
set_option maxRecDepth 20000 in
theorem gX4_shownOf_X4_has : GoodIn wsX4_shownOf (va_wsS RX4 67 yX4_has wsX4_has) := goodIn_app (goodIn_of _ (by decide +kernel)) ggX4_shownOf_X4_has
set_option maxRecDepth 20000 in
theorem ggX4_shownOf_X4_at : GoodIn wsX4_shownOf wsX4_at := goodIn_r _ [14] (by decide +kernel) (by decide +kernel)
set_option maxRecDepth 20000 in
theorem gX4_shownOf_X4_at : GoodIn wsX4_shownOf (va_wsS RX4 49 yX4_at wsX4_at) := goodIn_app (goodIn_of _ (by decide +kernel)) ggX4_shownOf_X4_at
theorem dX4_shownOf_0 : decode cX4_shownOf 0 = .ok (.aload_n 0, 1) := by decide +kernel
theorem dX4_shownOf_1 : decode cX4_shownOf 1 = .ok (.iload_n 1, 1) := by decide +kernel
theorem dX4_shownOf_2 : decode cX4_shownOf 2 = .ok (.invokevirtual 86, 3) := by decide +kernel
theorem dX4_shownOf_5 : decode cX4_shownOf 5 = .ok (.istore_n 3, 1) := by decide +kernel
theorem dX4_shownOf_6 : decode cX4_shownOf 6 = .ok (.iconst 0, 1) := by decide +kernel
theorem dX4_shownOf_7 : decode cX4_shownOf 7 = .ok (.istore 4, 2) := by decide +kernel
theorem dX4_shownOf_9 : decode cX4_shownOf 9 = .ok (.iconst 0, 1) := by decide +kernel
theorem dX4_shownOf_10 : decode cX4_shownOf 10 = .ok (.istore 5, 2) := by decide +kernel
theorem dX4_shownOf_12 : decode cX4_shownOf 12 = .ok (.iload 5, 2) := by decide +kernel
theorem dX4_shownOf_14 : decode cX4_shownOf 14 = .ok (.aload_n 0, 1) := by decide +kernel
theorem dX4_shownOf_15 : decode cX4_shownOf 15 = .ok (.getfield 35, 3) := by decide +kernel
theorem dX4_shownOf_18 : decode cX4_shownOf 18 = .ok (.if_icmp .ge 39, 3) := by decide +kernel
theorem dX4_shownOf_21 : decode cX4_shownOf 21 = .ok (.iload 4, 2) := by decide +kernel
theorem dX4_shownOf_23 : decode cX4_shownOf 23 = .ok (.iload_n 3, 1) := by decide +kernel
theorem dX4_shownOf_24 : decode cX4_shownOf 24 = .ok (.iload 5, 2) := by decide +kernel
theorem dX4_shownOf_26 : decode cX4_shownOf 26 = .ok (.invokestatic 67, 3) := by decide +kernel
theorem dX4_shownOf_29 : decode cX4_shownOf 29 = .ok (.ifCond .eq 18, 3) := by decide +kernel
theorem dX4_shownOf_32 : decode cX4_shownOf 32 = .ok (.aload_n 0, 1) := by decide +kernel
theorem dX4_shownOf_33 : decode cX4_shownOf 33 = .ok (.getfield 16, 3) := by decide +kernel
theorem dX4_shownOf_36 : decode cX4_shownOf 36 = .ok (.iload 5, 2) := by decide +kernel
theorem dX4_shownOf_38 : decode cX4_shownOf 38 = .ok (.iconst 0, 1) := by decide +kernel
theorem dX4_shownOf_39 : decode cX4_shownOf 39 = .ok (.iload_n 2, 1) := by decide +kernel
theorem dX4_shownOf_40 : decode cX4_shownOf 40 = .ok (.invokestatic 49, 3) := by decide +kernel
theorem dX4_shownOf_43 : decode cX4_shownOf 43 = .ok (.iaload, 1) := by decide +kernel
theorem dX4_shownOf_44 : decode cX4_shownOf 44 = .ok (.goto 4, 3) := by decide +kernel
theorem dX4_shownOf_47 : decode cX4_shownOf 47 = .ok (.iconst 0, 1) := by decide +kernel
theorem dX4_shownOf_48 : decode cX4_shownOf 48 = .ok (.ior, 1) := by decide +kernel
theorem dX4_shownOf_49 : decode cX4_shownOf 49 = .ok (.istore 4, 2) := by decide +kernel
theorem dX4_shownOf_51 : decode cX4_shownOf 51 = .ok (.iinc 5 1, 3) := by decide +kernel
theorem dX4_shownOf_54 : decode cX4_shownOf 54 = .ok (.goto (-42), 3) := by decide +kernel
theorem dX4_shownOf_57 : decode cX4_shownOf 57 = .ok (.iload 4, 2) := by decide +kernel
theorem dX4_shownOf_59 : decode cX4_shownOf 59 = .ok (.ireturn, 1) := by decide +kernel
set_option maxRecDepth 20000 in
theorem ggX4_shown_X4_isCard : GoodIn wsX4_shown wsX4_isCard := goodIn_r _ [5, 6, 7, 8, 4, 9, 34, 35, 36, 37, 38, 39, 40, 41, 42] (by decide +kernel) (by decide +kernel)
set_option maxRecDepth 20000 in
theorem gX4_shown_X4_isCard : GoodIn wsX4_shown (wsV RX4 60 RX4 yX4_isCard wsX4_isCard) := goodIn_app (goodIn_of _ (by decide +kernel)) ggX4_shown_X4_isCard
set_option maxRecDepth 20000 in
theorem ggX4_shown_X4_isKind : GoodIn wsX4_shown wsX4_isKind := goodIn_r _ [12, 7, 8, 4, 9] (by decide +kernel) (by decide +kernel)
set_option maxRecDepth 20000 in
theorem gX4_shown_X4_isKind : GoodIn wsX4_shown (va_wsS RX4 57 yX4_isKind wsX4_isKind) := goodIn_app (goodIn_of _ (by decide +kernel)) ggX4_shown_X4_isKind
set_option maxRecDepth 20000 in
theorem ggX4_shown_X4_isFine : GoodIn wsX4_shown wsX4_isFine := goodIn_r _ [16, 17, 34, 35, 36, 37, 38, 39, 40, 41, 42] (by decide +kernel) (by decide +kernel)
set_option maxRecDepth 20000 in
theorem gX4_shown_X4_isFine : GoodIn wsX4_shown (wsV RX4 46 RX4 yX4_isFine wsX4_isFine) := goodIn_app (goodIn_of _ (by decide +kernel)) ggX4_shown_X4_isFine
set_option maxRecDepth 20000 in
theorem ggX4_shown_X4_shownOf : GoodIn wsX4_shown wsX4_shownOf := goodIn_r _ [21, 6, 22, 23, 24, 25, 4, 26, 27, 28, 29, 30, 31, 32, 33, 34, 35, 36, 37, 38, 39, 40, 41, 42] (by decide +kernel) (by decide +kernel)
set_option maxRecDepth 20000 in
theorem gX4_shown_X4_shownOf : GoodIn wsX4_shown (wsV RX4 95 RX4 yX4_shownOf wsX4_shownOf) := goodIn_app (goodIn_of _ (by decide +kernel)) ggX4_shown_X4_shownOf
theorem dX4_shown_0 : decode cX4_shown 0 = .ok (.aload_n 0, 1) := by decide +kernel
theorem dX4_shown_1 : decode cX4_shown 1 = .ok (.aload_n 0, 1) := by decide +kernel
theorem dX4_shown_2 : decode cX4_shown 2 = .ok (.iload_n 1, 1) := by decide +kernel
theorem dX4_shown_3 : decode cX4_shown 3 = .ok (.invokevirtual 60, 3) := by decide +kernel
theorem dX4_shown_6 : decode cX4_shown 6 = .ok (.ifCond .ne 7, 3) := by decide +kernel
theorem dX4_shown_9 : decode cX4_shown 9 = .ok (.iconst 1, 1) := by decide +kernel
theorem dX4_shown_10 : decode cX4_shown 10 = .ok (.goto 15, 3) := by decide +kernel
theorem dX4_shown_13 : decode cX4_shown 13 = .ok (.iload_n 2, 1) := by decide +kernel
theorem dX4_shown_14 : decode cX4_shown 14 = .ok (.invokestatic 57, 3) := by decide +kernel
theorem dX4_shown_17 : decode cX4_shown 17 = .ok (.ifCond .ne 7, 3) := by decide +kernel
theorem dX4_shown_20 : decode cX4_shown 20 = .ok (.iconst 2, 1) := by decide +kernel
theorem dX4_shown_21 : decode cX4_shown 21 = .ok (.goto 4, 3) := by decide +kernel
theorem dX4_shown_24 : decode cX4_shown 24 = .ok (.iconst 0, 1) := by decide +kernel
theorem dX4_shown_25 : decode cX4_shown 25 = .ok (.invokevirtual 46, 3) := by decide +kernel
theorem dX4_shown_28 : decode cX4_shown 28 = .ok (.ifCond .eq 12, 3) := by decide +kernel
theorem dX4_shown_31 : decode cX4_shown 31 = .ok (.aload_n 0, 1) := by decide +kernel
theorem dX4_shown_32 : decode cX4_shown 32 = .ok (.iload_n 1, 1) := by decide +kernel
theorem dX4_shown_33 : decode cX4_shown 33 = .ok (.iload_n 2, 1) := by decide +kernel
theorem dX4_shown_34 : decode cX4_shown 34 = .ok (.invokevirtual 95, 3) := by decide +kernel
theorem dX4_shown_37 : decode cX4_shown 37 = .ok (.goto 4, 3) := by decide +kernel
theorem dX4_shown_40 : decode cX4_shown 40 = .ok (.iconst 0, 1) := by decide +kernel
theorem dX4_shown_41 : decode cX4_shown 41 = .ok (.ireturn, 1) := by decide +kernel
set_option maxRecDepth 20000 in
theorem ggX4_edit_X4_isKind : GoodIn wsX4_edit wsX4_isKind := goodIn_r _ [6, 7, 8, 5, 9] (by decide +kernel) (by decide +kernel)
set_option maxRecDepth 20000 in
theorem gX4_edit_X4_isKind : GoodIn wsX4_edit (va_wsS RX4 57 yX4_isKind wsX4_isKind) := goodIn_app (goodIn_of _ (by decide +kernel)) ggX4_edit_X4_isKind
set_option maxRecDepth 20000 in
theorem ggX4_edit_X4_isIn : GoodIn wsX4_edit wsX4_isIn := goodIn_r _ [9] (by decide +kernel) (by decide +kernel)
set_option maxRecDepth 20000 in
theorem gX4_edit_X4_isIn : GoodIn wsX4_edit (va_wsS RX4 38 yX4_isIn wsX4_isIn) := goodIn_app (goodIn_of _ (by decide +kernel)) ggX4_edit_X4_isIn
set_option maxRecDepth 20000 in
theorem ggX4_edit_X4_isCard : GoodIn wsX4_edit wsX4_isCard := goodIn_r _ [13, 2, 7, 8, 5, 9, 48, 49, 50, 51, 52, 53, 54, 55, 56] (by decide +kernel) (by decide +kernel)
set_option maxRecDepth 20000 in
theorem gX4_edit_X4_isCard : GoodIn wsX4_edit (wsV RX4 60 RX4 yX4_isCard wsX4_isCard) := goodIn_app (goodIn_of _ (by decide +kernel)) ggX4_edit_X4_isCard
set_option maxRecDepth 20000 in
theorem ggX4_edit_X4_isFine : GoodIn wsX4_edit wsX4_isFine := goodIn_r _ [17, 18, 48, 49, 50, 51, 52, 53, 54, 55, 56] (by decide +kernel) (by decide +kernel)
set_option maxRecDepth 20000 in
theorem gX4_edit_X4_isFine : GoodIn wsX4_edit (wsV RX4 46 RX4 yX4_isFine wsX4_isFine) := goodIn_app (goodIn_of _ (by decide +kernel)) ggX4_edit_X4_isFine
set_option maxRecDepth 20000 in
theorem ggX4_edit_X4_shownOf : GoodIn wsX4_edit wsX4_shownOf := goodIn_r _ [22, 2, 1, 23, 24, 25, 5, 26, 27, 28, 29, 30, 31, 32, 33, 48, 49, 50, 51, 52, 53, 54, 55, 56] (by decide +kernel) (by decide +kernel)
set_option maxRecDepth 20000 in
theorem gX4_edit_X4_shownOf : GoodIn wsX4_edit (wsV RX4 95 RX4 yX4_shownOf wsX4_shownOf) := goodIn_app (goodIn_of _ (by decide +kernel)) ggX4_edit_X4_shownOf
set_option maxRecDepth 20000 in
theorem ggX4_edit_X4_has : GoodIn wsX4_edit wsX4_has := goodIn_r _ [30] (by decide +kernel) (by decide +kernel)
set_option maxRecDepth 20000 in
theorem gX4_edit_X4_has : GoodIn wsX4_edit (va_wsS RX4 67 yX4_has wsX4_has) := goodIn_app (goodIn_of _ (by decide +kernel)) ggX4_edit_X4_has
set_option maxRecDepth 20000 in
theorem ggX4_edit_X4_preferredOf : GoodIn wsX4_edit wsX4_preferredOf := goodIn_r _ [37, 2, 38, 23, 24, 25, 5, 26, 27, 28, 29, 30, 48, 49, 50, 51, 52, 53, 54, 55, 56] (by decide +kernel) (by decide +kernel)
set_option maxRecDepth 20000 in
theorem gX4_edit_X4_preferredOf : GoodIn wsX4_edit (wsV RX4 92 RX4 yX4_preferredOf wsX4_preferredOf) := goodIn_app (goodIn_of _ (by decide +kernel)) ggX4_edit_X4_preferredOf
set_option maxRecDepth 20000 in
theorem ggX4_edit_X4_at : GoodIn wsX4_edit wsX4_at := goodIn_r _ [33] (by decide +kernel) (by decide +kernel)
set_option maxRecDepth 20000 in
theorem gX4_edit_X4_at : GoodIn wsX4_edit (va_wsS RX4 49 yX4_at wsX4_at) := goodIn_app (goodIn_of _ (by decide +kernel)) ggX4_edit_X4_at
set_option maxRecDepth 20000 in
theorem ggX4_edit_X4_sets : GoodIn wsX4_edit wsX4_sets := goodIn_r _ [42, 1, 31, 32, 5, 33, 43, 44, 45, 46, 47, 2, 48, 49, 50, 51, 52, 53, 54, 55, 56] (by decide +kernel) (by decide +kernel)
set_option maxRecDepth 20000 in
theorem gX4_edit_X4_sets : GoodIn wsX4_edit (wsV RX4 63 RX4 yX4_sets wsX4_sets) := goodIn_app (goodIn_of _ (by decide +kernel)) ggX4_edit_X4_sets
set_option maxRecDepth 20000 in
theorem ggX4_edit_X4_groupOf : GoodIn wsX4_edit wsX4_groupOf := goodIn_r _ [26, 2, 27, 28, 29, 5, 30, 48, 49, 50, 51, 52, 53, 54, 55, 56] (by decide +kernel) (by decide +kernel)
set_option maxRecDepth 20000 in
theorem gX4_edit_X4_groupOf : GoodIn wsX4_edit (wsV RX4 86 RX4 yX4_groupOf wsX4_groupOf) := goodIn_app (goodIn_of _ (by decide +kernel)) ggX4_edit_X4_groupOf
theorem dX4_edit_0 : decode cX4_edit 0 = .ok (.iload_n 2, 1) := by decide +kernel
theorem dX4_edit_1 : decode cX4_edit 1 = .ok (.invokestatic 57, 3) := by decide +kernel
theorem dX4_edit_4 : decode cX4_edit 4 = .ok (.ifCond .eq 17, 3) := by decide +kernel
theorem dX4_edit_7 : decode cX4_edit 7 = .ok (.iload_n 3, 1) := by decide +kernel
theorem dX4_edit_8 : decode cX4_edit 8 = .ok (.iconst 0, 1) := by decide +kernel
theorem dX4_edit_9 : decode cX4_edit 9 = .ok (.bipush 29, 2) := by decide +kernel
theorem dX4_edit_11 : decode cX4_edit 11 = .ok (.invokestatic 38, 3) := by decide +kernel
theorem dX4_edit_14 : decode cX4_edit 14 = .ok (.ifCond .eq 7, 3) := by decide +kernel
theorem dX4_edit_17 : decode cX4_edit 17 = .ok (.iconst 1, 1) := by decide +kernel
theorem dX4_edit_18 : decode cX4_edit 18 = .ok (.goto 4, 3) := by decide +kernel
theorem dX4_edit_21 : decode cX4_edit 21 = .ok (.iconst 0, 1) := by decide +kernel
theorem dX4_edit_22 : decode cX4_edit 22 = .ok (.istore 4, 2) := by decide +kernel
theorem dX4_edit_24 : decode cX4_edit 24 = .ok (.aload_n 0, 1) := by decide +kernel
theorem dX4_edit_25 : decode cX4_edit 25 = .ok (.aload_n 0, 1) := by decide +kernel
theorem dX4_edit_26 : decode cX4_edit 26 = .ok (.iload_n 1, 1) := by decide +kernel
theorem dX4_edit_27 : decode cX4_edit 27 = .ok (.invokevirtual 60, 3) := by decide +kernel
theorem dX4_edit_30 : decode cX4_edit 30 = .ok (.ifCond .ne 7, 3) := by decide +kernel
theorem dX4_edit_33 : decode cX4_edit 33 = .ok (.iconst 1, 1) := by decide +kernel
theorem dX4_edit_34 : decode cX4_edit 34 = .ok (.goto 13, 3) := by decide +kernel
theorem dX4_edit_37 : decode cX4_edit 37 = .ok (.iload 4, 2) := by decide +kernel
theorem dX4_edit_39 : decode cX4_edit 39 = .ok (.ifCond .ne 7, 3) := by decide +kernel
theorem dX4_edit_42 : decode cX4_edit 42 = .ok (.iconst 2, 1) := by decide +kernel
theorem dX4_edit_43 : decode cX4_edit 43 = .ok (.goto 4, 3) := by decide +kernel
theorem dX4_edit_46 : decode cX4_edit 46 = .ok (.iconst 0, 1) := by decide +kernel
theorem dX4_edit_47 : decode cX4_edit 47 = .ok (.invokevirtual 46, 3) := by decide +kernel
theorem dX4_edit_50 : decode cX4_edit 50 = .ok (.ifCond .ne 5, 3) := by decide +kernel
theorem dX4_edit_53 : decode cX4_edit 53 = .ok (.iconst 0, 1) := by decide +kernel
theorem dX4_edit_54 : decode cX4_edit 54 = .ok (.ireturn, 1) := by decide +kernel
theorem dX4_edit_55 : decode cX4_edit 55 = .ok (.aload_n 0, 1) := by decide +kernel
theorem dX4_edit_56 : decode cX4_edit 56 = .ok (.iload_n 1, 1) := by decide +kernel
theorem dX4_edit_57 : decode cX4_edit 57 = .ok (.iload_n 2, 1) := by decide +kernel
theorem dX4_edit_58 : decode cX4_edit 58 = .ok (.invokevirtual 95, 3) := by decide +kernel
theorem dX4_edit_61 : decode cX4_edit 61 = .ok (.iload_n 3, 1) := by decide +kernel
theorem dX4_edit_62 : decode cX4_edit 62 = .ok (.invokestatic 67, 3) := by decide +kernel
theorem dX4_edit_65 : decode cX4_edit 65 = .ok (.ifCond .ne 39, 3) := by decide +kernel
theorem dX4_edit_68 : decode cX4_edit 68 = .ok (.aload_n 0, 1) := by decide +kernel
theorem dX4_edit_69 : decode cX4_edit 69 = .ok (.iload_n 1, 1) := by decide +kernel
theorem dX4_edit_70 : decode cX4_edit 70 = .ok (.invokevirtual 92, 3) := by decide +kernel
theorem dX4_edit_73 : decode cX4_edit 73 = .ok (.istore 5, 2) := by decide +kernel
theorem dX4_edit_75 : decode cX4_edit 75 = .ok (.aload_n 0, 1) := by decide +kernel
theorem dX4_edit_76 : decode cX4_edit 76 = .ok (.iload 5, 2) := by decide +kernel
theorem dX4_edit_78 : decode cX4_edit 78 = .ok (.iconst 0, 1) := by decide +kernel
theorem dX4_edit_79 : decode cX4_edit 79 = .ok (.iload_n 2, 1) := by decide +kernel
theorem dX4_edit_80 : decode cX4_edit 80 = .ok (.aload_n 0, 1) := by decide +kernel
theorem dX4_edit_81 : decode cX4_edit 81 = .ok (.getfield 16, 3) := by decide +kernel
theorem dX4_edit_84 : decode cX4_edit 84 = .ok (.iload 5, 2) := by decide +kernel
theorem dX4_edit_86 : decode cX4_edit 86 = .ok (.iconst 0, 1) := by decide +kernel
theorem dX4_edit_87 : decode cX4_edit 87 = .ok (.iload_n 2, 1) := by decide +kernel
theorem dX4_edit_88 : decode cX4_edit 88 = .ok (.invokestatic 49, 3) := by decide +kernel
theorem dX4_edit_91 : decode cX4_edit 91 = .ok (.iaload, 1) := by decide +kernel
theorem dX4_edit_92 : decode cX4_edit 92 = .ok (.iconst 1, 1) := by decide +kernel
theorem dX4_edit_93 : decode cX4_edit 93 = .ok (.iload_n 3, 1) := by decide +kernel
theorem dX4_edit_94 : decode cX4_edit 94 = .ok (.ishl, 1) := by decide +kernel
theorem dX4_edit_95 : decode cX4_edit 95 = .ok (.ior, 1) := by decide +kernel
theorem dX4_edit_96 : decode cX4_edit 96 = .ok (.invokevirtual 63, 3) := by decide +kernel
theorem dX4_edit_99 : decode cX4_edit 99 = .ok (.iconst 1, 1) := by decide +kernel
theorem dX4_edit_100 : decode cX4_edit 100 = .ok (.iload 5, 2) := by decide +kernel
theorem dX4_edit_102 : decode cX4_edit 102 = .ok (.ishl, 1) := by decide +kernel
theorem dX4_edit_103 : decode cX4_edit 103 = .ok (.ireturn, 1) := by decide +kernel
theorem dX4_edit_104 : decode cX4_edit 104 = .ok (.aload_n 0, 1) := by decide +kernel
theorem dX4_edit_105 : decode cX4_edit 105 = .ok (.iload_n 1, 1) := by decide +kernel
theorem dX4_edit_106 : decode cX4_edit 106 = .ok (.invokevirtual 86, 3) := by decide +kernel
theorem dX4_edit_109 : decode cX4_edit 109 = .ok (.istore 5, 2) := by decide +kernel
theorem dX4_edit_111 : decode cX4_edit 111 = .ok (.iconst 0, 1) := by decide +kernel
theorem dX4_edit_112 : decode cX4_edit 112 = .ok (.istore 6, 2) := by decide +kernel
theorem dX4_edit_114 : decode cX4_edit 114 = .ok (.iconst 0, 1) := by decide +kernel
theorem dX4_edit_115 : decode cX4_edit 115 = .ok (.istore 7, 2) := by decide +kernel
theorem dX4_edit_117 : decode cX4_edit 117 = .ok (.iload 7, 2) := by decide +kernel
theorem dX4_edit_119 : decode cX4_edit 119 = .ok (.aload_n 0, 1) := by decide +kernel
theorem dX4_edit_120 : decode cX4_edit 120 = .ok (.getfield 35, 3) := by decide +kernel
theorem dX4_edit_123 : decode cX4_edit 123 = .ok (.if_icmp .ge 73, 3) := by decide +kernel
theorem dX4_edit_126 : decode cX4_edit 126 = .ok (.iload 5, 2) := by decide +kernel
theorem dX4_edit_128 : decode cX4_edit 128 = .ok (.iload 7, 2) := by decide +kernel
theorem dX4_edit_130 : decode cX4_edit 130 = .ok (.invokestatic 67, 3) := by decide +kernel
theorem dX4_edit_133 : decode cX4_edit 133 = .ok (.ifCond .eq 57, 3) := by decide +kernel
theorem dX4_edit_136 : decode cX4_edit 136 = .ok (.aload_n 0, 1) := by decide +kernel
theorem dX4_edit_137 : decode cX4_edit 137 = .ok (.getfield 16, 3) := by decide +kernel
theorem dX4_edit_140 : decode cX4_edit 140 = .ok (.iload 7, 2) := by decide +kernel
theorem dX4_edit_142 : decode cX4_edit 142 = .ok (.iconst 0, 1) := by decide +kernel
theorem dX4_edit_143 : decode cX4_edit 143 = .ok (.iload_n 2, 1) := by decide +kernel
theorem dX4_edit_144 : decode cX4_edit 144 = .ok (.invokestatic 49, 3) := by decide +kernel
theorem dX4_edit_147 : decode cX4_edit 147 = .ok (.iaload, 1) := by decide +kernel
theorem dX4_edit_148 : decode cX4_edit 148 = .ok (.iload_n 3, 1) := by decide +kernel
theorem dX4_edit_149 : decode cX4_edit 149 = .ok (.invokestatic 67, 3) := by decide +kernel
theorem dX4_edit_152 : decode cX4_edit 152 = .ok (.ifCond .eq 38, 3) := by decide +kernel
theorem dX4_edit_155 : decode cX4_edit 155 = .ok (.aload_n 0, 1) := by decide +kernel
theorem dX4_edit_156 : decode cX4_edit 156 = .ok (.iload 7, 2) := by decide +kernel
theorem dX4_edit_158 : decode cX4_edit 158 = .ok (.iconst 0, 1) := by decide +kernel
theorem dX4_edit_159 : decode cX4_edit 159 = .ok (.iload_n 2, 1) := by decide +kernel
theorem dX4_edit_160 : decode cX4_edit 160 = .ok (.aload_n 0, 1) := by decide +kernel
theorem dX4_edit_161 : decode cX4_edit 161 = .ok (.getfield 16, 3) := by decide +kernel
theorem dX4_edit_164 : decode cX4_edit 164 = .ok (.iload 7, 2) := by decide +kernel
theorem dX4_edit_166 : decode cX4_edit 166 = .ok (.iconst 0, 1) := by decide +kernel
theorem dX4_edit_167 : decode cX4_edit 167 = .ok (.iload_n 2, 1) := by decide +kernel
theorem dX4_edit_168 : decode cX4_edit 168 = .ok (.invokestatic 49, 3) := by decide +kernel
theorem dX4_edit_171 : decode cX4_edit 171 = .ok (.iaload, 1) := by decide +kernel
theorem dX4_edit_172 : decode cX4_edit 172 = .ok (.iconst 1, 1) := by decide +kernel
theorem dX4_edit_173 : decode cX4_edit 173 = .ok (.iload_n 3, 1) := by decide +kernel
theorem dX4_edit_174 : decode cX4_edit 174 = .ok (.ishl, 1) := by decide +kernel
theorem dX4_edit_175 : decode cX4_edit 175 = .ok (.iconst (-1), 1) := by decide +kernel
theorem dX4_edit_176 : decode cX4_edit 176 = .ok (.ixor, 1) := by decide +kernel
theorem dX4_edit_177 : decode cX4_edit 177 = .ok (.iand, 1) := by decide +kernel
theorem dX4_edit_178 : decode cX4_edit 178 = .ok (.invokevirtual 63, 3) := by decide +kernel
theorem dX4_edit_181 : decode cX4_edit 181 = .ok (.iload 6, 2) := by decide +kernel
theorem dX4_edit_183 : decode cX4_edit 183 = .ok (.iconst 1, 1) := by decide +kernel
theorem dX4_edit_184 : decode cX4_edit 184 = .ok (.iload 7, 2) := by decide +kernel
theorem dX4_edit_186 : decode cX4_edit 186 = .ok (.ishl, 1) := by decide +kernel
theorem dX4_edit_187 : decode cX4_edit 187 = .ok (.ior, 1) := by decide +kernel
theorem dX4_edit_188 : decode cX4_edit 188 = .ok (.istore 6, 2) := by decide +kernel
theorem dX4_edit_190 : decode cX4_edit 190 = .ok (.iinc 7 1, 3) := by decide +kernel
theorem dX4_edit_193 : decode cX4_edit 193 = .ok (.goto (-76), 3) := by decide +kernel
theorem dX4_edit_196 : decode cX4_edit 196 = .ok (.iload 6, 2) := by decide +kernel
theorem dX4_edit_198 : decode cX4_edit 198 = .ok (.ireturn, 1) := by decide +kernel
set_option maxRecDepth 20000 in
theorem ggX4_alike_X4_at : GoodIn wsX4_alike wsX4_at := goodIn_r _ [6] (by decide +kernel) (by decide +kernel)
set_option maxRecDepth 20000 in
theorem gX4_alike_X4_at : GoodIn wsX4_alike (va_wsS RX4 49 yX4_at wsX4_at) := goodIn_app (goodIn_of _ (by decide +kernel)) ggX4_alike_X4_at
set_option maxRecDepth 20000 in
theorem ggX4_alike_X4_count : GoodIn wsX4_alike wsX4_count := goodIn_r _ [9] (by decide +kernel) (by decide +kernel)
set_option maxRecDepth 20000 in
theorem gX4_alike_X4_count : GoodIn wsX4_alike (va_wsS RX4 89 yX4_count wsX4_count) := goodIn_app (goodIn_of _ (by decide +kernel)) ggX4_alike_X4_count
theorem dX4_alike_0 : decode cX4_alike 0 = .ok (.aload_n 0, 1) := by decide +kernel
theorem dX4_alike_1 : decode cX4_alike 1 = .ok (.getfield 16, 3) := by decide +kernel
theorem dX4_alike_4 : decode cX4_alike 4 = .ok (.iload_n 1, 1) := by decide +kernel
theorem dX4_alike_5 : decode cX4_alike 5 = .ok (.iconst 0, 1) := by decide +kernel
theorem dX4_alike_6 : decode cX4_alike 6 = .ok (.iconst 0, 1) := by decide +kernel
theorem dX4_alike_7 : decode cX4_alike 7 = .ok (.invokestatic 49, 3) := by decide +kernel
theorem dX4_alike_10 : decode cX4_alike 10 = .ok (.iaload, 1) := by decide +kernel
theorem dX4_alike_11 : decode cX4_alike 11 = .ok (.aload_n 0, 1) := by decide +kernel
theorem dX4_alike_12 : decode cX4_alike 12 = .ok (.getfield 16, 3) := by decide +kernel
theorem dX4_alike_15 : decode cX4_alike 15 = .ok (.iload_n 2, 1) := by decide +kernel
theorem dX4_alike_16 : decode cX4_alike 16 = .ok (.iconst 0, 1) := by decide +kernel
theorem dX4_alike_17 : decode cX4_alike 17 = .ok (.iconst 0, 1) := by decide +kernel
theorem dX4_alike_18 : decode cX4_alike 18 = .ok (.invokestatic 49, 3) := by decide +kernel
theorem dX4_alike_21 : decode cX4_alike 21 = .ok (.iaload, 1) := by decide +kernel
theorem dX4_alike_22 : decode cX4_alike 22 = .ok (.iand, 1) := by decide +kernel
theorem dX4_alike_23 : decode cX4_alike 23 = .ok (.invokestatic 89, 3) := by decide +kernel
theorem dX4_alike_26 : decode cX4_alike 26 = .ok (.istore_n 3, 1) := by decide +kernel
theorem dX4_alike_27 : decode cX4_alike 27 = .ok (.aload_n 0, 1) := by decide +kernel
theorem dX4_alike_28 : decode cX4_alike 28 = .ok (.getfield 16, 3) := by decide +kernel
theorem dX4_alike_31 : decode cX4_alike 31 = .ok (.iload_n 1, 1) := by decide +kernel
theorem dX4_alike_32 : decode cX4_alike 32 = .ok (.iconst 0, 1) := by decide +kernel
theorem dX4_alike_33 : decode cX4_alike 33 = .ok (.iconst 1, 1) := by decide +kernel
theorem dX4_alike_34 : decode cX4_alike 34 = .ok (.invokestatic 49, 3) := by decide +kernel
theorem dX4_alike_37 : decode cX4_alike 37 = .ok (.iaload, 1) := by decide +kernel
theorem dX4_alike_38 : decode cX4_alike 38 = .ok (.aload_n 0, 1) := by decide +kernel
theorem dX4_alike_39 : decode cX4_alike 39 = .ok (.getfield 16, 3) := by decide +kernel
theorem dX4_alike_42 : decode cX4_alike 42 = .ok (.iload_n 2, 1) := by decide +kernel
theorem dX4_alike_43 : decode cX4_alike 43 = .ok (.iconst 0, 1) := by decide +kernel
theorem dX4_alike_44 : decode cX4_alike 44 = .ok (.iconst 1, 1) := by decide +kernel
theorem dX4_alike_45 : decode cX4_alike 45 = .ok (.invokestatic 49, 3) := by decide +kernel
theorem dX4_alike_48 : decode cX4_alike 48 = .ok (.iaload, 1) := by decide +kernel
theorem dX4_alike_49 : decode cX4_alike 49 = .ok (.iand, 1) := by decide +kernel
theorem dX4_alike_50 : decode cX4_alike 50 = .ok (.invokestatic 89, 3) := by decide +kernel
theorem dX4_alike_53 : decode cX4_alike 53 = .ok (.istore 4, 2) := by decide +kernel
theorem dX4_alike_55 : decode cX4_alike 55 = .ok (.iconst 3, 1) := by decide +kernel
theorem dX4_alike_56 : decode cX4_alike 56 = .ok (.iload_n 3, 1) := by decide +kernel
theorem dX4_alike_57 : decode cX4_alike 57 = .ok (.imul, 1) := by decide +kernel
theorem dX4_alike_58 : decode cX4_alike 58 = .ok (.iconst 2, 1) := by decide +kernel
theorem dX4_alike_59 : decode cX4_alike 59 = .ok (.iload 4, 2) := by decide +kernel
theorem dX4_alike_61 : decode cX4_alike 61 = .ok (.imul, 1) := by decide +kernel
theorem dX4_alike_62 : decode cX4_alike 62 = .ok (.iadd, 1) := by decide +kernel
theorem dX4_alike_63 : decode cX4_alike 63 = .ok (.aload_n 0, 1) := by decide +kernel
theorem dX4_alike_64 : decode cX4_alike 64 = .ok (.getfield 13, 3) := by decide +kernel
theorem dX4_alike_67 : decode cX4_alike 67 = .ok (.iconst 3, 1) := by decide +kernel
theorem dX4_alike_68 : decode cX4_alike 68 = .ok (.iload_n 1, 1) := by decide +kernel
theorem dX4_alike_69 : decode cX4_alike 69 = .ok (.imul, 1) := by decide +kernel
theorem dX4_alike_70 : decode cX4_alike 70 = .ok (.iaload, 1) := by decide +kernel
theorem dX4_alike_71 : decode cX4_alike 71 = .ok (.aload_n 0, 1) := by decide +kernel
theorem dX4_alike_72 : decode cX4_alike 72 = .ok (.getfield 13, 3) := by decide +kernel
theorem dX4_alike_75 : decode cX4_alike 75 = .ok (.iconst 3, 1) := by decide +kernel
theorem dX4_alike_76 : decode cX4_alike 76 = .ok (.iload_n 2, 1) := by decide +kernel
theorem dX4_alike_77 : decode cX4_alike 77 = .ok (.imul, 1) := by decide +kernel
theorem dX4_alike_78 : decode cX4_alike 78 = .ok (.iaload, 1) := by decide +kernel
theorem dX4_alike_79 : decode cX4_alike 79 = .ok (.if_icmp .ne 7, 3) := by decide +kernel
theorem dX4_alike_82 : decode cX4_alike 82 = .ok (.iconst 2, 1) := by decide +kernel
theorem dX4_alike_83 : decode cX4_alike 83 = .ok (.goto 4, 3) := by decide +kernel
theorem dX4_alike_86 : decode cX4_alike 86 = .ok (.iconst 0, 1) := by decide +kernel
theorem dX4_alike_87 : decode cX4_alike 87 = .ok (.iadd, 1) := by decide +kernel
theorem dX4_alike_88 : decode cX4_alike 88 = .ok (.ireturn, 1) := by decide +kernel
set_option maxRecDepth 20000 in
theorem ggX4_scoreOf_X4_groupOf : GoodIn wsX4_scoreOf wsX4_groupOf := goodIn_r _ [5, 6, 7, 8, 9, 4, 10, 23, 24, 25, 26, 27, 28, 29, 30, 31] (by decide +kernel) (by decide +kernel)
set_option maxRecDepth 20000 in
theorem gX4_scoreOf_X4_groupOf : GoodIn wsX4_scoreOf (wsV RX4 86 RX4 yX4_groupOf wsX4_groupOf) := goodIn_app (goodIn_of _ (by decide +kernel)) ggX4_scoreOf_X4_groupOf
set_option maxRecDepth 20000 in
theorem ggX4_scoreOf_X4_has : GoodIn wsX4_scoreOf wsX4_has := goodIn_r _ [10] (by decide +kernel) (by decide +kernel)
set_option maxRecDepth 20000 in
theorem gX4_scoreOf_X4_has : GoodIn wsX4_scoreOf (va_wsS RX4 67 yX4_has wsX4_has) := goodIn_app (goodIn_of _ (by decide +kernel)) ggX4_scoreOf_X4_has
set_option maxRecDepth 20000 in
theorem ggX4_scoreOf_X4_alike : GoodIn wsX4_scoreOf wsX4_alike := goodIn_r _ [14, 15, 16, 17, 18, 4, 19, 20, 21, 22, 23, 24, 25, 26, 27, 28, 29, 30, 31] (by decide +kernel) (by decide +kernel)
set_option maxRecDepth 20000 in
theorem gX4_scoreOf_X4_alike : GoodIn wsX4_scoreOf (wsV RX4 98 RX4 yX4_alike wsX4_alike) := goodIn_app (goodIn_of _ (by decide +kernel)) ggX4_scoreOf_X4_alike
theorem dX4_scoreOf_0 : decode cX4_scoreOf 0 = .ok (.aload_n 0, 1) := by decide +kernel
theorem dX4_scoreOf_1 : decode cX4_scoreOf 1 = .ok (.iload_n 1, 1) := by decide +kernel
theorem dX4_scoreOf_2 : decode cX4_scoreOf 2 = .ok (.invokevirtual 86, 3) := by decide +kernel
theorem dX4_scoreOf_5 : decode cX4_scoreOf 5 = .ok (.iload_n 2, 1) := by decide +kernel
theorem dX4_scoreOf_6 : decode cX4_scoreOf 6 = .ok (.invokestatic 67, 3) := by decide +kernel
theorem dX4_scoreOf_9 : decode cX4_scoreOf 9 = .ok (.ifCond .eq 7, 3) := by decide +kernel
theorem dX4_scoreOf_12 : decode cX4_scoreOf 12 = .ok (.iconst 0, 1) := by decide +kernel
theorem dX4_scoreOf_13 : decode cX4_scoreOf 13 = .ok (.goto 9, 3) := by decide +kernel
theorem dX4_scoreOf_16 : decode cX4_scoreOf 16 = .ok (.aload_n 0, 1) := by decide +kernel
theorem dX4_scoreOf_17 : decode cX4_scoreOf 17 = .ok (.iload_n 1, 1) := by decide +kernel
theorem dX4_scoreOf_18 : decode cX4_scoreOf 18 = .ok (.iload_n 2, 1) := by decide +kernel
theorem dX4_scoreOf_19 : decode cX4_scoreOf 19 = .ok (.invokevirtual 98, 3) := by decide +kernel
theorem dX4_scoreOf_22 : decode cX4_scoreOf 22 = .ok (.ireturn, 1) := by decide +kernel
set_option maxRecDepth 20000 in
theorem ggX4_isSuggested_X4_has : GoodIn wsX4_isSuggested wsX4_has := goodIn_r _ [6] (by decide +kernel) (by decide +kernel)
set_option maxRecDepth 20000 in
theorem gX4_isSuggested_X4_has : GoodIn wsX4_isSuggested (va_wsS RX4 67 yX4_has wsX4_has) := goodIn_app (goodIn_of _ (by decide +kernel)) ggX4_isSuggested_X4_has
set_option maxRecDepth 20000 in
theorem ggX4_isSuggested_X4_scoreOf : GoodIn wsX4_isSuggested wsX4_scoreOf := goodIn_r _ [10, 11, 12, 13, 5, 14, 15, 16, 3, 4, 6, 17, 18, 19, 20, 21, 22, 23, 24, 25, 26, 27, 28, 29, 30, 31, 32, 33, 34, 35, 36, 37] (by decide +kernel) (by decide +kernel)
set_option maxRecDepth 20000 in
theorem gX4_isSuggested_X4_scoreOf : GoodIn wsX4_isSuggested (wsV RX4 101 RX4 yX4_scoreOf wsX4_scoreOf) := goodIn_app (goodIn_of _ (by decide +kernel)) ggX4_isSuggested_X4_scoreOf
theorem dX4_isSuggested_0 : decode cX4_isSuggested 0 = .ok (.aload_n 0, 1) := by decide +kernel
theorem dX4_isSuggested_1 : decode cX4_isSuggested 1 = .ok (.getfield 22, 3) := by decide +kernel
theorem dX4_isSuggested_4 : decode cX4_isSuggested 4 = .ok (.iload_n 1, 1) := by decide +kernel
theorem dX4_isSuggested_5 : decode cX4_isSuggested 5 = .ok (.iaload, 1) := by decide +kernel
theorem dX4_isSuggested_6 : decode cX4_isSuggested 6 = .ok (.iload_n 2, 1) := by decide +kernel
theorem dX4_isSuggested_7 : decode cX4_isSuggested 7 = .ok (.invokestatic 67, 3) := by decide +kernel
theorem dX4_isSuggested_10 : decode cX4_isSuggested 10 = .ok (.ifCond .ne 29, 3) := by decide +kernel
theorem dX4_isSuggested_13 : decode cX4_isSuggested 13 = .ok (.aload_n 0, 1) := by decide +kernel
theorem dX4_isSuggested_14 : decode cX4_isSuggested 14 = .ok (.getfield 25, 3) := by decide +kernel
theorem dX4_isSuggested_17 : decode cX4_isSuggested 17 = .ok (.iload_n 1, 1) := by decide +kernel
theorem dX4_isSuggested_18 : decode cX4_isSuggested 18 = .ok (.iaload, 1) := by decide +kernel
theorem dX4_isSuggested_19 : decode cX4_isSuggested 19 = .ok (.iload_n 2, 1) := by decide +kernel
theorem dX4_isSuggested_20 : decode cX4_isSuggested 20 = .ok (.invokestatic 67, 3) := by decide +kernel
theorem dX4_isSuggested_23 : decode cX4_isSuggested 23 = .ok (.ifCond .ne 16, 3) := by decide +kernel
theorem dX4_isSuggested_26 : decode cX4_isSuggested 26 = .ok (.aload_n 0, 1) := by decide +kernel
theorem dX4_isSuggested_27 : decode cX4_isSuggested 27 = .ok (.iload_n 1, 1) := by decide +kernel
theorem dX4_isSuggested_28 : decode cX4_isSuggested 28 = .ok (.iload_n 2, 1) := by decide +kernel
theorem dX4_isSuggested_29 : decode cX4_isSuggested 29 = .ok (.invokevirtual 101, 3) := by decide +kernel
theorem dX4_isSuggested_32 : decode cX4_isSuggested 32 = .ok (.ifCond .le 7, 3) := by decide +kernel
theorem dX4_isSuggested_35 : decode cX4_isSuggested 35 = .ok (.iconst 1, 1) := by decide +kernel
theorem dX4_isSuggested_36 : decode cX4_isSuggested 36 = .ok (.goto 4, 3) := by decide +kernel
theorem dX4_isSuggested_39 : decode cX4_isSuggested 39 = .ok (.iconst 0, 1) := by decide +kernel
theorem dX4_isSuggested_40 : decode cX4_isSuggested 40 = .ok (.ireturn, 1) := by decide +kernel
set_option maxRecDepth 20000 in
theorem ggX4_score_X4_isCard : GoodIn wsX4_score wsX4_isCard := goodIn_r _ [5, 6, 7, 8, 4, 9, 39, 40, 41, 42, 43, 44, 45, 46, 47] (by decide +kernel) (by decide +kernel)
set_option maxRecDepth 20000 in
theorem gX4_score_X4_isCard : GoodIn wsX4_score (wsV RX4 60 RX4 yX4_isCard wsX4_isCard) := goodIn_app (goodIn_of _ (by decide +kernel)) ggX4_score_X4_isCard
set_option maxRecDepth 20000 in
theorem ggX4_score_X4_isFine : GoodIn wsX4_score wsX4_isFine := goodIn_r _ [13, 14, 39, 40, 41, 42, 43, 44, 45, 46, 47] (by decide +kernel) (by decide +kernel)
set_option maxRecDepth 20000 in
theorem gX4_score_X4_isFine : GoodIn wsX4_score (wsV RX4 46 RX4 yX4_isFine wsX4_isFine) := goodIn_app (goodIn_of _ (by decide +kernel)) ggX4_score_X4_isFine
set_option maxRecDepth 20000 in
theorem ggX4_score_X4_scoreOf : GoodIn wsX4_score wsX4_scoreOf := goodIn_r _ [18, 19, 20, 21, 4, 22, 6, 23, 24, 25, 26, 27, 28, 29, 30, 31, 32, 33, 34, 35, 36, 37, 38, 39, 40, 41, 42, 43, 44, 45, 46, 47] (by decide +kernel) (by decide +kernel)
set_option maxRecDepth 20000 in
theorem gX4_score_X4_scoreOf : GoodIn wsX4_score (wsV RX4 101 RX4 yX4_scoreOf wsX4_scoreOf) := goodIn_app (goodIn_of _ (by decide +kernel)) ggX4_score_X4_scoreOf
theorem dX4_score_0 : decode cX4_score 0 = .ok (.aload_n 0, 1) := by decide +kernel
theorem dX4_score_1 : decode cX4_score 1 = .ok (.iload_n 1, 1) := by decide +kernel
theorem dX4_score_2 : decode cX4_score 2 = .ok (.invokevirtual 60, 3) := by decide +kernel
theorem dX4_score_5 : decode cX4_score 5 = .ok (.ifCond .eq 15, 3) := by decide +kernel
theorem dX4_score_8 : decode cX4_score 8 = .ok (.aload_n 0, 1) := by decide +kernel
theorem dX4_score_9 : decode cX4_score 9 = .ok (.iload_n 2, 1) := by decide +kernel
theorem dX4_score_10 : decode cX4_score 10 = .ok (.invokevirtual 60, 3) := by decide +kernel
theorem dX4_score_13 : decode cX4_score 13 = .ok (.ifCond .eq 7, 3) := by decide +kernel
theorem dX4_score_16 : decode cX4_score 16 = .ok (.iconst 1, 1) := by decide +kernel
theorem dX4_score_17 : decode cX4_score 17 = .ok (.goto 4, 3) := by decide +kernel
theorem dX4_score_20 : decode cX4_score 20 = .ok (.iconst 0, 1) := by decide +kernel
theorem dX4_score_21 : decode cX4_score 21 = .ok (.istore_n 3, 1) := by decide +kernel
theorem dX4_score_22 : decode cX4_score 22 = .ok (.aload_n 0, 1) := by decide +kernel
theorem dX4_score_23 : decode cX4_score 23 = .ok (.iload_n 3, 1) := by decide +kernel
theorem dX4_score_24 : decode cX4_score 24 = .ok (.ifCond .ne 7, 3) := by decide +kernel
theorem dX4_score_27 : decode cX4_score 27 = .ok (.iconst 1, 1) := by decide +kernel
theorem dX4_score_28 : decode cX4_score 28 = .ok (.goto 13, 3) := by decide +kernel
theorem dX4_score_31 : decode cX4_score 31 = .ok (.iload_n 1, 1) := by decide +kernel
theorem dX4_score_32 : decode cX4_score 32 = .ok (.iload_n 2, 1) := by decide +kernel
theorem dX4_score_33 : decode cX4_score 33 = .ok (.if_icmp .ne 7, 3) := by decide +kernel
theorem dX4_score_36 : decode cX4_score 36 = .ok (.iconst 2, 1) := by decide +kernel
theorem dX4_score_37 : decode cX4_score 37 = .ok (.goto 4, 3) := by decide +kernel
theorem dX4_score_40 : decode cX4_score 40 = .ok (.iconst 0, 1) := by decide +kernel
theorem dX4_score_41 : decode cX4_score 41 = .ok (.invokevirtual 46, 3) := by decide +kernel
theorem dX4_score_44 : decode cX4_score 44 = .ok (.ifCond .eq 12, 3) := by decide +kernel
theorem dX4_score_47 : decode cX4_score 47 = .ok (.aload_n 0, 1) := by decide +kernel
theorem dX4_score_48 : decode cX4_score 48 = .ok (.iload_n 1, 1) := by decide +kernel
theorem dX4_score_49 : decode cX4_score 49 = .ok (.iload_n 2, 1) := by decide +kernel
theorem dX4_score_50 : decode cX4_score 50 = .ok (.invokevirtual 101, 3) := by decide +kernel
theorem dX4_score_53 : decode cX4_score 53 = .ok (.goto 4, 3) := by decide +kernel
theorem dX4_score_56 : decode cX4_score 56 = .ok (.iconst 0, 1) := by decide +kernel
theorem dX4_score_57 : decode cX4_score 57 = .ok (.ireturn, 1) := by decide +kernel
set_option maxRecDepth 20000 in
theorem ggX4_finds_X4_groupOf : GoodIn wsX4_finds wsX4_groupOf := goodIn_r _ [9, 1, 10, 11, 12, 8, 13, 26, 27, 28, 29, 30, 31, 32, 33, 34] (by decide +kernel) (by decide +kernel)
set_option maxRecDepth 20000 in
theorem gX4_finds_X4_groupOf : GoodIn wsX4_finds (wsV RX4 86 RX4 yX4_groupOf wsX4_groupOf) := goodIn_app (goodIn_of _ (by decide +kernel)) ggX4_finds_X4_groupOf
set_option maxRecDepth 20000 in
theorem ggX4_finds_X4_has : GoodIn wsX4_finds wsX4_has := goodIn_r _ [13] (by decide +kernel) (by decide +kernel)
set_option maxRecDepth 20000 in
theorem gX4_finds_X4_has : GoodIn wsX4_finds (va_wsS RX4 67 yX4_has wsX4_has) := goodIn_app (goodIn_of _ (by decide +kernel)) ggX4_finds_X4_has
set_option maxRecDepth 20000 in
theorem ggX4_finds_X4_alike : GoodIn wsX4_finds wsX4_alike := goodIn_r _ [17, 18, 19, 20, 21, 8, 22, 23, 24, 25, 26, 27, 28, 29, 30, 31, 32, 33, 34] (by decide +kernel) (by decide +kernel)
set_option maxRecDepth 20000 in
theorem gX4_finds_X4_alike : GoodIn wsX4_finds (wsV RX4 98 RX4 yX4_alike wsX4_alike) := goodIn_app (goodIn_of _ (by decide +kernel)) ggX4_finds_X4_alike
theorem dX4_finds_0 : decode cX4_finds 0 = .ok (.iconst 0, 1) := by decide +kernel
theorem dX4_finds_1 : decode cX4_finds 1 = .ok (.istore_n 1, 1) := by decide +kernel
theorem dX4_finds_2 : decode cX4_finds 2 = .ok (.iconst 0, 1) := by decide +kernel
theorem dX4_finds_3 : decode cX4_finds 3 = .ok (.istore_n 2, 1) := by decide +kernel
theorem dX4_finds_4 : decode cX4_finds 4 = .ok (.iload_n 2, 1) := by decide +kernel
theorem dX4_finds_5 : decode cX4_finds 5 = .ok (.aload_n 0, 1) := by decide +kernel
theorem dX4_finds_6 : decode cX4_finds 6 = .ok (.getfield 35, 3) := by decide +kernel
theorem dX4_finds_9 : decode cX4_finds 9 = .ok (.if_icmp .ge 130, 3) := by decide +kernel
theorem dX4_finds_12 : decode cX4_finds 12 = .ok (.aload_n 0, 1) := by decide +kernel
theorem dX4_finds_13 : decode cX4_finds 13 = .ok (.iload_n 2, 1) := by decide +kernel
theorem dX4_finds_14 : decode cX4_finds 14 = .ok (.invokevirtual 86, 3) := by decide +kernel
theorem dX4_finds_17 : decode cX4_finds 17 = .ok (.istore_n 3, 1) := by decide +kernel
theorem dX4_finds_18 : decode cX4_finds 18 = .ok (.iload_n 2, 1) := by decide +kernel
theorem dX4_finds_19 : decode cX4_finds 19 = .ok (.iconst 1, 1) := by decide +kernel
theorem dX4_finds_20 : decode cX4_finds 20 = .ok (.iadd, 1) := by decide +kernel
theorem dX4_finds_21 : decode cX4_finds 21 = .ok (.istore 4, 2) := by decide +kernel
theorem dX4_finds_23 : decode cX4_finds 23 = .ok (.iload 4, 2) := by decide +kernel
theorem dX4_finds_25 : decode cX4_finds 25 = .ok (.aload_n 0, 1) := by decide +kernel
theorem dX4_finds_26 : decode cX4_finds 26 = .ok (.getfield 35, 3) := by decide +kernel
theorem dX4_finds_29 : decode cX4_finds 29 = .ok (.if_icmp .ge 104, 3) := by decide +kernel
theorem dX4_finds_32 : decode cX4_finds 32 = .ok (.iload_n 3, 1) := by decide +kernel
theorem dX4_finds_33 : decode cX4_finds 33 = .ok (.iload 4, 2) := by decide +kernel
theorem dX4_finds_35 : decode cX4_finds 35 = .ok (.invokestatic 67, 3) := by decide +kernel
theorem dX4_finds_38 : decode cX4_finds 38 = .ok (.ifCond .ne 35, 3) := by decide +kernel
theorem dX4_finds_41 : decode cX4_finds 41 = .ok (.aload_n 0, 1) := by decide +kernel
theorem dX4_finds_42 : decode cX4_finds 42 = .ok (.getfield 22, 3) := by decide +kernel
theorem dX4_finds_45 : decode cX4_finds 45 = .ok (.iload_n 2, 1) := by decide +kernel
theorem dX4_finds_46 : decode cX4_finds 46 = .ok (.iaload, 1) := by decide +kernel
theorem dX4_finds_47 : decode cX4_finds 47 = .ok (.iload 4, 2) := by decide +kernel
theorem dX4_finds_49 : decode cX4_finds 49 = .ok (.invokestatic 67, 3) := by decide +kernel
theorem dX4_finds_52 : decode cX4_finds 52 = .ok (.ifCond .ne 21, 3) := by decide +kernel
theorem dX4_finds_55 : decode cX4_finds 55 = .ok (.aload_n 0, 1) := by decide +kernel
theorem dX4_finds_56 : decode cX4_finds 56 = .ok (.getfield 25, 3) := by decide +kernel
theorem dX4_finds_59 : decode cX4_finds 59 = .ok (.iload_n 2, 1) := by decide +kernel
theorem dX4_finds_60 : decode cX4_finds 60 = .ok (.iaload, 1) := by decide +kernel
theorem dX4_finds_61 : decode cX4_finds 61 = .ok (.iload 4, 2) := by decide +kernel
theorem dX4_finds_63 : decode cX4_finds 63 = .ok (.invokestatic 67, 3) := by decide +kernel
theorem dX4_finds_66 : decode cX4_finds 66 = .ok (.ifCond .ne 7, 3) := by decide +kernel
theorem dX4_finds_69 : decode cX4_finds 69 = .ok (.iconst 1, 1) := by decide +kernel
theorem dX4_finds_70 : decode cX4_finds 70 = .ok (.goto 4, 3) := by decide +kernel
theorem dX4_finds_73 : decode cX4_finds 73 = .ok (.iconst 0, 1) := by decide +kernel
theorem dX4_finds_74 : decode cX4_finds 74 = .ok (.istore 5, 2) := by decide +kernel
theorem dX4_finds_76 : decode cX4_finds 76 = .ok (.aload_n 0, 1) := by decide +kernel
theorem dX4_finds_77 : decode cX4_finds 77 = .ok (.getfield 28, 3) := by decide +kernel
theorem dX4_finds_80 : decode cX4_finds 80 = .ok (.bipush 24, 2) := by decide +kernel
theorem dX4_finds_82 : decode cX4_finds 82 = .ok (.iload_n 2, 1) := by decide +kernel
theorem dX4_finds_83 : decode cX4_finds 83 = .ok (.imul, 1) := by decide +kernel
theorem dX4_finds_84 : decode cX4_finds 84 = .ok (.iload 4, 2) := by decide +kernel
theorem dX4_finds_86 : decode cX4_finds 86 = .ok (.iadd, 1) := by decide +kernel
theorem dX4_finds_87 : decode cX4_finds 87 = .ok (.iload 5, 2) := by decide +kernel
theorem dX4_finds_89 : decode cX4_finds 89 = .ok (.ifCond .eq 13, 3) := by decide +kernel
theorem dX4_finds_92 : decode cX4_finds 92 = .ok (.aload_n 0, 1) := by decide +kernel
theorem dX4_finds_93 : decode cX4_finds 93 = .ok (.iload_n 2, 1) := by decide +kernel
theorem dX4_finds_94 : decode cX4_finds 94 = .ok (.iload 4, 2) := by decide +kernel
theorem dX4_finds_96 : decode cX4_finds 96 = .ok (.invokevirtual 98, 3) := by decide +kernel
theorem dX4_finds_99 : decode cX4_finds 99 = .ok (.goto 4, 3) := by decide +kernel
theorem dX4_finds_102 : decode cX4_finds 102 = .ok (.iconst 0, 1) := by decide +kernel
theorem dX4_finds_103 : decode cX4_finds 103 = .ok (.iastore, 1) := by decide +kernel
theorem dX4_finds_104 : decode cX4_finds 104 = .ok (.iload_n 1, 1) := by decide +kernel
theorem dX4_finds_105 : decode cX4_finds 105 = .ok (.aload_n 0, 1) := by decide +kernel
theorem dX4_finds_106 : decode cX4_finds 106 = .ok (.getfield 28, 3) := by decide +kernel
theorem dX4_finds_109 : decode cX4_finds 109 = .ok (.bipush 24, 2) := by decide +kernel
theorem dX4_finds_111 : decode cX4_finds 111 = .ok (.iload_n 2, 1) := by decide +kernel
theorem dX4_finds_112 : decode cX4_finds 112 = .ok (.imul, 1) := by decide +kernel
theorem dX4_finds_113 : decode cX4_finds 113 = .ok (.iload 4, 2) := by decide +kernel
theorem dX4_finds_115 : decode cX4_finds 115 = .ok (.iadd, 1) := by decide +kernel
theorem dX4_finds_116 : decode cX4_finds 116 = .ok (.iaload, 1) := by decide +kernel
theorem dX4_finds_117 : decode cX4_finds 117 = .ok (.ifCond .le 7, 3) := by decide +kernel
theorem dX4_finds_120 : decode cX4_finds 120 = .ok (.iconst 1, 1) := by decide +kernel
theorem dX4_finds_121 : decode cX4_finds 121 = .ok (.goto 4, 3) := by decide +kernel
theorem dX4_finds_124 : decode cX4_finds 124 = .ok (.iconst 0, 1) := by decide +kernel
theorem dX4_finds_125 : decode cX4_finds 125 = .ok (.iadd, 1) := by decide +kernel
theorem dX4_finds_126 : decode cX4_finds 126 = .ok (.istore_n 1, 1) := by decide +kernel
theorem dX4_finds_127 : decode cX4_finds 127 = .ok (.iinc 4 1, 3) := by decide +kernel
theorem dX4_finds_130 : decode cX4_finds 130 = .ok (.goto (-107), 3) := by decide +kernel
theorem dX4_finds_133 : decode cX4_finds 133 = .ok (.iinc 2 1, 3) := by decide +kernel
theorem dX4_finds_136 : decode cX4_finds 136 = .ok (.goto (-132), 3) := by decide +kernel
theorem dX4_finds_139 : decode cX4_finds 139 = .ok (.iload_n 1, 1) := by decide +kernel
theorem dX4_finds_140 : decode cX4_finds 140 = .ok (.ireturn, 1) := by decide +kernel
set_option maxRecDepth 20000 in
theorem ggX4_pairs_X4_finds : GoodIn wsX4_pairs wsX4_finds := goodIn_r _ [6, 7, 8, 9, 10, 11, 12, 13, 5, 14, 15, 16, 17, 18, 19, 20, 21, 22, 23, 24, 25, 26, 27, 28, 29, 30, 31, 32, 33, 34, 35, 36, 37, 38, 39] (by decide +kernel) (by decide +kernel)
set_option maxRecDepth 20000 in
theorem gX4_pairs_X4_finds : GoodIn wsX4_pairs (wsV RX4 104 RX4 yX4_finds wsX4_finds) := goodIn_app (goodIn_of _ (by decide +kernel)) ggX4_pairs_X4_finds
theorem dX4_pairs_0 : decode cX4_pairs 0 = .ok (.aload_n 0, 1) := by decide +kernel
theorem dX4_pairs_1 : decode cX4_pairs 1 = .ok (.iconst 0, 1) := by decide +kernel
theorem dX4_pairs_2 : decode cX4_pairs 2 = .ok (.putfield 31, 3) := by decide +kernel
theorem dX4_pairs_5 : decode cX4_pairs 5 = .ok (.aload_n 0, 1) := by decide +kernel
theorem dX4_pairs_6 : decode cX4_pairs 6 = .ok (.invokevirtual 104, 3) := by decide +kernel
theorem dX4_pairs_9 : decode cX4_pairs 9 = .ok (.ireturn, 1) := by decide +kernel
set_option maxRecDepth 20000 in
theorem ggX4_pairAt_X4_finds : GoodIn wsX4_pairAt wsX4_finds := goodIn_r _ [7, 1, 8, 9, 2, 10, 11, 12, 6, 13, 14, 15, 16, 17, 18, 19, 20, 21, 22, 23, 24, 25, 26, 27, 28, 29, 38, 39, 40, 41, 42, 43, 44, 45, 46] (by decide +kernel) (by decide +kernel)
set_option maxRecDepth 20000 in
theorem gX4_pairAt_X4_finds : GoodIn wsX4_pairAt (wsV RX4 104 RX4 yX4_finds wsX4_finds) := goodIn_app (goodIn_of _ (by decide +kernel)) ggX4_pairAt_X4_finds
set_option maxRecDepth 20000 in
theorem ggX4_pairAt_X4_isIn : GoodIn wsX4_pairAt wsX4_isIn := goodIn_r _ [32] (by decide +kernel) (by decide +kernel)
set_option maxRecDepth 20000 in
theorem gX4_pairAt_X4_isIn : GoodIn wsX4_pairAt (va_wsS RX4 38 yX4_isIn wsX4_isIn) := goodIn_app (goodIn_of _ (by decide +kernel)) ggX4_pairAt_X4_isIn
set_option maxRecDepth 20000 in
theorem ggX4_pairAt_X4_isFine : GoodIn wsX4_pairAt wsX4_isFine := goodIn_r _ [36, 37, 38, 39, 40, 41, 42, 43, 44, 45, 46] (by decide +kernel) (by decide +kernel)
set_option maxRecDepth 20000 in
theorem gX4_pairAt_X4_isFine : GoodIn wsX4_pairAt (wsV RX4 46 RX4 yX4_isFine wsX4_isFine) := goodIn_app (goodIn_of _ (by decide +kernel)) ggX4_pairAt_X4_isFine
theorem dX4_pairAt_0 : decode cX4_pairAt 0 = .ok (.aload_n 0, 1) := by decide +kernel
theorem dX4_pairAt_1 : decode cX4_pairAt 1 = .ok (.iload_n 1, 1) := by decide +kernel
theorem dX4_pairAt_2 : decode cX4_pairAt 2 = .ok (.iconst 0, 1) := by decide +kernel
theorem dX4_pairAt_3 : decode cX4_pairAt 3 = .ok (.aload_n 0, 1) := by decide +kernel
theorem dX4_pairAt_4 : decode cX4_pairAt 4 = .ok (.invokevirtual 104, 3) := by decide +kernel
theorem dX4_pairAt_7 : decode cX4_pairAt 7 = .ok (.iconst 1, 1) := by decide +kernel
theorem dX4_pairAt_8 : decode cX4_pairAt 8 = .ok (.isub, 1) := by decide +kernel
theorem dX4_pairAt_9 : decode cX4_pairAt 9 = .ok (.invokestatic 38, 3) := by decide +kernel
theorem dX4_pairAt_12 : decode cX4_pairAt 12 = .ok (.ifCond .eq 7, 3) := by decide +kernel
theorem dX4_pairAt_15 : decode cX4_pairAt 15 = .ok (.iconst 0, 1) := by decide +kernel
theorem dX4_pairAt_16 : decode cX4_pairAt 16 = .ok (.goto 4, 3) := by decide +kernel
theorem dX4_pairAt_19 : decode cX4_pairAt 19 = .ok (.iconst 1, 1) := by decide +kernel
theorem dX4_pairAt_20 : decode cX4_pairAt 20 = .ok (.invokevirtual 46, 3) := by decide +kernel
theorem dX4_pairAt_23 : decode cX4_pairAt 23 = .ok (.ifCond .ne 5, 3) := by decide +kernel
theorem dX4_pairAt_26 : decode cX4_pairAt 26 = .ok (.iconst 0, 1) := by decide +kernel
theorem dX4_pairAt_27 : decode cX4_pairAt 27 = .ok (.ireturn, 1) := by decide +kernel
theorem dX4_pairAt_28 : decode cX4_pairAt 28 = .ok (.iconst 0, 1) := by decide +kernel
theorem dX4_pairAt_29 : decode cX4_pairAt 29 = .ok (.istore_n 2, 1) := by decide +kernel
theorem dX4_pairAt_30 : decode cX4_pairAt 30 = .ok (.iconst 0, 1) := by decide +kernel
theorem dX4_pairAt_31 : decode cX4_pairAt 31 = .ok (.istore_n 3, 1) := by decide +kernel
theorem dX4_pairAt_32 : decode cX4_pairAt 32 = .ok (.iload_n 3, 1) := by decide +kernel
theorem dX4_pairAt_33 : decode cX4_pairAt 33 = .ok (.iload_n 1, 1) := by decide +kernel
theorem dX4_pairAt_34 : decode cX4_pairAt 34 = .ok (.if_icmp .gt 119, 3) := by decide +kernel
theorem dX4_pairAt_37 : decode cX4_pairAt 37 = .ok (.iconst (-1), 1) := by decide +kernel
theorem dX4_pairAt_38 : decode cX4_pairAt 38 = .ok (.istore_n 2, 1) := by decide +kernel
theorem dX4_pairAt_39 : decode cX4_pairAt 39 = .ok (.iconst 0, 1) := by decide +kernel
theorem dX4_pairAt_40 : decode cX4_pairAt 40 = .ok (.istore 4, 2) := by decide +kernel
theorem dX4_pairAt_42 : decode cX4_pairAt 42 = .ok (.iload 4, 2) := by decide +kernel
theorem dX4_pairAt_44 : decode cX4_pairAt 44 = .ok (.aload_n 0, 1) := by decide +kernel
theorem dX4_pairAt_45 : decode cX4_pairAt 45 = .ok (.getfield 35, 3) := by decide +kernel
theorem dX4_pairAt_48 : decode cX4_pairAt 48 = .ok (.if_icmp .ge 78, 3) := by decide +kernel
theorem dX4_pairAt_51 : decode cX4_pairAt 51 = .ok (.iload 4, 2) := by decide +kernel
theorem dX4_pairAt_53 : decode cX4_pairAt 53 = .ok (.iconst 1, 1) := by decide +kernel
theorem dX4_pairAt_54 : decode cX4_pairAt 54 = .ok (.iadd, 1) := by decide +kernel
theorem dX4_pairAt_55 : decode cX4_pairAt 55 = .ok (.istore 5, 2) := by decide +kernel
theorem dX4_pairAt_57 : decode cX4_pairAt 57 = .ok (.iload 5, 2) := by decide +kernel
theorem dX4_pairAt_59 : decode cX4_pairAt 59 = .ok (.aload_n 0, 1) := by decide +kernel
theorem dX4_pairAt_60 : decode cX4_pairAt 60 = .ok (.getfield 35, 3) := by decide +kernel
theorem dX4_pairAt_63 : decode cX4_pairAt 63 = .ok (.if_icmp .ge 57, 3) := by decide +kernel
theorem dX4_pairAt_66 : decode cX4_pairAt 66 = .ok (.bipush 24, 2) := by decide +kernel
theorem dX4_pairAt_68 : decode cX4_pairAt 68 = .ok (.iload 4, 2) := by decide +kernel
theorem dX4_pairAt_70 : decode cX4_pairAt 70 = .ok (.imul, 1) := by decide +kernel
theorem dX4_pairAt_71 : decode cX4_pairAt 71 = .ok (.iload 5, 2) := by decide +kernel
theorem dX4_pairAt_73 : decode cX4_pairAt 73 = .ok (.iadd, 1) := by decide +kernel
theorem dX4_pairAt_74 : decode cX4_pairAt 74 = .ok (.istore 6, 2) := by decide +kernel
theorem dX4_pairAt_76 : decode cX4_pairAt 76 = .ok (.aload_n 0, 1) := by decide +kernel
theorem dX4_pairAt_77 : decode cX4_pairAt 77 = .ok (.getfield 28, 3) := by decide +kernel
theorem dX4_pairAt_80 : decode cX4_pairAt 80 = .ok (.iload 6, 2) := by decide +kernel
theorem dX4_pairAt_82 : decode cX4_pairAt 82 = .ok (.iaload, 1) := by decide +kernel
theorem dX4_pairAt_83 : decode cX4_pairAt 83 = .ok (.ifCond .le 29, 3) := by decide +kernel
theorem dX4_pairAt_86 : decode cX4_pairAt 86 = .ok (.iload_n 2, 1) := by decide +kernel
theorem dX4_pairAt_87 : decode cX4_pairAt 87 = .ok (.iconst (-1), 1) := by decide +kernel
theorem dX4_pairAt_88 : decode cX4_pairAt 88 = .ok (.if_icmp .eq 19, 3) := by decide +kernel
theorem dX4_pairAt_91 : decode cX4_pairAt 91 = .ok (.aload_n 0, 1) := by decide +kernel
theorem dX4_pairAt_92 : decode cX4_pairAt 92 = .ok (.getfield 28, 3) := by decide +kernel
theorem dX4_pairAt_95 : decode cX4_pairAt 95 = .ok (.iload 6, 2) := by decide +kernel
theorem dX4_pairAt_97 : decode cX4_pairAt 97 = .ok (.iaload, 1) := by decide +kernel
theorem dX4_pairAt_98 : decode cX4_pairAt 98 = .ok (.aload_n 0, 1) := by decide +kernel
theorem dX4_pairAt_99 : decode cX4_pairAt 99 = .ok (.getfield 28, 3) := by decide +kernel
theorem dX4_pairAt_102 : decode cX4_pairAt 102 = .ok (.iload_n 2, 1) := by decide +kernel
theorem dX4_pairAt_103 : decode cX4_pairAt 103 = .ok (.iaload, 1) := by decide +kernel
theorem dX4_pairAt_104 : decode cX4_pairAt 104 = .ok (.if_icmp .le 8, 3) := by decide +kernel
theorem dX4_pairAt_107 : decode cX4_pairAt 107 = .ok (.iload 6, 2) := by decide +kernel
theorem dX4_pairAt_109 : decode cX4_pairAt 109 = .ok (.goto 4, 3) := by decide +kernel
theorem dX4_pairAt_112 : decode cX4_pairAt 112 = .ok (.iload_n 2, 1) := by decide +kernel
theorem dX4_pairAt_113 : decode cX4_pairAt 113 = .ok (.istore_n 2, 1) := by decide +kernel
theorem dX4_pairAt_114 : decode cX4_pairAt 114 = .ok (.iinc 5 1, 3) := by decide +kernel
theorem dX4_pairAt_117 : decode cX4_pairAt 117 = .ok (.goto (-60), 3) := by decide +kernel
theorem dX4_pairAt_120 : decode cX4_pairAt 120 = .ok (.iinc 4 1, 3) := by decide +kernel
theorem dX4_pairAt_123 : decode cX4_pairAt 123 = .ok (.goto (-81), 3) := by decide +kernel
theorem dX4_pairAt_126 : decode cX4_pairAt 126 = .ok (.aload_n 0, 1) := by decide +kernel
theorem dX4_pairAt_127 : decode cX4_pairAt 127 = .ok (.getfield 28, 3) := by decide +kernel
theorem dX4_pairAt_130 : decode cX4_pairAt 130 = .ok (.iload_n 2, 1) := by decide +kernel
theorem dX4_pairAt_131 : decode cX4_pairAt 131 = .ok (.iload_n 3, 1) := by decide +kernel
theorem dX4_pairAt_132 : decode cX4_pairAt 132 = .ok (.iload_n 1, 1) := by decide +kernel
theorem dX4_pairAt_133 : decode cX4_pairAt 133 = .ok (.if_icmp .ge 7, 3) := by decide +kernel
theorem dX4_pairAt_136 : decode cX4_pairAt 136 = .ok (.iconst 0, 1) := by decide +kernel
theorem dX4_pairAt_137 : decode cX4_pairAt 137 = .ok (.goto 9, 3) := by decide +kernel
theorem dX4_pairAt_140 : decode cX4_pairAt 140 = .ok (.aload_n 0, 1) := by decide +kernel
theorem dX4_pairAt_141 : decode cX4_pairAt 141 = .ok (.getfield 28, 3) := by decide +kernel
theorem dX4_pairAt_144 : decode cX4_pairAt 144 = .ok (.iload_n 2, 1) := by decide +kernel
theorem dX4_pairAt_145 : decode cX4_pairAt 145 = .ok (.iaload, 1) := by decide +kernel
theorem dX4_pairAt_146 : decode cX4_pairAt 146 = .ok (.iastore, 1) := by decide +kernel
theorem dX4_pairAt_147 : decode cX4_pairAt 147 = .ok (.iinc 3 1, 3) := by decide +kernel
theorem dX4_pairAt_150 : decode cX4_pairAt 150 = .ok (.goto (-118), 3) := by decide +kernel
theorem dX4_pairAt_153 : decode cX4_pairAt 153 = .ok (.bipush 100, 2) := by decide +kernel
theorem dX4_pairAt_155 : decode cX4_pairAt 155 = .ok (.iload_n 2, 1) := by decide +kernel
theorem dX4_pairAt_156 : decode cX4_pairAt 156 = .ok (.bipush 24, 2) := by decide +kernel
theorem dX4_pairAt_158 : decode cX4_pairAt 158 = .ok (.idiv, 1) := by decide +kernel
theorem dX4_pairAt_159 : decode cX4_pairAt 159 = .ok (.imul, 1) := by decide +kernel
theorem dX4_pairAt_160 : decode cX4_pairAt 160 = .ok (.iload_n 2, 1) := by decide +kernel
theorem dX4_pairAt_161 : decode cX4_pairAt 161 = .ok (.bipush 24, 2) := by decide +kernel
theorem dX4_pairAt_163 : decode cX4_pairAt 163 = .ok (.irem, 1) := by decide +kernel
theorem dX4_pairAt_164 : decode cX4_pairAt 164 = .ok (.iadd, 1) := by decide +kernel
theorem dX4_pairAt_165 : decode cX4_pairAt 165 = .ok (.ireturn, 1) := by decide +kernel
set_option maxRecDepth 20000 in
theorem ggX4_turnDown_X4_isCard : GoodIn wsX4_turnDown wsX4_isCard := goodIn_r _ [7, 8, 9, 10, 6, 11, 50, 51, 52, 53, 54, 55, 56, 57, 58] (by decide +kernel) (by decide +kernel)
set_option maxRecDepth 20000 in
theorem gX4_turnDown_X4_isCard : GoodIn wsX4_turnDown (wsV RX4 60 RX4 yX4_isCard wsX4_isCard) := goodIn_app (goodIn_of _ (by decide +kernel)) ggX4_turnDown_X4_isCard
set_option maxRecDepth 20000 in
theorem ggX4_turnDown_X4_isSuggested : GoodIn wsX4_turnDown wsX4_isSuggested := goodIn_r _ [15, 1, 2, 16, 17, 6, 18, 19, 20, 21, 22, 23, 24, 25, 26, 8, 27, 28, 29, 30, 31, 32, 33, 34, 35, 36, 37, 38, 39, 50, 51, 52, 53, 54, 55, 56, 57, 58] (by decide +kernel) (by decide +kernel)
set_option maxRecDepth 20000 in
theorem gX4_turnDown_X4_isSuggested : GoodIn wsX4_turnDown (wsV RX4 108 RX4 yX4_isSuggested wsX4_isSuggested) := goodIn_app (goodIn_of _ (by decide +kernel)) ggX4_turnDown_X4_isSuggested
set_option maxRecDepth 20000 in
theorem ggX4_turnDown_X4_isFine : GoodIn wsX4_turnDown wsX4_isFine := goodIn_r _ [43, 44, 50, 51, 52, 53, 54, 55, 56, 57, 58] (by decide +kernel) (by decide +kernel)
set_option maxRecDepth 20000 in
theorem gX4_turnDown_X4_isFine : GoodIn wsX4_turnDown (wsV RX4 46 RX4 yX4_isFine wsX4_isFine) := goodIn_app (goodIn_of _ (by decide +kernel)) ggX4_turnDown_X4_isFine
set_option maxRecDepth 20000 in
theorem ggX4_turnDown_X4_finds : GoodIn wsX4_turnDown wsX4_finds := goodIn_r _ [48, 8, 1, 2, 49, 23, 24, 25, 6, 26, 27, 16, 17, 18, 28, 29, 30, 31, 32, 33, 34, 35, 36, 37, 38, 39, 50, 51, 52, 53, 54, 55, 56, 57, 58] (by decide +kernel) (by decide +kernel)
set_option maxRecDepth 20000 in
theorem gX4_turnDown_X4_finds : GoodIn wsX4_turnDown (wsV RX4 104 RX4 yX4_finds wsX4_finds) := goodIn_app (goodIn_of _ (by decide +kernel)) ggX4_turnDown_X4_finds
theorem dX4_turnDown_0 : decode cX4_turnDown 0 = .ok (.aload_n 0, 1) := by decide +kernel
theorem dX4_turnDown_1 : decode cX4_turnDown 1 = .ok (.iload_n 1, 1) := by decide +kernel
theorem dX4_turnDown_2 : decode cX4_turnDown 2 = .ok (.invokevirtual 60, 3) := by decide +kernel
theorem dX4_turnDown_5 : decode cX4_turnDown 5 = .ok (.ifCond .eq 15, 3) := by decide +kernel
theorem dX4_turnDown_8 : decode cX4_turnDown 8 = .ok (.aload_n 0, 1) := by decide +kernel
theorem dX4_turnDown_9 : decode cX4_turnDown 9 = .ok (.iload_n 2, 1) := by decide +kernel
theorem dX4_turnDown_10 : decode cX4_turnDown 10 = .ok (.invokevirtual 60, 3) := by decide +kernel
theorem dX4_turnDown_13 : decode cX4_turnDown 13 = .ok (.ifCond .eq 7, 3) := by decide +kernel
theorem dX4_turnDown_16 : decode cX4_turnDown 16 = .ok (.iconst 1, 1) := by decide +kernel
theorem dX4_turnDown_17 : decode cX4_turnDown 17 = .ok (.goto 4, 3) := by decide +kernel
theorem dX4_turnDown_20 : decode cX4_turnDown 20 = .ok (.iconst 0, 1) := by decide +kernel
theorem dX4_turnDown_21 : decode cX4_turnDown 21 = .ok (.istore 4, 2) := by decide +kernel
theorem dX4_turnDown_23 : decode cX4_turnDown 23 = .ok (.aload_n 0, 1) := by decide +kernel
theorem dX4_turnDown_24 : decode cX4_turnDown 24 = .ok (.iload 4, 2) := by decide +kernel
theorem dX4_turnDown_26 : decode cX4_turnDown 26 = .ok (.ifCond .ne 7, 3) := by decide +kernel
theorem dX4_turnDown_29 : decode cX4_turnDown 29 = .ok (.iconst 1, 1) := by decide +kernel
theorem dX4_turnDown_30 : decode cX4_turnDown 30 = .ok (.goto 26, 3) := by decide +kernel
theorem dX4_turnDown_33 : decode cX4_turnDown 33 = .ok (.iload_n 1, 1) := by decide +kernel
theorem dX4_turnDown_34 : decode cX4_turnDown 34 = .ok (.iload_n 2, 1) := by decide +kernel
theorem dX4_turnDown_35 : decode cX4_turnDown 35 = .ok (.if_icmp .ne 7, 3) := by decide +kernel
theorem dX4_turnDown_38 : decode cX4_turnDown 38 = .ok (.iconst 2, 1) := by decide +kernel
theorem dX4_turnDown_39 : decode cX4_turnDown 39 = .ok (.goto 17, 3) := by decide +kernel
theorem dX4_turnDown_42 : decode cX4_turnDown 42 = .ok (.aload_n 0, 1) := by decide +kernel
theorem dX4_turnDown_43 : decode cX4_turnDown 43 = .ok (.iload_n 1, 1) := by decide +kernel
theorem dX4_turnDown_44 : decode cX4_turnDown 44 = .ok (.iload_n 2, 1) := by decide +kernel
theorem dX4_turnDown_45 : decode cX4_turnDown 45 = .ok (.invokevirtual 108, 3) := by decide +kernel
theorem dX4_turnDown_48 : decode cX4_turnDown 48 = .ok (.ifCond .ne 7, 3) := by decide +kernel
theorem dX4_turnDown_51 : decode cX4_turnDown 51 = .ok (.iconst 3, 1) := by decide +kernel
theorem dX4_turnDown_52 : decode cX4_turnDown 52 = .ok (.goto 4, 3) := by decide +kernel
theorem dX4_turnDown_55 : decode cX4_turnDown 55 = .ok (.iconst 0, 1) := by decide +kernel
theorem dX4_turnDown_56 : decode cX4_turnDown 56 = .ok (.invokevirtual 46, 3) := by decide +kernel
theorem dX4_turnDown_59 : decode cX4_turnDown 59 = .ok (.ifCond .ne 5, 3) := by decide +kernel
theorem dX4_turnDown_62 : decode cX4_turnDown 62 = .ok (.iconst 0, 1) := by decide +kernel
theorem dX4_turnDown_63 : decode cX4_turnDown 63 = .ok (.ireturn, 1) := by decide +kernel
theorem dX4_turnDown_64 : decode cX4_turnDown 64 = .ok (.aload_n 0, 1) := by decide +kernel
theorem dX4_turnDown_65 : decode cX4_turnDown 65 = .ok (.getfield 22, 3) := by decide +kernel
theorem dX4_turnDown_68 : decode cX4_turnDown 68 = .ok (.iload_n 1, 1) := by decide +kernel
theorem dX4_turnDown_69 : decode cX4_turnDown 69 = .ok (.dup2, 1) := by decide +kernel
theorem dX4_turnDown_70 : decode cX4_turnDown 70 = .ok (.iaload, 1) := by decide +kernel
theorem dX4_turnDown_71 : decode cX4_turnDown 71 = .ok (.iload_n 3, 1) := by decide +kernel
theorem dX4_turnDown_72 : decode cX4_turnDown 72 = .ok (.ifCond .eq 9, 3) := by decide +kernel
theorem dX4_turnDown_75 : decode cX4_turnDown 75 = .ok (.iconst 1, 1) := by decide +kernel
theorem dX4_turnDown_76 : decode cX4_turnDown 76 = .ok (.iload_n 2, 1) := by decide +kernel
theorem dX4_turnDown_77 : decode cX4_turnDown 77 = .ok (.ishl, 1) := by decide +kernel
theorem dX4_turnDown_78 : decode cX4_turnDown 78 = .ok (.goto 4, 3) := by decide +kernel
theorem dX4_turnDown_81 : decode cX4_turnDown 81 = .ok (.iconst 0, 1) := by decide +kernel
theorem dX4_turnDown_82 : decode cX4_turnDown 82 = .ok (.ior, 1) := by decide +kernel
theorem dX4_turnDown_83 : decode cX4_turnDown 83 = .ok (.iastore, 1) := by decide +kernel
theorem dX4_turnDown_84 : decode cX4_turnDown 84 = .ok (.aload_n 0, 1) := by decide +kernel
theorem dX4_turnDown_85 : decode cX4_turnDown 85 = .ok (.getfield 22, 3) := by decide +kernel
theorem dX4_turnDown_88 : decode cX4_turnDown 88 = .ok (.iload_n 2, 1) := by decide +kernel
theorem dX4_turnDown_89 : decode cX4_turnDown 89 = .ok (.dup2, 1) := by decide +kernel
theorem dX4_turnDown_90 : decode cX4_turnDown 90 = .ok (.iaload, 1) := by decide +kernel
theorem dX4_turnDown_91 : decode cX4_turnDown 91 = .ok (.iload_n 3, 1) := by decide +kernel
theorem dX4_turnDown_92 : decode cX4_turnDown 92 = .ok (.ifCond .eq 9, 3) := by decide +kernel
theorem dX4_turnDown_95 : decode cX4_turnDown 95 = .ok (.iconst 1, 1) := by decide +kernel
theorem dX4_turnDown_96 : decode cX4_turnDown 96 = .ok (.iload_n 1, 1) := by decide +kernel
theorem dX4_turnDown_97 : decode cX4_turnDown 97 = .ok (.ishl, 1) := by decide +kernel
theorem dX4_turnDown_98 : decode cX4_turnDown 98 = .ok (.goto 4, 3) := by decide +kernel
theorem dX4_turnDown_101 : decode cX4_turnDown 101 = .ok (.iconst 0, 1) := by decide +kernel
theorem dX4_turnDown_102 : decode cX4_turnDown 102 = .ok (.ior, 1) := by decide +kernel
theorem dX4_turnDown_103 : decode cX4_turnDown 103 = .ok (.iastore, 1) := by decide +kernel
theorem dX4_turnDown_104 : decode cX4_turnDown 104 = .ok (.aload_n 0, 1) := by decide +kernel
theorem dX4_turnDown_105 : decode cX4_turnDown 105 = .ok (.getfield 25, 3) := by decide +kernel
theorem dX4_turnDown_108 : decode cX4_turnDown 108 = .ok (.iload_n 1, 1) := by decide +kernel
theorem dX4_turnDown_109 : decode cX4_turnDown 109 = .ok (.dup2, 1) := by decide +kernel
theorem dX4_turnDown_110 : decode cX4_turnDown 110 = .ok (.iaload, 1) := by decide +kernel
theorem dX4_turnDown_111 : decode cX4_turnDown 111 = .ok (.iload_n 3, 1) := by decide +kernel
theorem dX4_turnDown_112 : decode cX4_turnDown 112 = .ok (.ifCond .eq 7, 3) := by decide +kernel
theorem dX4_turnDown_115 : decode cX4_turnDown 115 = .ok (.iconst 0, 1) := by decide +kernel
theorem dX4_turnDown_116 : decode cX4_turnDown 116 = .ok (.goto 6, 3) := by decide +kernel
theorem dX4_turnDown_119 : decode cX4_turnDown 119 = .ok (.iconst 1, 1) := by decide +kernel
theorem dX4_turnDown_120 : decode cX4_turnDown 120 = .ok (.iload_n 2, 1) := by decide +kernel
theorem dX4_turnDown_121 : decode cX4_turnDown 121 = .ok (.ishl, 1) := by decide +kernel
theorem dX4_turnDown_122 : decode cX4_turnDown 122 = .ok (.ior, 1) := by decide +kernel
theorem dX4_turnDown_123 : decode cX4_turnDown 123 = .ok (.iastore, 1) := by decide +kernel
theorem dX4_turnDown_124 : decode cX4_turnDown 124 = .ok (.aload_n 0, 1) := by decide +kernel
theorem dX4_turnDown_125 : decode cX4_turnDown 125 = .ok (.getfield 25, 3) := by decide +kernel
theorem dX4_turnDown_128 : decode cX4_turnDown 128 = .ok (.iload_n 2, 1) := by decide +kernel
theorem dX4_turnDown_129 : decode cX4_turnDown 129 = .ok (.dup2, 1) := by decide +kernel
theorem dX4_turnDown_130 : decode cX4_turnDown 130 = .ok (.iaload, 1) := by decide +kernel
theorem dX4_turnDown_131 : decode cX4_turnDown 131 = .ok (.iload_n 3, 1) := by decide +kernel
theorem dX4_turnDown_132 : decode cX4_turnDown 132 = .ok (.ifCond .eq 7, 3) := by decide +kernel
theorem dX4_turnDown_135 : decode cX4_turnDown 135 = .ok (.iconst 0, 1) := by decide +kernel
theorem dX4_turnDown_136 : decode cX4_turnDown 136 = .ok (.goto 6, 3) := by decide +kernel
theorem dX4_turnDown_139 : decode cX4_turnDown 139 = .ok (.iconst 1, 1) := by decide +kernel
theorem dX4_turnDown_140 : decode cX4_turnDown 140 = .ok (.iload_n 1, 1) := by decide +kernel
theorem dX4_turnDown_141 : decode cX4_turnDown 141 = .ok (.ishl, 1) := by decide +kernel
theorem dX4_turnDown_142 : decode cX4_turnDown 142 = .ok (.ior, 1) := by decide +kernel
theorem dX4_turnDown_143 : decode cX4_turnDown 143 = .ok (.iastore, 1) := by decide +kernel
theorem dX4_turnDown_144 : decode cX4_turnDown 144 = .ok (.aload_n 0, 1) := by decide +kernel
theorem dX4_turnDown_145 : decode cX4_turnDown 145 = .ok (.invokevirtual 104, 3) := by decide +kernel
theorem dX4_turnDown_148 : decode cX4_turnDown 148 = .ok (.ireturn, 1) := by decide +kernel
