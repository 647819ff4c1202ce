theorem inJ6 : ∀ w ∈ wsJ60, w ∈ lw_tbl := by decide +kernel
theorem inJ0 : ∀ w ∈ wsJ00, w ∈ lw_tbl := by decide +kernel
theorem dX0_init_0 : decode cX0_init 0 = .ok (.aload_n 0, 1) := by decide +kernel
theorem dX0_init_1 : decode cX0_init 1 = .ok (.invokespecial 3, 3) := by decide +kernel
theorem dX0_init_4 : decode cX0_init 4 = .ok (.aload_n 0, 1) := by decide +kernel
theorem dX0_init_5 : decode cX0_init 5 = .ok (.bipush 24, 2) := by decide +kernel
theorem dX0_init_7 : decode cX0_init 7 = .ok (.newarray .int, 2) := by decide +kernel
theorem dX0_init_9 : decode cX0_init 9 = .ok (.putfield 9, 3) := by decide +kernel
theorem dX0_init_12 : decode cX0_init 12 = .ok (.aload_n 0, 1) := by decide +kernel
theorem dX0_init_13 : decode cX0_init 13 = .ok (.iconst 3, 1) := by decide +kernel
theorem dX0_init_14 : decode cX0_init 14 = .ok (.bipush 24, 2) := by decide +kernel
theorem dX0_init_16 : decode cX0_init 16 = .ok (.multianewarray 15 2, 4) := by decide +kernel
theorem dX0_init_20 : decode cX0_init 20 = .ok (.putfield 17, 3) := by decide +kernel
theorem dX0_init_23 : decode cX0_init 23 = .ok (.aload_n 0, 1) := by decide +kernel
theorem dX0_init_24 : decode cX0_init 24 = .ok (.bipush 6, 2) := by decide +kernel
theorem dX0_init_26 : decode cX0_init 26 = .ok (.bipush 24, 2) := by decide +kernel
theorem dX0_init_28 : decode cX0_init 28 = .ok (.multianewarray 15 2, 4) := by decide +kernel
theorem dX0_init_32 : decode cX0_init 32 = .ok (.putfield 20, 3) := by decide +kernel
theorem dX0_init_35 : decode cX0_init 35 = .ok (.aload_n 0, 1) := by decide +kernel
theorem dX0_init_36 : decode cX0_init 36 = .ok (.bipush 24, 2) := by decide +kernel
theorem dX0_init_38 : decode cX0_init 38 = .ok (.newarray .int, 2) := by decide +kernel
theorem dX0_init_40 : decode cX0_init 40 = .ok (.putfield 23, 3) := by decide +kernel
theorem dX0_init_43 : decode cX0_init 43 = .ok (.aload_n 0, 1) := by decide +kernel
theorem dX0_init_44 : decode cX0_init 44 = .ok (.iconst 0, 1) := by decide +kernel
theorem dX0_init_45 : decode cX0_init 45 = .ok (.putfield 26, 3) := by decide +kernel
theorem dX0_init_48 : decode cX0_init 48 = .ok (.return_, 1) := by decide +kernel
theorem dX0_append_0 : decode cX0_append 0 = .ok (.aload_n 0, 1) := by decide +kernel
theorem dX0_append_1 : decode cX0_append 1 = .ok (.getfield 26, 3) := by decide +kernel
theorem dX0_append_4 : decode cX0_append 4 = .ok (.istore_n 3, 1) := by decide +kernel
theorem dX0_append_5 : decode cX0_append 5 = .ok (.aload_n 0, 1) := by decide +kernel
theorem dX0_append_6 : decode cX0_append 6 = .ok (.getfield 9, 3) := by decide +kernel
theorem dX0_append_9 : decode cX0_append 9 = .ok (.iload_n 3, 1) := by decide +kernel
theorem dX0_append_10 : decode cX0_append 10 = .ok (.iload_n 1, 1) := by decide +kernel
theorem dX0_append_11 : decode cX0_append 11 = .ok (.iastore, 1) := by decide +kernel
theorem dX0_append_12 : decode cX0_append 12 = .ok (.iconst 0, 1) := by decide +kernel
theorem dX0_append_13 : decode cX0_append 13 = .ok (.istore 4, 2) := by decide +kernel
theorem dX0_append_15 : decode cX0_append 15 = .ok (.iload 4, 2) := by decide +kernel
theorem dX0_append_17 : decode cX0_append 17 = .ok (.iconst 3, 1) := by decide +kernel
theorem dX0_append_18 : decode cX0_append 18 = .ok (.if_icmp .ge 19, 3) := by decide +kernel
theorem dX0_append_21 : decode cX0_append 21 = .ok (.aload_n 0, 1) := by decide +kernel
theorem dX0_append_22 : decode cX0_append 22 = .ok (.getfield 17, 3) := by decide +kernel
theorem dX0_append_25 : decode cX0_append 25 = .ok (.iload 4, 2) := by decide +kernel
theorem dX0_append_27 : decode cX0_append 27 = .ok (.aaload, 1) := by decide +kernel
theorem dX0_append_28 : decode cX0_append 28 = .ok (.iload_n 3, 1) := by decide +kernel
theorem dX0_append_29 : decode cX0_append 29 = .ok (.iload_n 2, 1) := by decide +kernel
theorem dX0_append_30 : decode cX0_append 30 = .ok (.iastore, 1) := by decide +kernel
theorem dX0_append_31 : decode cX0_append 31 = .ok (.iinc 4 1, 3) := by decide +kernel
theorem dX0_append_34 : decode cX0_append 34 = .ok (.goto (-19), 3) := by decide +kernel
theorem dX0_append_37 : decode cX0_append 37 = .ok (.aload_n 0, 1) := by decide +kernel
theorem dX0_append_38 : decode cX0_append 38 = .ok (.dup, 1) := by decide +kernel
theorem dX0_append_39 : decode cX0_append 39 = .ok (.getfield 26, 3) := by decide +kernel
theorem dX0_append_42 : decode cX0_append 42 = .ok (.iconst 1, 1) := by decide +kernel
theorem dX0_append_43 : decode cX0_append 43 = .ok (.iadd, 1) := by decide +kernel
theorem dX0_append_44 : decode cX0_append 44 = .ok (.putfield 26, 3) := by decide +kernel
theorem dX0_append_47 : decode cX0_append 47 = .ok (.iload_n 3, 1) := by decide +kernel
theorem dX0_append_48 : decode cX0_append 48 = .ok (.ireturn, 1) := by decide +kernel
theorem dX0_isIn_0 : decode cX0_isIn 0 = .ok (.aload_n 0, 1) := by decide +kernel
theorem dX0_isIn_1 : decode cX0_isIn 1 = .ok (.getfield 9, 3) := by decide +kernel
theorem dX0_isIn_4 : decode cX0_isIn 4 = .ok (.iload_n 1, 1) := by decide +kernel
theorem dX0_isIn_5 : decode cX0_isIn 5 = .ok (.iaload, 1) := by decide +kernel
theorem dX0_isIn_6 : decode cX0_isIn 6 = .ok (.iload_n 2, 1) := by decide +kernel
theorem dX0_isIn_7 : decode cX0_isIn 7 = .ok (.if_icmp .ne 7, 3) := by decide +kernel
theorem dX0_isIn_10 : decode cX0_isIn 10 = .ok (.iconst 1, 1) := by decide +kernel
theorem dX0_isIn_11 : decode cX0_isIn 11 = .ok (.goto 4, 3) := by decide +kernel
theorem dX0_isIn_14 : decode cX0_isIn 14 = .ok (.iconst 0, 1) := by decide +kernel
theorem dX0_isIn_15 : decode cX0_isIn 15 = .ok (.ireturn, 1) := by decide +kernel
theorem dX0_nameIn_0 : decode cX0_nameIn 0 = .ok (.aload_n 0, 1) := by decide +kernel
theorem dX0_nameIn_1 : decode cX0_nameIn 1 = .ok (.getfield 17, 3) := by decide +kernel
theorem dX0_nameIn_4 : decode cX0_nameIn 4 = .ok (.iload_n 2, 1) := by decide +kernel
theorem dX0_nameIn_5 : decode cX0_nameIn 5 = .ok (.aaload, 1) := by decide +kernel
theorem dX0_nameIn_6 : decode cX0_nameIn 6 = .ok (.iload_n 1, 1) := by decide +kernel
theorem dX0_nameIn_7 : decode cX0_nameIn 7 = .ok (.iaload, 1) := by decide +kernel
theorem dX0_nameIn_8 : decode cX0_nameIn 8 = .ok (.ireturn, 1) := by decide +kernel
theorem dX0_setOf_0 : decode cX0_setOf 0 = .ok (.aload_n 0, 1) := by decide +kernel
theorem dX0_setOf_1 : decode cX0_setOf 1 = .ok (.getfield 20, 3) := by decide +kernel
theorem dX0_setOf_4 : decode cX0_setOf 4 = .ok (.iload_n 2, 1) := by decide +kernel
theorem dX0_setOf_5 : decode cX0_setOf 5 = .ok (.iconst 2, 1) := by decide +kernel
theorem dX0_setOf_6 : decode cX0_setOf 6 = .ok (.imul, 1) := by decide +kernel
theorem dX0_setOf_7 : decode cX0_setOf 7 = .ok (.iload_n 3, 1) := by decide +kernel
theorem dX0_setOf_8 : decode cX0_setOf 8 = .ok (.iadd, 1) := by decide +kernel
theorem dX0_setOf_9 : decode cX0_setOf 9 = .ok (.aaload, 1) := by decide +kernel
theorem dX0_setOf_10 : decode cX0_setOf 10 = .ok (.iload_n 1, 1) := by decide +kernel
theorem dX0_setOf_11 : decode cX0_setOf 11 = .ok (.iaload, 1) := by decide +kernel
theorem dX0_setOf_12 : decode cX0_setOf 12 = .ok (.ireturn, 1) := by decide +kernel
theorem dX0_putName_0 : decode cX0_putName 0 = .ok (.iload_n 2, 1) := by decide +kernel
theorem dX0_putName_1 : decode cX0_putName 1 = .ok (.ifCond .ne 25, 3) := by decide +kernel
theorem dX0_putName_4 : decode cX0_putName 4 = .ok (.aload_n 0, 1) := by decide +kernel
theorem dX0_putName_5 : decode cX0_putName 5 = .ok (.getfield 17, 3) := by decide +kernel
theorem dX0_putName_8 : decode cX0_putName 8 = .ok (.iload_n 2, 1) := by decide +kernel
theorem dX0_putName_9 : decode cX0_putName 9 = .ok (.aaload, 1) := by decide +kernel
theorem dX0_putName_10 : decode cX0_putName 10 = .ok (.iload_n 1, 1) := by decide +kernel
theorem dX0_putName_11 : decode cX0_putName 11 = .ok (.iaload, 1) := by decide +kernel
theorem dX0_putName_12 : decode cX0_putName 12 = .ok (.iload_n 3, 1) := by decide +kernel
theorem dX0_putName_13 : decode cX0_putName 13 = .ok (.if_icmp .eq 13, 3) := by decide +kernel
theorem dX0_putName_16 : decode cX0_putName 16 = .ok (.aload_n 0, 1) := by decide +kernel
theorem dX0_putName_17 : decode cX0_putName 17 = .ok (.getfield 23, 3) := by decide +kernel
theorem dX0_putName_20 : decode cX0_putName 20 = .ok (.iload_n 1, 1) := by decide +kernel
theorem dX0_putName_21 : decode cX0_putName 21 = .ok (.dup2, 1) := by decide +kernel
theorem dX0_putName_22 : decode cX0_putName 22 = .ok (.iaload, 1) := by decide +kernel
theorem dX0_putName_23 : decode cX0_putName 23 = .ok (.iconst 1, 1) := by decide +kernel
theorem dX0_putName_24 : decode cX0_putName 24 = .ok (.iadd, 1) := by decide +kernel
theorem dX0_putName_25 : decode cX0_putName 25 = .ok (.iastore, 1) := by decide +kernel
theorem dX0_putName_26 : decode cX0_putName 26 = .ok (.aload_n 0, 1) := by decide +kernel
theorem dX0_putName_27 : decode cX0_putName 27 = .ok (.getfield 17, 3) := by decide +kernel
theorem dX0_putName_30 : decode cX0_putName 30 = .ok (.iload_n 2, 1) := by decide +kernel
theorem dX0_putName_31 : decode cX0_putName 31 = .ok (.aaload, 1) := by decide +kernel
theorem dX0_putName_32 : decode cX0_putName 32 = .ok (.iload_n 1, 1) := by decide +kernel
theorem dX0_putName_33 : decode cX0_putName 33 = .ok (.iload_n 3, 1) := by decide +kernel
theorem dX0_putName_34 : decode cX0_putName 34 = .ok (.iastore, 1) := by decide +kernel
theorem dX0_putName_35 : decode cX0_putName 35 = .ok (.return_, 1) := by decide +kernel
set_option maxRecDepth 20000 in
theorem ggX0_putSet_X0_setOf : GoodIn wsX0_putSet wsX0_setOf := goodIn_r _ [7, 2, 8, 9, 10, 11, 12] (by decide +kernel) (by decide +kernel)
set_option maxRecDepth 20000 in
theorem gX0_putSet_X0_setOf : GoodIn wsX0_putSet (wsV RX0 30 RX0 yX0_setOf wsX0_setOf) := goodIn_app (goodIn_of _ (by decide +kernel)) ggX0_putSet_X0_setOf
theorem dX0_putSet_0 : decode cX0_putSet 0 = .ok (.iload_n 2, 1) := by decide +kernel
theorem dX0_putSet_1 : decode cX0_putSet 1 = .ok (.ifCond .ne 25, 3) := by decide +kernel
theorem dX0_putSet_4 : decode cX0_putSet 4 = .ok (.aload_n 0, 1) := by decide +kernel
theorem dX0_putSet_5 : decode cX0_putSet 5 = .ok (.iload_n 1, 1) := by decide +kernel
theorem dX0_putSet_6 : decode cX0_putSet 6 = .ok (.iload_n 2, 1) := by decide +kernel
theorem dX0_putSet_7 : decode cX0_putSet 7 = .ok (.iload_n 3, 1) := by decide +kernel
theorem dX0_putSet_8 : decode cX0_putSet 8 = .ok (.invokevirtual 30, 3) := by decide +kernel
theorem dX0_putSet_11 : decode cX0_putSet 11 = .ok (.iload 4, 2) := by decide +kernel
theorem dX0_putSet_13 : decode cX0_putSet 13 = .ok (.if_icmp .eq 13, 3) := by decide +kernel
theorem dX0_putSet_16 : decode cX0_putSet 16 = .ok (.aload_n 0, 1) := by decide +kernel
theorem dX0_putSet_17 : decode cX0_putSet 17 = .ok (.getfield 23, 3) := by decide +kernel
theorem dX0_putSet_20 : decode cX0_putSet 20 = .ok (.iload_n 1, 1) := by decide +kernel
theorem dX0_putSet_21 : decode cX0_putSet 21 = .ok (.dup2, 1) := by decide +kernel
theorem dX0_putSet_22 : decode cX0_putSet 22 = .ok (.iaload, 1) := by decide +kernel
theorem dX0_putSet_23 : decode cX0_putSet 23 = .ok (.iconst 1, 1) := by decide +kernel
theorem dX0_putSet_24 : decode cX0_putSet 24 = .ok (.iadd, 1) := by decide +kernel
theorem dX0_putSet_25 : decode cX0_putSet 25 = .ok (.iastore, 1) := by decide +kernel
theorem dX0_putSet_26 : decode cX0_putSet 26 = .ok (.aload_n 0, 1) := by decide +kernel
theorem dX0_putSet_27 : decode cX0_putSet 27 = .ok (.getfield 20, 3) := by decide +kernel
theorem dX0_putSet_30 : decode cX0_putSet 30 = .ok (.iload_n 2, 1) := by decide +kernel
theorem dX0_putSet_31 : decode cX0_putSet 31 = .ok (.iconst 2, 1) := by decide +kernel
theorem dX0_putSet_32 : decode cX0_putSet 32 = .ok (.imul, 1) := by decide +kernel
theorem dX0_putSet_33 : decode cX0_putSet 33 = .ok (.iload_n 3, 1) := by decide +kernel
theorem dX0_putSet_34 : decode cX0_putSet 34 = .ok (.iadd, 1) := by decide +kernel
theorem dX0_putSet_35 : decode cX0_putSet 35 = .ok (.aaload, 1) := by decide +kernel
theorem dX0_putSet_36 : decode cX0_putSet 36 = .ok (.iload_n 1, 1) := by decide +kernel
theorem dX0_putSet_37 : decode cX0_putSet 37 = .ok (.iload 4, 2) := by decide +kernel
theorem dX0_putSet_39 : decode cX0_putSet 39 = .ok (.iastore, 1) := by decide +kernel
theorem dX0_putSet_40 : decode cX0_putSet 40 = .ok (.return_, 1) := by decide +kernel
theorem dX0_mineChangesOf_0 : decode cX0_mineChangesOf 0 = .ok (.aload_n 0, 1) := by decide +kernel
theorem dX0_mineChangesOf_1 : decode cX0_mineChangesOf 1 = .ok (.getfield 23, 3) := by decide +kernel
theorem dX0_mineChangesOf_4 : decode cX0_mineChangesOf 4 = .ok (.iload_n 1, 1) := by decide +kernel
theorem dX0_mineChangesOf_5 : decode cX0_mineChangesOf 5 = .ok (.iaload, 1) := by decide +kernel
theorem dX0_mineChangesOf_6 : decode cX0_mineChangesOf 6 = .ok (.aload_n 0, 1) := by decide +kernel
theorem dX0_mineChangesOf_7 : decode cX0_mineChangesOf 7 = .ok (.getfield 23, 3) := by decide +kernel
theorem dX0_mineChangesOf_10 : decode cX0_mineChangesOf 10 = .ok (.iload_n 2, 1) := by decide +kernel
theorem dX0_mineChangesOf_11 : decode cX0_mineChangesOf 11 = .ok (.iaload, 1) := by decide +kernel
theorem dX0_mineChangesOf_12 : decode cX0_mineChangesOf 12 = .ok (.iadd, 1) := by decide +kernel
theorem dX0_mineChangesOf_13 : decode cX0_mineChangesOf 13 = .ok (.ireturn, 1) := by decide +kernel
set_option maxRecDepth 20000 in
theorem ggX0_mergedSet_X0_setOf : GoodIn wsX0_mergedSet wsX0_setOf := goodIn_r _ [5, 6, 7, 8, 9, 10, 11] (by decide +kernel) (by decide +kernel)
set_option maxRecDepth 20000 in
theorem gX0_mergedSet_X0_setOf : GoodIn wsX0_mergedSet (wsV RX0 30 RX0 yX0_setOf wsX0_setOf) := goodIn_app (goodIn_of _ (by decide +kernel)) ggX0_mergedSet_X0_setOf
theorem dX0_mergedSet_0 : decode cX0_mergedSet 0 = .ok (.aload_n 0, 1) := by decide +kernel
theorem dX0_mergedSet_1 : decode cX0_mergedSet 1 = .ok (.iload_n 1, 1) := by decide +kernel
theorem dX0_mergedSet_2 : decode cX0_mergedSet 2 = .ok (.iconst 0, 1) := by decide +kernel
theorem dX0_mergedSet_3 : decode cX0_mergedSet 3 = .ok (.iload_n 2, 1) := by decide +kernel
theorem dX0_mergedSet_4 : decode cX0_mergedSet 4 = .ok (.invokevirtual 30, 3) := by decide +kernel
theorem dX0_mergedSet_7 : decode cX0_mergedSet 7 = .ok (.istore_n 3, 1) := by decide +kernel
theorem dX0_mergedSet_8 : decode cX0_mergedSet 8 = .ok (.aload_n 0, 1) := by decide +kernel
theorem dX0_mergedSet_9 : decode cX0_mergedSet 9 = .ok (.iload_n 1, 1) := by decide +kernel
theorem dX0_mergedSet_10 : decode cX0_mergedSet 10 = .ok (.iconst 1, 1) := by decide +kernel
theorem dX0_mergedSet_11 : decode cX0_mergedSet 11 = .ok (.iload_n 2, 1) := by decide +kernel
theorem dX0_mergedSet_12 : decode cX0_mergedSet 12 = .ok (.invokevirtual 30, 3) := by decide +kernel
theorem dX0_mergedSet_15 : decode cX0_mergedSet 15 = .ok (.istore 4, 2) := by decide +kernel
theorem dX0_mergedSet_17 : decode cX0_mergedSet 17 = .ok (.aload_n 0, 1) := by decide +kernel
theorem dX0_mergedSet_18 : decode cX0_mergedSet 18 = .ok (.iload_n 1, 1) := by decide +kernel
theorem dX0_mergedSet_19 : decode cX0_mergedSet 19 = .ok (.iconst 2, 1) := by decide +kernel
theorem dX0_mergedSet_20 : decode cX0_mergedSet 20 = .ok (.iload_n 2, 1) := by decide +kernel
theorem dX0_mergedSet_21 : decode cX0_mergedSet 21 = .ok (.invokevirtual 30, 3) := by decide +kernel
theorem dX0_mergedSet_24 : decode cX0_mergedSet 24 = .ok (.istore 5, 2) := by decide +kernel
theorem dX0_mergedSet_26 : decode cX0_mergedSet 26 = .ok (.iload_n 3, 1) := by decide +kernel
theorem dX0_mergedSet_27 : decode cX0_mergedSet 27 = .ok (.iload 4, 2) := by decide +kernel
theorem dX0_mergedSet_29 : decode cX0_mergedSet 29 = .ok (.iand, 1) := by decide +kernel
theorem dX0_mergedSet_30 : decode cX0_mergedSet 30 = .ok (.iload_n 3, 1) := by decide +kernel
theorem dX0_mergedSet_31 : decode cX0_mergedSet 31 = .ok (.iload 4, 2) := by decide +kernel
theorem dX0_mergedSet_33 : decode cX0_mergedSet 33 = .ok (.ixor, 1) := by decide +kernel
theorem dX0_mergedSet_34 : decode cX0_mergedSet 34 = .ok (.iload 5, 2) := by decide +kernel
theorem dX0_mergedSet_36 : decode cX0_mergedSet 36 = .ok (.iconst (-1), 1) := by decide +kernel
theorem dX0_mergedSet_37 : decode cX0_mergedSet 37 = .ok (.ixor, 1) := by decide +kernel
theorem dX0_mergedSet_38 : decode cX0_mergedSet 38 = .ok (.iand, 1) := by decide +kernel
theorem dX0_mergedSet_39 : decode cX0_mergedSet 39 = .ok (.ior, 1) := by decide +kernel
theorem dX0_mergedSet_40 : decode cX0_mergedSet 40 = .ok (.ireturn, 1) := by decide +kernel
set_option maxRecDepth 20000 in
theorem ggX0_mergedSetByValues_X0_setOf : GoodIn wsX0_mergedSetByValues wsX0_setOf := goodIn_r _ [5, 6, 10, 11, 12, 13, 14] (by decide +kernel) (by decide +kernel)
set_option maxRecDepth 20000 in
theorem gX0_mergedSetByValues_X0_setOf : GoodIn wsX0_mergedSetByValues (wsV RX0 30 RX0 yX0_setOf wsX0_setOf) := goodIn_app (goodIn_of _ (by decide +kernel)) ggX0_mergedSetByValues_X0_setOf
set_option maxRecDepth 20000 in
theorem ggX0_mergedSetByValues_X3_has : GoodIn wsX0_mergedSetByValues wsX3_has := goodIn_r _ [9] (by decide +kernel) (by decide +kernel)
set_option maxRecDepth 20000 in
theorem gX0_mergedSetByValues_X3_has_n34 : GoodIn wsX0_mergedSetByValues (wsX3_has) := ggX0_mergedSetByValues_X3_has
theorem dX0_mergedSetByValues_0 : decode cX0_mergedSetByValues 0 = .ok (.aload_n 0, 1) := by decide +kernel
theorem dX0_mergedSetByValues_1 : decode cX0_mergedSetByValues 1 = .ok (.iload_n 1, 1) := by decide +kernel
theorem dX0_mergedSetByValues_2 : decode cX0_mergedSetByValues 2 = .ok (.iconst 0, 1) := by decide +kernel
theorem dX0_mergedSetByValues_3 : decode cX0_mergedSetByValues 3 = .ok (.iload_n 2, 1) := by decide +kernel
theorem dX0_mergedSetByValues_4 : decode cX0_mergedSetByValues 4 = .ok (.invokevirtual 30, 3) := by decide +kernel
theorem dX0_mergedSetByValues_7 : decode cX0_mergedSetByValues 7 = .ok (.istore_n 3, 1) := by decide +kernel
theorem dX0_mergedSetByValues_8 : decode cX0_mergedSetByValues 8 = .ok (.aload_n 0, 1) := by decide +kernel
theorem dX0_mergedSetByValues_9 : decode cX0_mergedSetByValues 9 = .ok (.iload_n 1, 1) := by decide +kernel
theorem dX0_mergedSetByValues_10 : decode cX0_mergedSetByValues 10 = .ok (.iconst 1, 1) := by decide +kernel
theorem dX0_mergedSetByValues_11 : decode cX0_mergedSetByValues 11 = .ok (.iload_n 2, 1) := by decide +kernel
theorem dX0_mergedSetByValues_12 : decode cX0_mergedSetByValues 12 = .ok (.invokevirtual 30, 3) := by decide +kernel
theorem dX0_mergedSetByValues_15 : decode cX0_mergedSetByValues 15 = .ok (.istore 4, 2) := by decide +kernel
theorem dX0_mergedSetByValues_17 : decode cX0_mergedSetByValues 17 = .ok (.aload_n 0, 1) := by decide +kernel
theorem dX0_mergedSetByValues_18 : decode cX0_mergedSetByValues 18 = .ok (.iload_n 1, 1) := by decide +kernel
theorem dX0_mergedSetByValues_19 : decode cX0_mergedSetByValues 19 = .ok (.iconst 2, 1) := by decide +kernel
theorem dX0_mergedSetByValues_20 : decode cX0_mergedSetByValues 20 = .ok (.iload_n 2, 1) := by decide +kernel
theorem dX0_mergedSetByValues_21 : decode cX0_mergedSetByValues 21 = .ok (.invokevirtual 30, 3) := by decide +kernel
theorem dX0_mergedSetByValues_24 : decode cX0_mergedSetByValues 24 = .ok (.istore 5, 2) := by decide +kernel
theorem dX0_mergedSetByValues_26 : decode cX0_mergedSetByValues 26 = .ok (.iconst 0, 1) := by decide +kernel
theorem dX0_mergedSetByValues_27 : decode cX0_mergedSetByValues 27 = .ok (.istore 6, 2) := by decide +kernel
theorem dX0_mergedSetByValues_29 : decode cX0_mergedSetByValues 29 = .ok (.iconst 0, 1) := by decide +kernel
theorem dX0_mergedSetByValues_30 : decode cX0_mergedSetByValues 30 = .ok (.istore 7, 2) := by decide +kernel
theorem dX0_mergedSetByValues_32 : decode cX0_mergedSetByValues 32 = .ok (.iload 7, 2) := by decide +kernel
theorem dX0_mergedSetByValues_34 : decode cX0_mergedSetByValues 34 = .ok (.bipush 30, 2) := by decide +kernel
theorem dX0_mergedSetByValues_36 : decode cX0_mergedSetByValues 36 = .ok (.if_icmp .ge 103, 3) := by decide +kernel
theorem dX0_mergedSetByValues_39 : decode cX0_mergedSetByValues 39 = .ok (.iload_n 3, 1) := by decide +kernel
theorem dX0_mergedSetByValues_40 : decode cX0_mergedSetByValues 40 = .ok (.iload 7, 2) := by decide +kernel
theorem dX0_mergedSetByValues_42 : decode cX0_mergedSetByValues 42 = .ok (.invokestatic 34, 3) := by decide +kernel
theorem dX0_mergedSetByValues_45 : decode cX0_mergedSetByValues 45 = .ok (.istore 8, 2) := by decide +kernel
theorem dX0_mergedSetByValues_47 : decode cX0_mergedSetByValues 47 = .ok (.iload 4, 2) := by decide +kernel
theorem dX0_mergedSetByValues_49 : decode cX0_mergedSetByValues 49 = .ok (.iload 7, 2) := by decide +kernel
theorem dX0_mergedSetByValues_51 : decode cX0_mergedSetByValues 51 = .ok (.invokestatic 34, 3) := by decide +kernel
theorem dX0_mergedSetByValues_54 : decode cX0_mergedSetByValues 54 = .ok (.istore 9, 2) := by decide +kernel
theorem dX0_mergedSetByValues_56 : decode cX0_mergedSetByValues 56 = .ok (.iload 5, 2) := by decide +kernel
theorem dX0_mergedSetByValues_58 : decode cX0_mergedSetByValues 58 = .ok (.iload 7, 2) := by decide +kernel
theorem dX0_mergedSetByValues_60 : decode cX0_mergedSetByValues 60 = .ok (.invokestatic 34, 3) := by decide +kernel
theorem dX0_mergedSetByValues_63 : decode cX0_mergedSetByValues 63 = .ok (.istore 10, 2) := by decide +kernel
theorem dX0_mergedSetByValues_65 : decode cX0_mergedSetByValues 65 = .ok (.iload 10, 2) := by decide +kernel
theorem dX0_mergedSetByValues_67 : decode cX0_mergedSetByValues 67 = .ok (.ifCond .ne 17, 3) := by decide +kernel
theorem dX0_mergedSetByValues_70 : decode cX0_mergedSetByValues 70 = .ok (.iload 8, 2) := by decide +kernel
theorem dX0_mergedSetByValues_72 : decode cX0_mergedSetByValues 72 = .ok (.ifCond .ne 8, 3) := by decide +kernel
theorem dX0_mergedSetByValues_75 : decode cX0_mergedSetByValues 75 = .ok (.iload 9, 2) := by decide +kernel
theorem dX0_mergedSetByValues_77 : decode cX0_mergedSetByValues 77 = .ok (.ifCond .eq 7, 3) := by decide +kernel
theorem dX0_mergedSetByValues_80 : decode cX0_mergedSetByValues 80 = .ok (.iconst 1, 1) := by decide +kernel
theorem dX0_mergedSetByValues_81 : decode cX0_mergedSetByValues 81 = .ok (.goto 4, 3) := by decide +kernel
theorem dX0_mergedSetByValues_84 : decode cX0_mergedSetByValues 84 = .ok (.iconst 0, 1) := by decide +kernel
theorem dX0_mergedSetByValues_85 : decode cX0_mergedSetByValues 85 = .ok (.istore 11, 2) := by decide +kernel
theorem dX0_mergedSetByValues_87 : decode cX0_mergedSetByValues 87 = .ok (.iload 10, 2) := by decide +kernel
theorem dX0_mergedSetByValues_89 : decode cX0_mergedSetByValues 89 = .ok (.ifCond .eq 17, 3) := by decide +kernel
theorem dX0_mergedSetByValues_92 : decode cX0_mergedSetByValues 92 = .ok (.iload 8, 2) := by decide +kernel
theorem dX0_mergedSetByValues_94 : decode cX0_mergedSetByValues 94 = .ok (.ifCond .eq 8, 3) := by decide +kernel
theorem dX0_mergedSetByValues_97 : decode cX0_mergedSetByValues 97 = .ok (.iload 9, 2) := by decide +kernel
theorem dX0_mergedSetByValues_99 : decode cX0_mergedSetByValues 99 = .ok (.ifCond .ne 7, 3) := by decide +kernel
theorem dX0_mergedSetByValues_102 : decode cX0_mergedSetByValues 102 = .ok (.iconst 1, 1) := by decide +kernel
theorem dX0_mergedSetByValues_103 : decode cX0_mergedSetByValues 103 = .ok (.goto 4, 3) := by decide +kernel
theorem dX0_mergedSetByValues_106 : decode cX0_mergedSetByValues 106 = .ok (.iconst 0, 1) := by decide +kernel
theorem dX0_mergedSetByValues_107 : decode cX0_mergedSetByValues 107 = .ok (.istore 12, 2) := by decide +kernel
theorem dX0_mergedSetByValues_109 : decode cX0_mergedSetByValues 109 = .ok (.iload 11, 2) := by decide +kernel
theorem dX0_mergedSetByValues_111 : decode cX0_mergedSetByValues 111 = .ok (.ifCond .ne 13, 3) := by decide +kernel
theorem dX0_mergedSetByValues_114 : decode cX0_mergedSetByValues 114 = .ok (.iload 10, 2) := by decide +kernel
theorem dX0_mergedSetByValues_116 : decode cX0_mergedSetByValues 116 = .ok (.ifCond .eq 17, 3) := by decide +kernel
theorem dX0_mergedSetByValues_119 : decode cX0_mergedSetByValues 119 = .ok (.iload 12, 2) := by decide +kernel
theorem dX0_mergedSetByValues_121 : decode cX0_mergedSetByValues 121 = .ok (.ifCond .ne 12, 3) := by decide +kernel
theorem dX0_mergedSetByValues_124 : decode cX0_mergedSetByValues 124 = .ok (.iload 6, 2) := by decide +kernel
theorem dX0_mergedSetByValues_126 : decode cX0_mergedSetByValues 126 = .ok (.iconst 1, 1) := by decide +kernel
theorem dX0_mergedSetByValues_127 : decode cX0_mergedSetByValues 127 = .ok (.iload 7, 2) := by decide +kernel
theorem dX0_mergedSetByValues_129 : decode cX0_mergedSetByValues 129 = .ok (.ishl, 1) := by decide +kernel
theorem dX0_mergedSetByValues_130 : decode cX0_mergedSetByValues 130 = .ok (.ior, 1) := by decide +kernel
theorem dX0_mergedSetByValues_131 : decode cX0_mergedSetByValues 131 = .ok (.istore 6, 2) := by decide +kernel
theorem dX0_mergedSetByValues_133 : decode cX0_mergedSetByValues 133 = .ok (.iinc 7 1, 3) := by decide +kernel
theorem dX0_mergedSetByValues_136 : decode cX0_mergedSetByValues 136 = .ok (.goto (-104), 3) := by decide +kernel
theorem dX0_mergedSetByValues_139 : decode cX0_mergedSetByValues 139 = .ok (.iload 6, 2) := by decide +kernel
theorem dX0_mergedSetByValues_141 : decode cX0_mergedSetByValues 141 = .ok (.ireturn, 1) := by decide +kernel
set_option maxRecDepth 20000 in
theorem ggX0_mergedName_X0_nameIn : GoodIn wsX0_mergedName wsX0_nameIn := goodIn_r _ [5, 6, 7, 8, 9, 10, 11] (by decide +kernel) (by decide +kernel)
set_option maxRecDepth 20000 in
theorem gX0_mergedName_X0_nameIn : GoodIn wsX0_mergedName (wsV RX0 38 RX0 yX0_nameIn wsX0_nameIn) := goodIn_app (goodIn_of _ (by decide +kernel)) ggX0_mergedName_X0_nameIn
theorem dX0_mergedName_0 : decode cX0_mergedName 0 = .ok (.aload_n 0, 1) := by decide +kernel
theorem dX0_mergedName_1 : decode cX0_mergedName 1 = .ok (.iload_n 1, 1) := by decide +kernel
theorem dX0_mergedName_2 : decode cX0_mergedName 2 = .ok (.iconst 0, 1) := by decide +kernel
theorem dX0_mergedName_3 : decode cX0_mergedName 3 = .ok (.invokevirtual 38, 3) := by decide +kernel
theorem dX0_mergedName_6 : decode cX0_mergedName 6 = .ok (.istore_n 2, 1) := by decide +kernel
theorem dX0_mergedName_7 : decode cX0_mergedName 7 = .ok (.iload_n 2, 1) := by decide +kernel
theorem dX0_mergedName_8 : decode cX0_mergedName 8 = .ok (.aload_n 0, 1) := by decide +kernel
theorem dX0_mergedName_9 : decode cX0_mergedName 9 = .ok (.iload_n 1, 1) := by decide +kernel
theorem dX0_mergedName_10 : decode cX0_mergedName 10 = .ok (.iconst 2, 1) := by decide +kernel
theorem dX0_mergedName_11 : decode cX0_mergedName 11 = .ok (.invokevirtual 38, 3) := by decide +kernel
theorem dX0_mergedName_14 : decode cX0_mergedName 14 = .ok (.if_icmp .ne 12, 3) := by decide +kernel
theorem dX0_mergedName_17 : decode cX0_mergedName 17 = .ok (.aload_n 0, 1) := by decide +kernel
theorem dX0_mergedName_18 : decode cX0_mergedName 18 = .ok (.iload_n 1, 1) := by decide +kernel
theorem dX0_mergedName_19 : decode cX0_mergedName 19 = .ok (.iconst 1, 1) := by decide +kernel
theorem dX0_mergedName_20 : decode cX0_mergedName 20 = .ok (.invokevirtual 38, 3) := by decide +kernel
theorem dX0_mergedName_23 : decode cX0_mergedName 23 = .ok (.goto 4, 3) := by decide +kernel
theorem dX0_mergedName_26 : decode cX0_mergedName 26 = .ok (.iload_n 2, 1) := by decide +kernel
theorem dX0_mergedName_27 : decode cX0_mergedName 27 = .ok (.ireturn, 1) := by decide +kernel
set_option maxRecDepth 20000 in
theorem ggX0_namesClash_X0_nameIn : GoodIn wsX0_namesClash wsX0_nameIn := goodIn_r _ [5, 6, 7, 8, 9, 10, 11] (by decide +kernel) (by decide +kernel)
set_option maxRecDepth 20000 in
theorem gX0_namesClash_X0_nameIn : GoodIn wsX0_namesClash (wsV RX0 38 RX0 yX0_nameIn wsX0_nameIn) := goodIn_app (goodIn_of _ (by decide +kernel)) ggX0_namesClash_X0_nameIn
theorem dX0_namesClash_0 : decode cX0_namesClash 0 = .ok (.aload_n 0, 1) := by decide +kernel
theorem dX0_namesClash_1 : decode cX0_namesClash 1 = .ok (.iload_n 1, 1) := by decide +kernel
theorem dX0_namesClash_2 : decode cX0_namesClash 2 = .ok (.iconst 0, 1) := by decide +kernel
theorem dX0_namesClash_3 : decode cX0_namesClash 3 = .ok (.invokevirtual 38, 3) := by decide +kernel
theorem dX0_namesClash_6 : decode cX0_namesClash 6 = .ok (.istore_n 2, 1) := by decide +kernel
theorem dX0_namesClash_7 : decode cX0_namesClash 7 = .ok (.aload_n 0, 1) := by decide +kernel
theorem dX0_namesClash_8 : decode cX0_namesClash 8 = .ok (.iload_n 1, 1) := by decide +kernel
theorem dX0_namesClash_9 : decode cX0_namesClash 9 = .ok (.iconst 1, 1) := by decide +kernel
theorem dX0_namesClash_10 : decode cX0_namesClash 10 = .ok (.invokevirtual 38, 3) := by decide +kernel
theorem dX0_namesClash_13 : decode cX0_namesClash 13 = .ok (.istore_n 3, 1) := by decide +kernel
theorem dX0_namesClash_14 : decode cX0_namesClash 14 = .ok (.aload_n 0, 1) := by decide +kernel
theorem dX0_namesClash_15 : decode cX0_namesClash 15 = .ok (.iload_n 1, 1) := by decide +kernel
theorem dX0_namesClash_16 : decode cX0_namesClash 16 = .ok (.iconst 2, 1) := by decide +kernel
theorem dX0_namesClash_17 : decode cX0_namesClash 17 = .ok (.invokevirtual 38, 3) := by decide +kernel
theorem dX0_namesClash_20 : decode cX0_namesClash 20 = .ok (.istore 4, 2) := by decide +kernel
theorem dX0_namesClash_22 : decode cX0_namesClash 22 = .ok (.iload_n 2, 1) := by decide +kernel
theorem dX0_namesClash_23 : decode cX0_namesClash 23 = .ok (.iload_n 3, 1) := by decide +kernel
theorem dX0_namesClash_24 : decode cX0_namesClash 24 = .ok (.if_icmp .eq 19, 3) := by decide +kernel
theorem dX0_namesClash_27 : decode cX0_namesClash 27 = .ok (.iload_n 2, 1) := by decide +kernel
theorem dX0_namesClash_28 : decode cX0_namesClash 28 = .ok (.iload 4, 2) := by decide +kernel
theorem dX0_namesClash_30 : decode cX0_namesClash 30 = .ok (.if_icmp .eq 13, 3) := by decide +kernel
theorem dX0_namesClash_33 : decode cX0_namesClash 33 = .ok (.iload_n 3, 1) := by decide +kernel
theorem dX0_namesClash_34 : decode cX0_namesClash 34 = .ok (.iload 4, 2) := by decide +kernel
theorem dX0_namesClash_36 : decode cX0_namesClash 36 = .ok (.if_icmp .eq 7, 3) := by decide +kernel
theorem dX0_namesClash_39 : decode cX0_namesClash 39 = .ok (.iconst 1, 1) := by decide +kernel
theorem dX0_namesClash_40 : decode cX0_namesClash 40 = .ok (.goto 4, 3) := by decide +kernel
theorem dX0_namesClash_43 : decode cX0_namesClash 43 = .ok (.iconst 0, 1) := by decide +kernel
theorem dX0_namesClash_44 : decode cX0_namesClash 44 = .ok (.ireturn, 1) := by decide +kernel
set_option maxRecDepth 20000 in
theorem ggX0_mergeVersions_X0_mergedName : GoodIn wsX0_mergeVersions wsX0_mergedName := goodIn_r _ [5, 6, 7, 8, 4, 9, 10, 29, 30, 31, 32, 33] (by decide +kernel) (by decide +kernel)
set_option maxRecDepth 20000 in
theorem gX0_mergeVersions_X0_mergedName : GoodIn wsX0_mergeVersions (wsV RX0 42 RX0 yX0_mergedName wsX0_mergedName) := goodIn_app (goodIn_of _ (by decide +kernel)) ggX0_mergeVersions_X0_mergedName
set_option maxRecDepth 20000 in
theorem ggX0_mergeVersions_X0_mergedSet : GoodIn wsX0_mergeVersions wsX0_mergedSet := goodIn_r _ [14, 15, 16, 17, 4, 18, 19, 29, 30, 31, 32, 33] (by decide +kernel) (by decide +kernel)
set_option maxRecDepth 20000 in
theorem gX0_mergeVersions_X0_mergedSet : GoodIn wsX0_mergeVersions (wsV RX0 46 RX0 yX0_mergedSet wsX0_mergedSet) := goodIn_app (goodIn_of _ (by decide +kernel)) ggX0_mergeVersions_X0_mergedSet
set_option maxRecDepth 20000 in
theorem ggX0_mergeVersions_X0_putName : GoodIn wsX0_mergeVersions wsX0_putName := goodIn_r _ [23, 10, 24, 29, 30, 31, 32, 33] (by decide +kernel) (by decide +kernel)
set_option maxRecDepth 20000 in
theorem gX0_mergeVersions_X0_putName : GoodIn wsX0_mergeVersions (wsV RX0 49 RX0 yX0_putName wsX0_putName) := goodIn_app (goodIn_of _ (by decide +kernel)) ggX0_mergeVersions_X0_putName
set_option maxRecDepth 20000 in
theorem ggX0_mergeVersions_X0_putSet : GoodIn wsX0_mergeVersions wsX0_putSet := goodIn_r _ [28, 24, 19, 15, 16, 17, 4, 18, 29, 30, 31, 32, 33] (by decide +kernel) (by decide +kernel)
set_option maxRecDepth 20000 in
theorem gX0_mergeVersions_X0_putSet : GoodIn wsX0_mergeVersions (wsV RX0 53 RX0 yX0_putSet wsX0_putSet) := goodIn_app (goodIn_of _ (by decide +kernel)) ggX0_mergeVersions_X0_putSet
theorem dX0_mergeVersions_0 : decode cX0_mergeVersions 0 = .ok (.aload_n 0, 1) := by decide +kernel
theorem dX0_mergeVersions_1 : decode cX0_mergeVersions 1 = .ok (.iload_n 1, 1) := by decide +kernel
theorem dX0_mergeVersions_2 : decode cX0_mergeVersions 2 = .ok (.invokevirtual 42, 3) := by decide +kernel
theorem dX0_mergeVersions_5 : decode cX0_mergeVersions 5 = .ok (.istore_n 2, 1) := by decide +kernel
theorem dX0_mergeVersions_6 : decode cX0_mergeVersions 6 = .ok (.aload_n 0, 1) := by decide +kernel
theorem dX0_mergeVersions_7 : decode cX0_mergeVersions 7 = .ok (.iload_n 1, 1) := by decide +kernel
theorem dX0_mergeVersions_8 : decode cX0_mergeVersions 8 = .ok (.iconst 0, 1) := by decide +kernel
theorem dX0_mergeVersions_9 : decode cX0_mergeVersions 9 = .ok (.invokevirtual 46, 3) := by decide +kernel
theorem dX0_mergeVersions_12 : decode cX0_mergeVersions 12 = .ok (.istore_n 3, 1) := by decide +kernel
theorem dX0_mergeVersions_13 : decode cX0_mergeVersions 13 = .ok (.aload_n 0, 1) := by decide +kernel
theorem dX0_mergeVersions_14 : decode cX0_mergeVersions 14 = .ok (.iload_n 1, 1) := by decide +kernel
theorem dX0_mergeVersions_15 : decode cX0_mergeVersions 15 = .ok (.iconst 1, 1) := by decide +kernel
theorem dX0_mergeVersions_16 : decode cX0_mergeVersions 16 = .ok (.invokevirtual 46, 3) := by decide +kernel
theorem dX0_mergeVersions_19 : decode cX0_mergeVersions 19 = .ok (.istore 4, 2) := by decide +kernel
theorem dX0_mergeVersions_21 : decode cX0_mergeVersions 21 = .ok (.iconst 0, 1) := by decide +kernel
theorem dX0_mergeVersions_22 : decode cX0_mergeVersions 22 = .ok (.istore 5, 2) := by decide +kernel
theorem dX0_mergeVersions_24 : decode cX0_mergeVersions 24 = .ok (.iload 5, 2) := by decide +kernel
theorem dX0_mergeVersions_26 : decode cX0_mergeVersions 26 = .ok (.iconst 3, 1) := by decide +kernel
theorem dX0_mergeVersions_27 : decode cX0_mergeVersions 27 = .ok (.if_icmp .ge 36, 3) := by decide +kernel
theorem dX0_mergeVersions_30 : decode cX0_mergeVersions 30 = .ok (.aload_n 0, 1) := by decide +kernel
theorem dX0_mergeVersions_31 : decode cX0_mergeVersions 31 = .ok (.iload_n 1, 1) := by decide +kernel
theorem dX0_mergeVersions_32 : decode cX0_mergeVersions 32 = .ok (.iload 5, 2) := by decide +kernel
theorem dX0_mergeVersions_34 : decode cX0_mergeVersions 34 = .ok (.iload_n 2, 1) := by decide +kernel
theorem dX0_mergeVersions_35 : decode cX0_mergeVersions 35 = .ok (.invokevirtual 49, 3) := by decide +kernel
theorem dX0_mergeVersions_38 : decode cX0_mergeVersions 38 = .ok (.aload_n 0, 1) := by decide +kernel
theorem dX0_mergeVersions_39 : decode cX0_mergeVersions 39 = .ok (.iload_n 1, 1) := by decide +kernel
theorem dX0_mergeVersions_40 : decode cX0_mergeVersions 40 = .ok (.iload 5, 2) := by decide +kernel
theorem dX0_mergeVersions_42 : decode cX0_mergeVersions 42 = .ok (.iconst 0, 1) := by decide +kernel
theorem dX0_mergeVersions_43 : decode cX0_mergeVersions 43 = .ok (.iload_n 3, 1) := by decide +kernel
theorem dX0_mergeVersions_44 : decode cX0_mergeVersions 44 = .ok (.invokevirtual 53, 3) := by decide +kernel
theorem dX0_mergeVersions_47 : decode cX0_mergeVersions 47 = .ok (.aload_n 0, 1) := by decide +kernel
theorem dX0_mergeVersions_48 : decode cX0_mergeVersions 48 = .ok (.iload_n 1, 1) := by decide +kernel
theorem dX0_mergeVersions_49 : decode cX0_mergeVersions 49 = .ok (.iload 5, 2) := by decide +kernel
theorem dX0_mergeVersions_51 : decode cX0_mergeVersions 51 = .ok (.iconst 1, 1) := by decide +kernel
theorem dX0_mergeVersions_52 : decode cX0_mergeVersions 52 = .ok (.iload 4, 2) := by decide +kernel
theorem dX0_mergeVersions_54 : decode cX0_mergeVersions 54 = .ok (.invokevirtual 53, 3) := by decide +kernel
theorem dX0_mergeVersions_57 : decode cX0_mergeVersions 57 = .ok (.iinc 5 1, 3) := by decide +kernel
theorem dX0_mergeVersions_60 : decode cX0_mergeVersions 60 = .ok (.goto (-36), 3) := by decide +kernel
theorem dX0_mergeVersions_63 : decode cX0_mergeVersions 63 = .ok (.return_, 1) := by decide +kernel
set_option maxRecDepth 20000 in
theorem ggX0_isSynced_X0_mergedName : GoodIn wsX0_isSynced wsX0_mergedName := goodIn_r _ [5, 6, 7, 8, 4, 9, 10, 20, 21, 22, 23, 24] (by decide +kernel) (by decide +kernel)
set_option maxRecDepth 20000 in
theorem gX0_isSynced_X0_mergedName : GoodIn wsX0_isSynced (wsV RX0 42 RX0 yX0_mergedName wsX0_mergedName) := goodIn_app (goodIn_of _ (by decide +kernel)) ggX0_isSynced_X0_mergedName
set_option maxRecDepth 20000 in
theorem ggX0_isSynced_X0_mergedSet : GoodIn wsX0_isSynced wsX0_mergedSet := goodIn_r _ [14, 15, 16, 17, 4, 18, 19, 20, 21, 22, 23, 24] (by decide +kernel) (by decide +kernel)
set_option maxRecDepth 20000 in
theorem gX0_isSynced_X0_mergedSet : GoodIn wsX0_isSynced (wsV RX0 46 RX0 yX0_mergedSet wsX0_mergedSet) := goodIn_app (goodIn_of _ (by decide +kernel)) ggX0_isSynced_X0_mergedSet
set_option maxRecDepth 20000 in
theorem ggX0_isSynced_X0_nameIn : GoodIn wsX0_isSynced wsX0_nameIn := goodIn_r _ [9, 10, 20, 21, 22, 23, 24] (by decide +kernel) (by decide +kernel)
set_option maxRecDepth 20000 in
theorem gX0_isSynced_X0_nameIn : GoodIn wsX0_isSynced (wsV RX0 38 RX0 yX0_nameIn wsX0_nameIn) := goodIn_app (goodIn_of _ (by decide +kernel)) ggX0_isSynced_X0_nameIn
set_option maxRecDepth 20000 in
theorem ggX0_isSynced_X0_setOf : GoodIn wsX0_isSynced wsX0_setOf := goodIn_r _ [18, 19, 20, 21, 22, 23, 24] (by decide +kernel) (by decide +kernel)
set_option maxRecDepth 20000 in
theorem gX0_isSynced_X0_setOf : GoodIn wsX0_isSynced (wsV RX0 30 RX0 yX0_setOf wsX0_setOf) := goodIn_app (goodIn_of _ (by decide +kernel)) ggX0_isSynced_X0_setOf
theorem dX0_isSynced_0 : decode cX0_isSynced 0 = .ok (.aload_n 0, 1) := by decide +kernel
theorem dX0_isSynced_1 : decode cX0_isSynced 1 = .ok (.iload_n 1, 1) := by decide +kernel
theorem dX0_isSynced_2 : decode cX0_isSynced 2 = .ok (.invokevirtual 42, 3) := by decide +kernel
theorem dX0_isSynced_5 : decode cX0_isSynced 5 = .ok (.istore_n 2, 1) := by decide +kernel
theorem dX0_isSynced_6 : decode cX0_isSynced 6 = .ok (.aload_n 0, 1) := by decide +kernel
theorem dX0_isSynced_7 : decode cX0_isSynced 7 = .ok (.iload_n 1, 1) := by decide +kernel
theorem dX0_isSynced_8 : decode cX0_isSynced 8 = .ok (.iconst 0, 1) := by decide +kernel
theorem dX0_isSynced_9 : decode cX0_isSynced 9 = .ok (.invokevirtual 46, 3) := by decide +kernel
theorem dX0_isSynced_12 : decode cX0_isSynced 12 = .ok (.istore_n 3, 1) := by decide +kernel
theorem dX0_isSynced_13 : decode cX0_isSynced 13 = .ok (.aload_n 0, 1) := by decide +kernel
theorem dX0_isSynced_14 : decode cX0_isSynced 14 = .ok (.iload_n 1, 1) := by decide +kernel
theorem dX0_isSynced_15 : decode cX0_isSynced 15 = .ok (.iconst 1, 1) := by decide +kernel
theorem dX0_isSynced_16 : decode cX0_isSynced 16 = .ok (.invokevirtual 46, 3) := by decide +kernel
theorem dX0_isSynced_19 : decode cX0_isSynced 19 = .ok (.istore 4, 2) := by decide +kernel
theorem dX0_isSynced_21 : decode cX0_isSynced 21 = .ok (.iconst 0, 1) := by decide +kernel
theorem dX0_isSynced_22 : decode cX0_isSynced 22 = .ok (.istore 5, 2) := by decide +kernel
theorem dX0_isSynced_24 : decode cX0_isSynced 24 = .ok (.iload 5, 2) := by decide +kernel
theorem dX0_isSynced_26 : decode cX0_isSynced 26 = .ok (.iconst 3, 1) := by decide +kernel
theorem dX0_isSynced_27 : decode cX0_isSynced 27 = .ok (.if_icmp .ge 47, 3) := by decide +kernel
theorem dX0_isSynced_30 : decode cX0_isSynced 30 = .ok (.aload_n 0, 1) := by decide +kernel
theorem dX0_isSynced_31 : decode cX0_isSynced 31 = .ok (.iload_n 1, 1) := by decide +kernel
theorem dX0_isSynced_32 : decode cX0_isSynced 32 = .ok (.iload 5, 2) := by decide +kernel
theorem dX0_isSynced_34 : decode cX0_isSynced 34 = .ok (.invokevirtual 38, 3) := by decide +kernel
theorem dX0_isSynced_37 : decode cX0_isSynced 37 = .ok (.iload_n 2, 1) := by decide +kernel
theorem dX0_isSynced_38 : decode cX0_isSynced 38 = .ok (.if_icmp .ne 28, 3) := by decide +kernel
theorem dX0_isSynced_41 : decode cX0_isSynced 41 = .ok (.aload_n 0, 1) := by decide +kernel
theorem dX0_isSynced_42 : decode cX0_isSynced 42 = .ok (.iload_n 1, 1) := by decide +kernel
theorem dX0_isSynced_43 : decode cX0_isSynced 43 = .ok (.iload 5, 2) := by decide +kernel
theorem dX0_isSynced_45 : decode cX0_isSynced 45 = .ok (.iconst 0, 1) := by decide +kernel
theorem dX0_isSynced_46 : decode cX0_isSynced 46 = .ok (.invokevirtual 30, 3) := by decide +kernel
theorem dX0_isSynced_49 : decode cX0_isSynced 49 = .ok (.iload_n 3, 1) := by decide +kernel
theorem dX0_isSynced_50 : decode cX0_isSynced 50 = .ok (.if_icmp .ne 16, 3) := by decide +kernel
theorem dX0_isSynced_53 : decode cX0_isSynced 53 = .ok (.aload_n 0, 1) := by decide +kernel
theorem dX0_isSynced_54 : decode cX0_isSynced 54 = .ok (.iload_n 1, 1) := by decide +kernel
theorem dX0_isSynced_55 : decode cX0_isSynced 55 = .ok (.iload 5, 2) := by decide +kernel
theorem dX0_isSynced_57 : decode cX0_isSynced 57 = .ok (.iconst 1, 1) := by decide +kernel
theorem dX0_isSynced_58 : decode cX0_isSynced 58 = .ok (.invokevirtual 30, 3) := by decide +kernel
theorem dX0_isSynced_61 : decode cX0_isSynced 61 = .ok (.iload 4, 2) := by decide +kernel
theorem dX0_isSynced_63 : decode cX0_isSynced 63 = .ok (.if_icmp .eq 5, 3) := by decide +kernel
theorem dX0_isSynced_66 : decode cX0_isSynced 66 = .ok (.iconst 0, 1) := by decide +kernel
theorem dX0_isSynced_67 : decode cX0_isSynced 67 = .ok (.ireturn, 1) := by decide +kernel
theorem dX0_isSynced_68 : decode cX0_isSynced 68 = .ok (.iinc 5 1, 3) := by decide +kernel
theorem dX0_isSynced_71 : decode cX0_isSynced 71 = .ok (.goto (-47), 3) := by decide +kernel
theorem dX0_isSynced_74 : decode cX0_isSynced 74 = .ok (.iconst 1, 1) := by decide +kernel
theorem dX0_isSynced_75 : decode cX0_isSynced 75 = .ok (.ireturn, 1) := by decide +kernel
set_option maxRecDepth 20000 in
theorem ggX0_countShared_X0_setOf : GoodIn wsX0_countShared wsX0_setOf := goodIn_r _ [5, 6, 14, 15, 16, 17, 18] (by decide +kernel) (by decide +kernel)
set_option maxRecDepth 20000 in
theorem gX0_countShared_X0_setOf : GoodIn wsX0_countShared (wsV RX0 30 RX0 yX0_setOf wsX0_setOf) := goodIn_app (goodIn_of _ (by decide +kernel)) ggX0_countShared_X0_setOf
set_option maxRecDepth 20000 in
theorem ggX0_countShared_J6_bitCount_0f7a4 : GoodIn wsX0_countShared wsJ6_bitCount_0f7a4 := goodIn_r _ [10, 11, 12, 13] (by decide +kernel) (by decide +kernel)
set_option maxRecDepth 20000 in
theorem gX0_countShared_J6_bitCount_0f7a4 : GoodIn wsX0_countShared (va_wsS RX0 57 yJ6_bitCount_0f7a4 wsJ6_bitCount_0f7a4) := goodIn_app (goodIn_of _ (by decide +kernel)) ggX0_countShared_J6_bitCount_0f7a4
theorem dX0_countShared_0 : decode cX0_countShared 0 = .ok (.aload_n 0, 1) := by decide +kernel
theorem dX0_countShared_1 : decode cX0_countShared 1 = .ok (.iload_n 1, 1) := by decide +kernel
theorem dX0_countShared_2 : decode cX0_countShared 2 = .ok (.iconst 0, 1) := by decide +kernel
theorem dX0_countShared_3 : decode cX0_countShared 3 = .ok (.iload_n 3, 1) := by decide +kernel
theorem dX0_countShared_4 : decode cX0_countShared 4 = .ok (.invokevirtual 30, 3) := by decide +kernel
theorem dX0_countShared_7 : decode cX0_countShared 7 = .ok (.aload_n 0, 1) := by decide +kernel
theorem dX0_countShared_8 : decode cX0_countShared 8 = .ok (.iload_n 2, 1) := by decide +kernel
theorem dX0_countShared_9 : decode cX0_countShared 9 = .ok (.iconst 0, 1) := by decide +kernel
theorem dX0_countShared_10 : decode cX0_countShared 10 = .ok (.iload_n 3, 1) := by decide +kernel
theorem dX0_countShared_11 : decode cX0_countShared 11 = .ok (.invokevirtual 30, 3) := by decide +kernel
theorem dX0_countShared_14 : decode cX0_countShared 14 = .ok (.iand, 1) := by decide +kernel
theorem dX0_countShared_15 : decode cX0_countShared 15 = .ok (.invokestatic 57, 3) := by decide +kernel
theorem dX0_countShared_18 : decode cX0_countShared 18 = .ok (.ireturn, 1) := by decide +kernel
set_option maxRecDepth 20000 in
theorem ggX0_preferredOf_X3_has : GoodIn wsX0_preferredOf wsX3_has := goodIn_r _ [4] (by decide +kernel) (by decide +kernel)
set_option maxRecDepth 20000 in
theorem gX0_preferredOf_X3_has_n34 : GoodIn wsX0_preferredOf (wsX3_has) := ggX0_preferredOf_X3_has
set_option maxRecDepth 20000 in
theorem ggX0_preferredOf_X0_isAhead : GoodIn wsX0_preferredOf wsX0_isAhead := goodIn_r _ [9, 10, 11, 12, 13, 14, 15] (by decide +kernel) (by decide +kernel)
set_option maxRecDepth 20000 in
theorem gX0_preferredOf_X0_isAhead : GoodIn wsX0_preferredOf (wsV RX0 62 RX0 yX0_isAhead wsX0_isAhead) := goodIn_app (goodIn_of _ (by decide +kernel)) ggX0_preferredOf_X0_isAhead
theorem dX0_preferredOf_0 : decode cX0_preferredOf 0 = .ok (.iload_n 1, 1) := by decide +kernel
theorem dX0_preferredOf_1 : decode cX0_preferredOf 1 = .ok (.istore_n 3, 1) := by decide +kernel
theorem dX0_preferredOf_2 : decode cX0_preferredOf 2 = .ok (.iconst 0, 1) := by decide +kernel
theorem dX0_preferredOf_3 : decode cX0_preferredOf 3 = .ok (.istore 4, 2) := by decide +kernel
theorem dX0_preferredOf_5 : decode cX0_preferredOf 5 = .ok (.iload 4, 2) := by decide +kernel
theorem dX0_preferredOf_7 : decode cX0_preferredOf 7 = .ok (.aload_n 0, 1) := by decide +kernel
theorem dX0_preferredOf_8 : decode cX0_preferredOf 8 = .ok (.getfield 26, 3) := by decide +kernel
theorem dX0_preferredOf_11 : decode cX0_preferredOf 11 = .ok (.if_icmp .ge 31, 3) := by decide +kernel
theorem dX0_preferredOf_14 : decode cX0_preferredOf 14 = .ok (.iload_n 2, 1) := by decide +kernel
theorem dX0_preferredOf_15 : decode cX0_preferredOf 15 = .ok (.iload 4, 2) := by decide +kernel
theorem dX0_preferredOf_17 : decode cX0_preferredOf 17 = .ok (.invokestatic 34, 3) := by decide +kernel
theorem dX0_preferredOf_20 : decode cX0_preferredOf 20 = .ok (.ifCond .eq 16, 3) := by decide +kernel
theorem dX0_preferredOf_23 : decode cX0_preferredOf 23 = .ok (.aload_n 0, 1) := by decide +kernel
theorem dX0_preferredOf_24 : decode cX0_preferredOf 24 = .ok (.iload 4, 2) := by decide +kernel
theorem dX0_preferredOf_26 : decode cX0_preferredOf 26 = .ok (.iload_n 3, 1) := by decide +kernel
theorem dX0_preferredOf_27 : decode cX0_preferredOf 27 = .ok (.invokevirtual 62, 3) := by decide +kernel
theorem dX0_preferredOf_30 : decode cX0_preferredOf 30 = .ok (.ifCond .eq 6, 3) := by decide +kernel
theorem dX0_preferredOf_33 : decode cX0_preferredOf 33 = .ok (.iload 4, 2) := by decide +kernel
theorem dX0_preferredOf_35 : decode cX0_preferredOf 35 = .ok (.istore_n 3, 1) := by decide +kernel
theorem dX0_preferredOf_36 : decode cX0_preferredOf 36 = .ok (.iinc 4 1, 3) := by decide +kernel
theorem dX0_preferredOf_39 : decode cX0_preferredOf 39 = .ok (.goto (-34), 3) := by decide +kernel
theorem dX0_preferredOf_42 : decode cX0_preferredOf 42 = .ok (.iload_n 3, 1) := by decide +kernel
theorem dX0_preferredOf_43 : decode cX0_preferredOf 43 = .ok (.ireturn, 1) := by decide +kernel
theorem dX0_isAhead_0 : decode cX0_isAhead 0 = .ok (.aload_n 0, 1) := by decide +kernel
theorem dX0_isAhead_1 : decode cX0_isAhead 1 = .ok (.getfield 9, 3) := by decide +kernel
theorem dX0_isAhead_4 : decode cX0_isAhead 4 = .ok (.iload_n 1, 1) := by decide +kernel
theorem dX0_isAhead_5 : decode cX0_isAhead 5 = .ok (.iaload, 1) := by decide +kernel
theorem dX0_isAhead_6 : decode cX0_isAhead 6 = .ok (.aload_n 0, 1) := by decide +kernel
theorem dX0_isAhead_7 : decode cX0_isAhead 7 = .ok (.getfield 9, 3) := by decide +kernel
theorem dX0_isAhead_10 : decode cX0_isAhead 10 = .ok (.iload_n 2, 1) := by decide +kernel
theorem dX0_isAhead_11 : decode cX0_isAhead 11 = .ok (.iaload, 1) := by decide +kernel
theorem dX0_isAhead_12 : decode cX0_isAhead 12 = .ok (.if_icmp .lt 23, 3) := by decide +kernel
theorem dX0_isAhead_15 : decode cX0_isAhead 15 = .ok (.aload_n 0, 1) := by decide +kernel
theorem dX0_isAhead_16 : decode cX0_isAhead 16 = .ok (.getfield 9, 3) := by decide +kernel
theorem dX0_isAhead_19 : decode cX0_isAhead 19 = .ok (.iload_n 1, 1) := by decide +kernel
theorem dX0_isAhead_20 : decode cX0_isAhead 20 = .ok (.iaload, 1) := by decide +kernel
theorem dX0_isAhead_21 : decode cX0_isAhead 21 = .ok (.aload_n 0, 1) := by decide +kernel
theorem dX0_isAhead_22 : decode cX0_isAhead 22 = .ok (.getfield 9, 3) := by decide +kernel
theorem dX0_isAhead_25 : decode cX0_isAhead 25 = .ok (.iload_n 2, 1) := by decide +kernel
theorem dX0_isAhead_26 : decode cX0_isAhead 26 = .ok (.iaload, 1) := by decide +kernel
theorem dX0_isAhead_27 : decode cX0_isAhead 27 = .ok (.if_icmp .ne 12, 3) := by decide +kernel
theorem dX0_isAhead_30 : decode cX0_isAhead 30 = .ok (.iload_n 1, 1) := by decide +kernel
theorem dX0_isAhead_31 : decode cX0_isAhead 31 = .ok (.iload_n 2, 1) := by decide +kernel
theorem dX0_isAhead_32 : decode cX0_isAhead 32 = .ok (.if_icmp .ge 7, 3) := by decide +kernel
theorem dX0_isAhead_35 : decode cX0_isAhead 35 = .ok (.iconst 1, 1) := by decide +kernel
theorem dX0_isAhead_36 : decode cX0_isAhead 36 = .ok (.goto 4, 3) := by decide +kernel
theorem dX0_isAhead_39 : decode cX0_isAhead 39 = .ok (.iconst 0, 1) := by decide +kernel
theorem dX0_isAhead_40 : decode cX0_isAhead 40 = .ok (.ireturn, 1) := by decide +kernel
set_option maxRecDepth 20000 in
theorem ggX0_mineOfAll_X3_has : GoodIn wsX0_mineOfAll wsX3_has := goodIn_r _ [4] (by decide +kernel) (by decide +kernel)
set_option maxRecDepth 20000 in
theorem gX0_mineOfAll_X3_has_n34 : GoodIn wsX0_mineOfAll (wsX3_has) := ggX0_mineOfAll_X3_has
set_option maxRecDepth 20000 in
theorem ggX0_mineOfAll_X0_setOf : GoodIn wsX0_mineOfAll wsX0_setOf := goodIn_r _ [9, 10, 11, 12, 13, 14, 15] (by decide +kernel) (by decide +kernel)
set_option maxRecDepth 20000 in
theorem gX0_mineOfAll_X0_setOf : GoodIn wsX0_mineOfAll (wsV RX0 30 RX0 yX0_setOf wsX0_setOf) := goodIn_app (goodIn_of _ (by decide +kernel)) ggX0_mineOfAll_X0_setOf
theorem dX0_mineOfAll_0 : decode cX0_mineOfAll 0 = .ok (.iconst 0, 1) := by decide +kernel
theorem dX0_mineOfAll_1 : decode cX0_mineOfAll 1 = .ok (.istore_n 3, 1) := by decide +kernel
theorem dX0_mineOfAll_2 : decode cX0_mineOfAll 2 = .ok (.iconst 0, 1) := by decide +kernel
theorem dX0_mineOfAll_3 : decode cX0_mineOfAll 3 = .ok (.istore 4, 2) := by decide +kernel
theorem dX0_mineOfAll_5 : decode cX0_mineOfAll 5 = .ok (.iload 4, 2) := by decide +kernel
theorem dX0_mineOfAll_7 : decode cX0_mineOfAll 7 = .ok (.aload_n 0, 1) := by decide +kernel
theorem dX0_mineOfAll_8 : decode cX0_mineOfAll 8 = .ok (.getfield 26, 3) := by decide +kernel
theorem dX0_mineOfAll_11 : decode cX0_mineOfAll 11 = .ok (.if_icmp .ge 29, 3) := by decide +kernel
theorem dX0_mineOfAll_14 : decode cX0_mineOfAll 14 = .ok (.iload_n 1, 1) := by decide +kernel
theorem dX0_mineOfAll_15 : decode cX0_mineOfAll 15 = .ok (.iload 4, 2) := by decide +kernel
theorem dX0_mineOfAll_17 : decode cX0_mineOfAll 17 = .ok (.invokestatic 34, 3) := by decide +kernel
theorem dX0_mineOfAll_20 : decode cX0_mineOfAll 20 = .ok (.ifCond .eq 14, 3) := by decide +kernel
theorem dX0_mineOfAll_23 : decode cX0_mineOfAll 23 = .ok (.iload_n 3, 1) := by decide +kernel
theorem dX0_mineOfAll_24 : decode cX0_mineOfAll 24 = .ok (.aload_n 0, 1) := by decide +kernel
theorem dX0_mineOfAll_25 : decode cX0_mineOfAll 25 = .ok (.iload 4, 2) := by decide +kernel
theorem dX0_mineOfAll_27 : decode cX0_mineOfAll 27 = .ok (.iconst 0, 1) := by decide +kernel
theorem dX0_mineOfAll_28 : decode cX0_mineOfAll 28 = .ok (.iload_n 2, 1) := by decide +kernel
theorem dX0_mineOfAll_29 : decode cX0_mineOfAll 29 = .ok (.invokevirtual 30, 3) := by decide +kernel
theorem dX0_mineOfAll_32 : decode cX0_mineOfAll 32 = .ok (.ior, 1) := by decide +kernel
theorem dX0_mineOfAll_33 : decode cX0_mineOfAll 33 = .ok (.istore_n 3, 1) := by decide +kernel
theorem dX0_mineOfAll_34 : decode cX0_mineOfAll 34 = .ok (.iinc 4 1, 3) := by decide +kernel
theorem dX0_mineOfAll_37 : decode cX0_mineOfAll 37 = .ok (.goto (-32), 3) := by decide +kernel
theorem dX0_mineOfAll_40 : decode cX0_mineOfAll 40 = .ok (.iload_n 3, 1) := by decide +kernel
theorem dX0_mineOfAll_41 : decode cX0_mineOfAll 41 = .ok (.ireturn, 1) := by decide +kernel
theorem dX1_init_0 : decode cX1_init 0 = .ok (.aload_n 0, 1) := by decide +kernel
theorem dX1_init_1 : decode cX1_init 1 = .ok (.invokespecial 3, 3) := by decide +kernel
theorem dX1_init_4 : decode cX1_init 4 = .ok (.aload_n 0, 1) := by decide +kernel
theorem dX1_init_5 : decode cX1_init 5 = .ok (.bipush 24, 2) := by decide +kernel
theorem dX1_init_7 : decode cX1_init 7 = .ok (.newarray .int, 2) := by decide +kernel
theorem dX1_init_9 : decode cX1_init 9 = .ok (.putfield 9, 3) := by decide +kernel
theorem dX1_init_12 : decode cX1_init 12 = .ok (.aload_n 0, 1) := by decide +kernel
theorem dX1_init_13 : decode cX1_init 13 = .ok (.bipush 24, 2) := by decide +kernel
theorem dX1_init_15 : decode cX1_init 15 = .ok (.newarray .int, 2) := by decide +kernel
theorem dX1_init_17 : decode cX1_init 17 = .ok (.putfield 15, 3) := by decide +kernel
theorem dX1_init_20 : decode cX1_init 20 = .ok (.iconst 0, 1) := by decide +kernel
theorem dX1_init_21 : decode cX1_init 21 = .ok (.istore_n 1, 1) := by decide +kernel
theorem dX1_init_22 : decode cX1_init 22 = .ok (.iload_n 1, 1) := by decide +kernel
theorem dX1_init_23 : decode cX1_init 23 = .ok (.bipush 24, 2) := by decide +kernel
theorem dX1_init_25 : decode cX1_init 25 = .ok (.if_icmp .ge 18, 3) := by decide +kernel
theorem dX1_init_28 : decode cX1_init 28 = .ok (.aload_n 0, 1) := by decide +kernel
theorem dX1_init_29 : decode cX1_init 29 = .ok (.getfield 15, 3) := by decide +kernel
theorem dX1_init_32 : decode cX1_init 32 = .ok (.iload_n 1, 1) := by decide +kernel
theorem dX1_init_33 : decode cX1_init 33 = .ok (.iconst 1, 1) := by decide +kernel
theorem dX1_init_34 : decode cX1_init 34 = .ok (.iload_n 1, 1) := by decide +kernel
theorem dX1_init_35 : decode cX1_init 35 = .ok (.ishl, 1) := by decide +kernel
theorem dX1_init_36 : decode cX1_init 36 = .ok (.iastore, 1) := by decide +kernel
theorem dX1_init_37 : decode cX1_init 37 = .ok (.iinc 1 1, 3) := by decide +kernel
theorem dX1_init_40 : decode cX1_init 40 = .ok (.goto (-18), 3) := by decide +kernel
theorem dX1_init_43 : decode cX1_init 43 = .ok (.return_, 1) := by decide +kernel
set_option maxRecDepth 20000 in
theorem ggX1_areLinked_X3_has : GoodIn wsX1_areLinked wsX3_has := goodIn_r _ [4] (by decide +kernel) (by decide +kernel)
set_option maxRecDepth 20000 in
theorem gX1_areLinked_X3_has_n18 : GoodIn wsX1_areLinked (wsX3_has) := ggX1_areLinked_X3_has
theorem dX1_areLinked_0 : decode cX1_areLinked 0 = .ok (.aload_n 0, 1) := by decide +kernel
theorem dX1_areLinked_1 : decode cX1_areLinked 1 = .ok (.getfield 9, 3) := by decide +kernel
theorem dX1_areLinked_4 : decode cX1_areLinked 4 = .ok (.iload_n 1, 1) := by decide +kernel
theorem dX1_areLinked_5 : decode cX1_areLinked 5 = .ok (.iaload, 1) := by decide +kernel
theorem dX1_areLinked_6 : decode cX1_areLinked 6 = .ok (.iload_n 2, 1) := by decide +kernel
theorem dX1_areLinked_7 : decode cX1_areLinked 7 = .ok (.invokestatic 18, 3) := by decide +kernel
theorem dX1_areLinked_10 : decode cX1_areLinked 10 = .ok (.ireturn, 1) := by decide +kernel
set_option maxRecDepth 20000 in
theorem ggX1_areTogether_X3_has : GoodIn wsX1_areTogether wsX3_has := goodIn_r _ [4] (by decide +kernel) (by decide +kernel)
set_option maxRecDepth 20000 in
theorem gX1_areTogether_X3_has_n18 : GoodIn wsX1_areTogether (wsX3_has) := ggX1_areTogether_X3_has
theorem dX1_areTogether_0 : decode cX1_areTogether 0 = .ok (.aload_n 0, 1) := by decide +kernel
theorem dX1_areTogether_1 : decode cX1_areTogether 1 = .ok (.getfield 15, 3) := by decide +kernel
theorem dX1_areTogether_4 : decode cX1_areTogether 4 = .ok (.iload_n 1, 1) := by decide +kernel
theorem dX1_areTogether_5 : decode cX1_areTogether 5 = .ok (.iaload, 1) := by decide +kernel
theorem dX1_areTogether_6 : decode cX1_areTogether 6 = .ok (.iload_n 2, 1) := by decide +kernel
theorem dX1_areTogether_7 : decode cX1_areTogether 7 = .ok (.invokestatic 18, 3) := by decide +kernel
theorem dX1_areTogether_10 : decode cX1_areTogether 10 = .ok (.ireturn, 1) := by decide +kernel
theorem dX1_groupOf_0 : decode cX1_groupOf 0 = .ok (.aload_n 0, 1) := by decide +kernel
theorem dX1_groupOf_1 : decode cX1_groupOf 1 = .ok (.getfield 15, 3) := by decide +kernel
theorem dX1_groupOf_4 : decode cX1_groupOf 4 = .ok (.iload_n 1, 1) := by decide +kernel
theorem dX1_groupOf_5 : decode cX1_groupOf 5 = .ok (.iaload, 1) := by decide +kernel
theorem dX1_groupOf_6 : decode cX1_groupOf 6 = .ok (.ireturn, 1) := by decide +kernel
theorem dX1_isLowestOfGroup_0 : decode cX1_isLowestOfGroup 0 = .ok (.iconst 1, 1) := by decide +kernel
theorem dX1_isLowestOfGroup_1 : decode cX1_isLowestOfGroup 1 = .ok (.iload_n 1, 1) := by decide +kernel
theorem dX1_isLowestOfGroup_2 : decode cX1_isLowestOfGroup 2 = .ok (.ishl, 1) := by decide +kernel
theorem dX1_isLowestOfGroup_3 : decode cX1_isLowestOfGroup 3 = .ok (.iconst 1, 1) := by decide +kernel
theorem dX1_isLowestOfGroup_4 : decode cX1_isLowestOfGroup 4 = .ok (.isub, 1) := by decide +kernel
theorem dX1_isLowestOfGroup_5 : decode cX1_isLowestOfGroup 5 = .ok (.istore_n 2, 1) := by decide +kernel
theorem dX1_isLowestOfGroup_6 : decode cX1_isLowestOfGroup 6 = .ok (.aload_n 0, 1) := by decide +kernel
theorem dX1_isLowestOfGroup_7 : decode cX1_isLowestOfGroup 7 = .ok (.getfield 15, 3) := by decide +kernel
theorem dX1_isLowestOfGroup_10 : decode cX1_isLowestOfGroup 10 = .ok (.iload_n 1, 1) := by decide +kernel
theorem dX1_isLowestOfGroup_11 : decode cX1_isLowestOfGroup 11 = .ok (.iaload, 1) := by decide +kernel
theorem dX1_isLowestOfGroup_12 : decode cX1_isLowestOfGroup 12 = .ok (.iload_n 2, 1) := by decide +kernel
theorem dX1_isLowestOfGroup_13 : decode cX1_isLowestOfGroup 13 = .ok (.iand, 1) := by decide +kernel
theorem dX1_isLowestOfGroup_14 : decode cX1_isLowestOfGroup 14 = .ok (.ifCond .ne 7, 3) := by decide +kernel
theorem dX1_isLowestOfGroup_17 : decode cX1_isLowestOfGroup 17 = .ok (.iconst 1, 1) := by decide +kernel
theorem dX1_isLowestOfGroup_18 : decode cX1_isLowestOfGroup 18 = .ok (.goto 4, 3) := by decide +kernel
theorem dX1_isLowestOfGroup_21 : decode cX1_isLowestOfGroup 21 = .ok (.iconst 0, 1) := by decide +kernel
theorem dX1_isLowestOfGroup_22 : decode cX1_isLowestOfGroup 22 = .ok (.ireturn, 1) := by decide +kernel
set_option maxRecDepth 20000 in
theorem ggX1_connect_X1_putGroup : GoodIn wsX1_connect wsX1_putGroup := goodIn_r _ [7, 2, 8, 9, 10, 11, 12] (by decide +kernel) (by decide +kernel)
set_option maxRecDepth 20000 in
theorem gX1_connect_X1_putGroup : GoodIn wsX1_connect (wsV RX1 22 RX1 yX1_putGroup wsX1_putGroup) := goodIn_app (goodIn_of _ (by decide +kernel)) ggX1_connect_X1_putGroup
theorem dX1_connect_0 : decode cX1_connect 0 = .ok (.aload_n 0, 1) := by decide +kernel
theorem dX1_connect_1 : decode cX1_connect 1 = .ok (.getfield 9, 3) := by decide +kernel
theorem dX1_connect_4 : decode cX1_connect 4 = .ok (.iload_n 1, 1) := by decide +kernel
theorem dX1_connect_5 : decode cX1_connect 5 = .ok (.dup2, 1) := by decide +kernel
theorem dX1_connect_6 : decode cX1_connect 6 = .ok (.iaload, 1) := by decide +kernel
theorem dX1_connect_7 : decode cX1_connect 7 = .ok (.iconst 1, 1) := by decide +kernel
theorem dX1_connect_8 : decode cX1_connect 8 = .ok (.iload_n 2, 1) := by decide +kernel
theorem dX1_connect_9 : decode cX1_connect 9 = .ok (.ishl, 1) := by decide +kernel
theorem dX1_connect_10 : decode cX1_connect 10 = .ok (.ior, 1) := by decide +kernel
theorem dX1_connect_11 : decode cX1_connect 11 = .ok (.iastore, 1) := by decide +kernel
theorem dX1_connect_12 : decode cX1_connect 12 = .ok (.aload_n 0, 1) := by decide +kernel
theorem dX1_connect_13 : decode cX1_connect 13 = .ok (.getfield 9, 3) := by decide +kernel
theorem dX1_connect_16 : decode cX1_connect 16 = .ok (.iload_n 2, 1) := by decide +kernel
theorem dX1_connect_17 : decode cX1_connect 17 = .ok (.dup2, 1) := by decide +kernel
theorem dX1_connect_18 : decode cX1_connect 18 = .ok (.iaload, 1) := by decide +kernel
theorem dX1_connect_19 : decode cX1_connect 19 = .ok (.iconst 1, 1) := by decide +kernel
theorem dX1_connect_20 : decode cX1_connect 20 = .ok (.iload_n 1, 1) := by decide +kernel
theorem dX1_connect_21 : decode cX1_connect 21 = .ok (.ishl, 1) := by decide +kernel
theorem dX1_connect_22 : decode cX1_connect 22 = .ok (.ior, 1) := by decide +kernel
theorem dX1_connect_23 : decode cX1_connect 23 = .ok (.iastore, 1) := by decide +kernel
theorem dX1_connect_24 : decode cX1_connect 24 = .ok (.aload_n 0, 1) := by decide +kernel
theorem dX1_connect_25 : decode cX1_connect 25 = .ok (.aload_n 0, 1) := by decide +kernel
theorem dX1_connect_26 : decode cX1_connect 26 = .ok (.getfield 15, 3) := by decide +kernel
theorem dX1_connect_29 : decode cX1_connect 29 = .ok (.iload_n 1, 1) := by decide +kernel
theorem dX1_connect_30 : decode cX1_connect 30 = .ok (.iaload, 1) := by decide +kernel
theorem dX1_connect_31 : decode cX1_connect 31 = .ok (.aload_n 0, 1) := by decide +kernel
theorem dX1_connect_32 : decode cX1_connect 32 = .ok (.getfield 15, 3) := by decide +kernel
theorem dX1_connect_35 : decode cX1_connect 35 = .ok (.iload_n 2, 1) := by decide +kernel
theorem dX1_connect_36 : decode cX1_connect 36 = .ok (.iaload, 1) := by decide +kernel
theorem dX1_connect_37 : decode cX1_connect 37 = .ok (.ior, 1) := by decide +kernel
theorem dX1_connect_38 : decode cX1_connect 38 = .ok (.invokevirtual 22, 3) := by decide +kernel
theorem dX1_connect_41 : decode cX1_connect 41 = .ok (.return_, 1) := by decide +kernel
set_option maxRecDepth 20000 in
theorem ggX1_disconnect_X1_reachedFrom : GoodIn wsX1_disconnect wsX1_reachedFrom := goodIn_r _ [6, 7, 8, 9, 5, 10, 1, 11, 12, 13, 19, 20] (by decide +kernel) (by decide +kernel)
set_option maxRecDepth 20000 in
theorem gX1_disconnect_X1_reachedFrom : GoodIn wsX1_disconnect (wsV RX1 26 RX1 yX1_reachedFrom wsX1_reachedFrom) := goodIn_app (goodIn_of _ (by decide +kernel)) ggX1_disconnect_X1_reachedFrom
set_option maxRecDepth 20000 in
theorem ggX1_disconnect_X1_putGroup : GoodIn wsX1_disconnect wsX1_putGroup := goodIn_r _ [17, 18, 11, 12, 13, 19, 20] (by decide +kernel) (by decide +kernel)
set_option maxRecDepth 20000 in
theorem gX1_disconnect_X1_putGroup : GoodIn wsX1_disconnect (wsV RX1 22 RX1 yX1_putGroup wsX1_putGroup) := goodIn_app (goodIn_of _ (by decide +kernel)) ggX1_disconnect_X1_putGroup
theorem dX1_disconnect_0 : decode cX1_disconnect 0 = .ok (.aload_n 0, 1) := by decide +kernel
theorem dX1_disconnect_1 : decode cX1_disconnect 1 = .ok (.getfield 9, 3) := by decide +kernel
theorem dX1_disconnect_4 : decode cX1_disconnect 4 = .ok (.iload_n 1, 1) := by decide +kernel
theorem dX1_disconnect_5 : decode cX1_disconnect 5 = .ok (.dup2, 1) := by decide +kernel
theorem dX1_disconnect_6 : decode cX1_disconnect 6 = .ok (.iaload, 1) := by decide +kernel
theorem dX1_disconnect_7 : decode cX1_disconnect 7 = .ok (.iconst 1, 1) := by decide +kernel
theorem dX1_disconnect_8 : decode cX1_disconnect 8 = .ok (.iload_n 2, 1) := by decide +kernel
theorem dX1_disconnect_9 : decode cX1_disconnect 9 = .ok (.ishl, 1) := by decide +kernel
theorem dX1_disconnect_10 : decode cX1_disconnect 10 = .ok (.iconst (-1), 1) := by decide +kernel
theorem dX1_disconnect_11 : decode cX1_disconnect 11 = .ok (.ixor, 1) := by decide +kernel
theorem dX1_disconnect_12 : decode cX1_disconnect 12 = .ok (.iand, 1) := by decide +kernel
theorem dX1_disconnect_13 : decode cX1_disconnect 13 = .ok (.iastore, 1) := by decide +kernel
theorem dX1_disconnect_14 : decode cX1_disconnect 14 = .ok (.aload_n 0, 1) := by decide +kernel
theorem dX1_disconnect_15 : decode cX1_disconnect 15 = .ok (.getfield 9, 3) := by decide +kernel
theorem dX1_disconnect_18 : decode cX1_disconnect 18 = .ok (.iload_n 2, 1) := by decide +kernel
theorem dX1_disconnect_19 : decode cX1_disconnect 19 = .ok (.dup2, 1) := by decide +kernel
theorem dX1_disconnect_20 : decode cX1_disconnect 20 = .ok (.iaload, 1) := by decide +kernel
theorem dX1_disconnect_21 : decode cX1_disconnect 21 = .ok (.iconst 1, 1) := by decide +kernel
theorem dX1_disconnect_22 : decode cX1_disconnect 22 = .ok (.iload_n 1, 1) := by decide +kernel
theorem dX1_disconnect_23 : decode cX1_disconnect 23 = .ok (.ishl, 1) := by decide +kernel
theorem dX1_disconnect_24 : decode cX1_disconnect 24 = .ok (.iconst (-1), 1) := by decide +kernel
theorem dX1_disconnect_25 : decode cX1_disconnect 25 = .ok (.ixor, 1) := by decide +kernel
theorem dX1_disconnect_26 : decode cX1_disconnect 26 = .ok (.iand, 1) := by decide +kernel
theorem dX1_disconnect_27 : decode cX1_disconnect 27 = .ok (.iastore, 1) := by decide +kernel
theorem dX1_disconnect_28 : decode cX1_disconnect 28 = .ok (.aload_n 0, 1) := by decide +kernel
theorem dX1_disconnect_29 : decode cX1_disconnect 29 = .ok (.aload_n 0, 1) := by decide +kernel
theorem dX1_disconnect_30 : decode cX1_disconnect 30 = .ok (.iload_n 1, 1) := by decide +kernel
theorem dX1_disconnect_31 : decode cX1_disconnect 31 = .ok (.invokevirtual 26, 3) := by decide +kernel
theorem dX1_disconnect_34 : decode cX1_disconnect 34 = .ok (.invokevirtual 22, 3) := by decide +kernel
theorem dX1_disconnect_37 : decode cX1_disconnect 37 = .ok (.aload_n 0, 1) := by decide +kernel
theorem dX1_disconnect_38 : decode cX1_disconnect 38 = .ok (.aload_n 0, 1) := by decide +kernel
theorem dX1_disconnect_39 : decode cX1_disconnect 39 = .ok (.iload_n 2, 1) := by decide +kernel
theorem dX1_disconnect_40 : decode cX1_disconnect 40 = .ok (.invokevirtual 26, 3) := by decide +kernel
theorem dX1_disconnect_43 : decode cX1_disconnect 43 = .ok (.invokevirtual 22, 3) := by decide +kernel
theorem dX1_disconnect_46 : decode cX1_disconnect 46 = .ok (.return_, 1) := by decide +kernel
set_option maxRecDepth 20000 in
theorem ggX1_putGroup_X3_has : GoodIn wsX1_putGroup wsX3_has := goodIn_r _ [4] (by decide +kernel) (by decide +kernel)
set_option maxRecDepth 20000 in
theorem gX1_putGroup_X3_has_n18 : GoodIn wsX1_putGroup (wsX3_has) := ggX1_putGroup_X3_has
theorem dX1_putGroup_0 : decode cX1_putGroup 0 = .ok (.iconst 0, 1) := by decide +kernel
theorem dX1_putGroup_1 : decode cX1_putGroup 1 = .ok (.istore_n 2, 1) := by decide +kernel
theorem dX1_putGroup_2 : decode cX1_putGroup 2 = .ok (.iload_n 2, 1) := by decide +kernel
theorem dX1_putGroup_3 : decode cX1_putGroup 3 = .ok (.bipush 24, 2) := by decide +kernel
theorem dX1_putGroup_5 : decode cX1_putGroup 5 = .ok (.if_icmp .ge 24, 3) := by decide +kernel
theorem dX1_putGroup_8 : decode cX1_putGroup 8 = .ok (.iload_n 1, 1) := by decide +kernel
theorem dX1_putGroup_9 : decode cX1_putGroup 9 = .ok (.iload_n 2, 1) := by decide +kernel
theorem dX1_putGroup_10 : decode cX1_putGroup 10 = .ok (.invokestatic 18, 3) := by decide +kernel
theorem dX1_putGroup_13 : decode cX1_putGroup 13 = .ok (.ifCond .eq 10, 3) := by decide +kernel
theorem dX1_putGroup_16 : decode cX1_putGroup 16 = .ok (.aload_n 0, 1) := by decide +kernel
theorem dX1_putGroup_17 : decode cX1_putGroup 17 = .ok (.getfield 15, 3) := by decide +kernel
theorem dX1_putGroup_20 : decode cX1_putGroup 20 = .ok (.iload_n 2, 1) := by decide +kernel
theorem dX1_putGroup_21 : decode cX1_putGroup 21 = .ok (.iload_n 1, 1) := by decide +kernel
theorem dX1_putGroup_22 : decode cX1_putGroup 22 = .ok (.iastore, 1) := by decide +kernel
theorem dX1_putGroup_23 : decode cX1_putGroup 23 = .ok (.iinc 2 1, 3) := by decide +kernel
theorem dX1_putGroup_26 : decode cX1_putGroup 26 = .ok (.goto (-24), 3) := by decide +kernel
theorem dX1_putGroup_29 : decode cX1_putGroup 29 = .ok (.return_, 1) := by decide +kernel
set_option maxRecDepth 20000 in
theorem ggX1_reachedFrom_X1_linkedToAny : GoodIn wsX1_reachedFrom wsX1_linkedToAny := goodIn_r _ [5, 6, 7, 8, 9, 10, 11] (by decide +kernel) (by decide +kernel)
set_option maxRecDepth 20000 in
theorem gX1_reachedFrom_X1_linkedToAny : GoodIn wsX1_reachedFrom (wsV RX1 30 RX1 yX1_linkedToAny wsX1_linkedToAny) := goodIn_app (goodIn_of _ (by decide +kernel)) ggX1_reachedFrom_X1_linkedToAny
theorem dX1_reachedFrom_0 : decode cX1_reachedFrom 0 = .ok (.iconst 1, 1) := by decide +kernel
theorem dX1_reachedFrom_1 : decode cX1_reachedFrom 1 = .ok (.iload_n 1, 1) := by decide +kernel
theorem dX1_reachedFrom_2 : decode cX1_reachedFrom 2 = .ok (.ishl, 1) := by decide +kernel
theorem dX1_reachedFrom_3 : decode cX1_reachedFrom 3 = .ok (.istore_n 2, 1) := by decide +kernel
theorem dX1_reachedFrom_4 : decode cX1_reachedFrom 4 = .ok (.iconst 0, 1) := by decide +kernel
theorem dX1_reachedFrom_5 : decode cX1_reachedFrom 5 = .ok (.istore_n 3, 1) := by decide +kernel
theorem dX1_reachedFrom_6 : decode cX1_reachedFrom 6 = .ok (.iload_n 3, 1) := by decide +kernel
theorem dX1_reachedFrom_7 : decode cX1_reachedFrom 7 = .ok (.bipush 24, 2) := by decide +kernel
theorem dX1_reachedFrom_9 : decode cX1_reachedFrom 9 = .ok (.if_icmp .ge 17, 3) := by decide +kernel
theorem dX1_reachedFrom_12 : decode cX1_reachedFrom 12 = .ok (.iload_n 2, 1) := by decide +kernel
theorem dX1_reachedFrom_13 : decode cX1_reachedFrom 13 = .ok (.aload_n 0, 1) := by decide +kernel
theorem dX1_reachedFrom_14 : decode cX1_reachedFrom 14 = .ok (.iload_n 2, 1) := by decide +kernel
theorem dX1_reachedFrom_15 : decode cX1_reachedFrom 15 = .ok (.invokevirtual 30, 3) := by decide +kernel
theorem dX1_reachedFrom_18 : decode cX1_reachedFrom 18 = .ok (.ior, 1) := by decide +kernel
theorem dX1_reachedFrom_19 : decode cX1_reachedFrom 19 = .ok (.istore_n 2, 1) := by decide +kernel
theorem dX1_reachedFrom_20 : decode cX1_reachedFrom 20 = .ok (.iinc 3 1, 3) := by decide +kernel
theorem dX1_reachedFrom_23 : decode cX1_reachedFrom 23 = .ok (.goto (-17), 3) := by decide +kernel
theorem dX1_reachedFrom_26 : decode cX1_reachedFrom 26 = .ok (.iload_n 2, 1) := by decide +kernel
theorem dX1_reachedFrom_27 : decode cX1_reachedFrom 27 = .ok (.ireturn, 1) := by decide +kernel
set_option maxRecDepth 20000 in
theorem ggX1_linkedToAny_X3_has : GoodIn wsX1_linkedToAny wsX3_has := goodIn_r _ [4] (by decide +kernel) (by decide +kernel)
set_option maxRecDepth 20000 in
theorem gX1_linkedToAny_X3_has_n18 : GoodIn wsX1_linkedToAny (wsX3_has) := ggX1_linkedToAny_X3_has
theorem dX1_linkedToAny_0 : decode cX1_linkedToAny 0 = .ok (.iconst 0, 1) := by decide +kernel
theorem dX1_linkedToAny_1 : decode cX1_linkedToAny 1 = .ok (.istore_n 2, 1) := by decide +kernel
theorem dX1_linkedToAny_2 : decode cX1_linkedToAny 2 = .ok (.iconst 0, 1) := by decide +kernel
theorem dX1_linkedToAny_3 : decode cX1_linkedToAny 3 = .ok (.istore_n 3, 1) := by decide +kernel
theorem dX1_linkedToAny_4 : decode cX1_linkedToAny 4 = .ok (.iload_n 3, 1) := by decide +kernel
theorem dX1_linkedToAny_5 : decode cX1_linkedToAny 5 = .ok (.bipush 24, 2) := by decide +kernel
theorem dX1_linkedToAny_7 : decode cX1_linkedToAny 7 = .ok (.if_icmp .ge 26, 3) := by decide +kernel
theorem dX1_linkedToAny_10 : decode cX1_linkedToAny 10 = .ok (.iload_n 1, 1) := by decide +kernel
theorem dX1_linkedToAny_11 : decode cX1_linkedToAny 11 = .ok (.iload_n 3, 1) := by decide +kernel
theorem dX1_linkedToAny_12 : decode cX1_linkedToAny 12 = .ok (.invokestatic 18, 3) := by decide +kernel
theorem dX1_linkedToAny_15 : decode cX1_linkedToAny 15 = .ok (.ifCond .eq 12, 3) := by decide +kernel
theorem dX1_linkedToAny_18 : decode cX1_linkedToAny 18 = .ok (.iload_n 2, 1) := by decide +kernel
theorem dX1_linkedToAny_19 : decode cX1_linkedToAny 19 = .ok (.aload_n 0, 1) := by decide +kernel
theorem dX1_linkedToAny_20 : decode cX1_linkedToAny 20 = .ok (.getfield 9, 3) := by decide +kernel
theorem dX1_linkedToAny_23 : decode cX1_linkedToAny 23 = .ok (.iload_n 3, 1) := by decide +kernel
theorem dX1_linkedToAny_24 : decode cX1_linkedToAny 24 = .ok (.iaload, 1) := by decide +kernel
theorem dX1_linkedToAny_25 : decode cX1_linkedToAny 25 = .ok (.ior, 1) := by decide +kernel
theorem dX1_linkedToAny_26 : decode cX1_linkedToAny 26 = .ok (.istore_n 2, 1) := by decide +kernel
theorem dX1_linkedToAny_27 : decode cX1_linkedToAny 27 = .ok (.iinc 3 1, 3) := by decide +kernel
theorem dX1_linkedToAny_30 : decode cX1_linkedToAny 30 = .ok (.goto (-26), 3) := by decide +kernel
theorem dX1_linkedToAny_33 : decode cX1_linkedToAny 33 = .ok (.iload_n 2, 1) := by decide +kernel
theorem dX1_linkedToAny_34 : decode cX1_linkedToAny 34 = .ok (.ireturn, 1) := by decide +kernel
theorem dX2_init_0 : decode cX2_init 0 = .ok (.aload_n 0, 1) := by decide +kernel
theorem dX2_init_1 : decode cX2_init 1 = .ok (.invokespecial 3, 3) := by decide +kernel
theorem dX2_init_4 : decode cX2_init 4 = .ok (.aload_n 0, 1) := by decide +kernel
theorem dX2_init_5 : decode cX2_init 5 = .ok (.bipush 24, 2) := by decide +kernel
theorem dX2_init_7 : decode cX2_init 7 = .ok (.newarray .int, 2) := by decide +kernel
theorem dX2_init_9 : decode cX2_init 9 = .ok (.putfield 9, 3) := by decide +kernel
theorem dX2_init_12 : decode cX2_init 12 = .ok (.aload_n 0, 1) := by decide +kernel
theorem dX2_init_13 : decode cX2_init 13 = .ok (.bipush 24, 2) := by decide +kernel
theorem dX2_init_15 : decode cX2_init 15 = .ok (.bipush 24, 2) := by decide +kernel
theorem dX2_init_17 : decode cX2_init 17 = .ok (.multianewarray 15 2, 4) := by decide +kernel
theorem dX2_init_21 : decode cX2_init 21 = .ok (.putfield 17, 3) := by decide +kernel
theorem dX2_init_24 : decode cX2_init 24 = .ok (.iconst 0, 1) := by decide +kernel
theorem dX2_init_25 : decode cX2_init 25 = .ok (.istore_n 1, 1) := by decide +kernel
theorem dX2_init_26 : decode cX2_init 26 = .ok (.iload_n 1, 1) := by decide +kernel
theorem dX2_init_27 : decode cX2_init 27 = .ok (.bipush 24, 2) := by decide +kernel
theorem dX2_init_29 : decode cX2_init 29 = .ok (.if_icmp .ge 32, 3) := by decide +kernel
theorem dX2_init_32 : decode cX2_init 32 = .ok (.iconst 0, 1) := by decide +kernel
theorem dX2_init_33 : decode cX2_init 33 = .ok (.istore_n 2, 1) := by decide +kernel
theorem dX2_init_34 : decode cX2_init 34 = .ok (.iload_n 2, 1) := by decide +kernel
theorem dX2_init_35 : decode cX2_init 35 = .ok (.bipush 24, 2) := by decide +kernel
theorem dX2_init_37 : decode cX2_init 37 = .ok (.if_icmp .ge 18, 3) := by decide +kernel
theorem dX2_init_40 : decode cX2_init 40 = .ok (.aload_n 0, 1) := by decide +kernel
theorem dX2_init_41 : decode cX2_init 41 = .ok (.getfield 17, 3) := by decide +kernel
theorem dX2_init_44 : decode cX2_init 44 = .ok (.iload_n 1, 1) := by decide +kernel
theorem dX2_init_45 : decode cX2_init 45 = .ok (.aaload, 1) := by decide +kernel
theorem dX2_init_46 : decode cX2_init 46 = .ok (.iload_n 2, 1) := by decide +kernel
theorem dX2_init_47 : decode cX2_init 47 = .ok (.iconst (-1), 1) := by decide +kernel
theorem dX2_init_48 : decode cX2_init 48 = .ok (.iastore, 1) := by decide +kernel
theorem dX2_init_49 : decode cX2_init 49 = .ok (.iinc 2 1, 3) := by decide +kernel
theorem dX2_init_52 : decode cX2_init 52 = .ok (.goto (-18), 3) := by decide +kernel
theorem dX2_init_55 : decode cX2_init 55 = .ok (.iinc 1 1, 3) := by decide +kernel
theorem dX2_init_58 : decode cX2_init 58 = .ok (.goto (-32), 3) := by decide +kernel
theorem dX2_init_61 : decode cX2_init 61 = .ok (.return_, 1) := by decide +kernel
theorem dX2_refuseForGood_0 : decode cX2_refuseForGood 0 = .ok (.aload_n 0, 1) := by decide +kernel
theorem dX2_refuseForGood_1 : decode cX2_refuseForGood 1 = .ok (.getfield 9, 3) := by decide +kernel
theorem dX2_refuseForGood_4 : decode cX2_refuseForGood 4 = .ok (.iload_n 1, 1) := by decide +kernel
theorem dX2_refuseForGood_5 : decode cX2_refuseForGood 5 = .ok (.dup2, 1) := by decide +kernel
theorem dX2_refuseForGood_6 : decode cX2_refuseForGood 6 = .ok (.iaload, 1) := by decide +kernel
theorem dX2_refuseForGood_7 : decode cX2_refuseForGood 7 = .ok (.iconst 1, 1) := by decide +kernel
theorem dX2_refuseForGood_8 : decode cX2_refuseForGood 8 = .ok (.iload_n 2, 1) := by decide +kernel
theorem dX2_refuseForGood_9 : decode cX2_refuseForGood 9 = .ok (.ishl, 1) := by decide +kernel
theorem dX2_refuseForGood_10 : decode cX2_refuseForGood 10 = .ok (.ior, 1) := by decide +kernel
theorem dX2_refuseForGood_11 : decode cX2_refuseForGood 11 = .ok (.iastore, 1) := by decide +kernel
theorem dX2_refuseForGood_12 : decode cX2_refuseForGood 12 = .ok (.aload_n 0, 1) := by decide +kernel
theorem dX2_refuseForGood_13 : decode cX2_refuseForGood 13 = .ok (.getfield 9, 3) := by decide +kernel
theorem dX2_refuseForGood_16 : decode cX2_refuseForGood 16 = .ok (.iload_n 2, 1) := by decide +kernel
theorem dX2_refuseForGood_17 : decode cX2_refuseForGood 17 = .ok (.dup2, 1) := by decide +kernel
theorem dX2_refuseForGood_18 : decode cX2_refuseForGood 18 = .ok (.iaload, 1) := by decide +kernel
theorem dX2_refuseForGood_19 : decode cX2_refuseForGood 19 = .ok (.iconst 1, 1) := by decide +kernel
theorem dX2_refuseForGood_20 : decode cX2_refuseForGood 20 = .ok (.iload_n 1, 1) := by decide +kernel
theorem dX2_refuseForGood_21 : decode cX2_refuseForGood 21 = .ok (.ishl, 1) := by decide +kernel
theorem dX2_refuseForGood_22 : decode cX2_refuseForGood 22 = .ok (.ior, 1) := by decide +kernel
theorem dX2_refuseForGood_23 : decode cX2_refuseForGood 23 = .ok (.iastore, 1) := by decide +kernel
theorem dX2_refuseForGood_24 : decode cX2_refuseForGood 24 = .ok (.return_, 1) := by decide +kernel
theorem dX2_refuseForNow_0 : decode cX2_refuseForNow 0 = .ok (.aload_n 0, 1) := by decide +kernel
theorem dX2_refuseForNow_1 : decode cX2_refuseForNow 1 = .ok (.getfield 17, 3) := by decide +kernel
theorem dX2_refuseForNow_4 : decode cX2_refuseForNow 4 = .ok (.iload_n 1, 1) := by decide +kernel
theorem dX2_refuseForNow_5 : decode cX2_refuseForNow 5 = .ok (.aaload, 1) := by decide +kernel
theorem dX2_refuseForNow_6 : decode cX2_refuseForNow 6 = .ok (.iload_n 2, 1) := by decide +kernel
theorem dX2_refuseForNow_7 : decode cX2_refuseForNow 7 = .ok (.iload_n 3, 1) := by decide +kernel
theorem dX2_refuseForNow_8 : decode cX2_refuseForNow 8 = .ok (.iastore, 1) := by decide +kernel
theorem dX2_refuseForNow_9 : decode cX2_refuseForNow 9 = .ok (.aload_n 0, 1) := by decide +kernel
theorem dX2_refuseForNow_10 : decode cX2_refuseForNow 10 = .ok (.getfield 17, 3) := by decide +kernel
theorem dX2_refuseForNow_13 : decode cX2_refuseForNow 13 = .ok (.iload_n 2, 1) := by decide +kernel
theorem dX2_refuseForNow_14 : decode cX2_refuseForNow 14 = .ok (.aaload, 1) := by decide +kernel
theorem dX2_refuseForNow_15 : decode cX2_refuseForNow 15 = .ok (.iload_n 1, 1) := by decide +kernel
theorem dX2_refuseForNow_16 : decode cX2_refuseForNow 16 = .ok (.iload_n 3, 1) := by decide +kernel
theorem dX2_refuseForNow_17 : decode cX2_refuseForNow 17 = .ok (.iastore, 1) := by decide +kernel
theorem dX2_refuseForNow_18 : decode cX2_refuseForNow 18 = .ok (.return_, 1) := by decide +kernel
set_option maxRecDepth 20000 in
theorem ggX2_stands_X3_has : GoodIn wsX2_stands wsX3_has := goodIn_r _ [5] (by decide +kernel) (by decide +kernel)
set_option maxRecDepth 20000 in
theorem gX2_stands_X3_has_n20 : GoodIn wsX2_stands (wsX3_has) := ggX2_stands_X3_has
theorem dX2_stands_0 : decode cX2_stands 0 = .ok (.aload_n 0, 1) := by decide +kernel
theorem dX2_stands_1 : decode cX2_stands 1 = .ok (.getfield 9, 3) := by decide +kernel
theorem dX2_stands_4 : decode cX2_stands 4 = .ok (.iload_n 1, 1) := by decide +kernel
theorem dX2_stands_5 : decode cX2_stands 5 = .ok (.iaload, 1) := by decide +kernel
theorem dX2_stands_6 : decode cX2_stands 6 = .ok (.iload_n 2, 1) := by decide +kernel
theorem dX2_stands_7 : decode cX2_stands 7 = .ok (.invokestatic 20, 3) := by decide +kernel
theorem dX2_stands_10 : decode cX2_stands 10 = .ok (.ifCond .ne 15, 3) := by decide +kernel
theorem dX2_stands_13 : decode cX2_stands 13 = .ok (.aload_n 0, 1) := by decide +kernel
theorem dX2_stands_14 : decode cX2_stands 14 = .ok (.getfield 17, 3) := by decide +kernel
theorem dX2_stands_17 : decode cX2_stands 17 = .ok (.iload_n 1, 1) := by decide +kernel
theorem dX2_stands_18 : decode cX2_stands 18 = .ok (.aaload, 1) := by decide +kernel
theorem dX2_stands_19 : decode cX2_stands 19 = .ok (.iload_n 2, 1) := by decide +kernel
theorem dX2_stands_20 : decode cX2_stands 20 = .ok (.iaload, 1) := by decide +kernel
theorem dX2_stands_21 : decode cX2_stands 21 = .ok (.iload_n 3, 1) := by decide +kernel
theorem dX2_stands_22 : decode cX2_stands 22 = .ok (.if_icmp .ne 7, 3) := by decide +kernel
theorem dX2_stands_25 : decode cX2_stands 25 = .ok (.iconst 1, 1) := by decide +kernel
theorem dX2_stands_26 : decode cX2_stands 26 = .ok (.goto 4, 3) := by decide +kernel
theorem dX2_stands_29 : decode cX2_stands 29 = .ok (.iconst 0, 1) := by decide +kernel
theorem dX2_stands_30 : decode cX2_stands 30 = .ok (.ireturn, 1) := by decide +kernel
set_option maxRecDepth 20000 in
theorem ggX3_init_X0_init : GoodIn wsX3_init wsX0_init := goodIn_r _ [20, 21, 2, 3, 16, 22, 23, 24, 25, 26, 27, 41, 42, 43, 44, 45] (by decide +kernel) (by decide +kernel)
set_option maxRecDepth 20000 in
theorem gX3_init_X0_init : GoodIn wsX3_init (wsX0_init) := ggX3_init_X0_init
set_option maxRecDepth 20000 in
theorem ggX3_init_X1_init : GoodIn wsX3_init wsX1_init := goodIn_r _ [30, 31, 2, 3, 16, 32, 33, 50, 51] (by decide +kernel) (by decide +kernel)
set_option maxRecDepth 20000 in
theorem gX3_init_X1_init : GoodIn wsX3_init (wsX1_init) := ggX3_init_X1_init
set_option maxRecDepth 20000 in
theorem ggX3_init_X2_init : GoodIn wsX3_init wsX2_init := goodIn_r _ [36, 37, 2, 3, 16, 38, 39, 40, 52, 53] (by decide +kernel) (by decide +kernel)
set_option maxRecDepth 20000 in
theorem gX3_init_X2_init : GoodIn wsX3_init (wsX2_init) := ggX3_init_X2_init
theorem dX3_init_0 : decode cX3_init 0 = .ok (.aload_n 0, 1) := by decide +kernel
theorem dX3_init_1 : decode cX3_init 1 = .ok (.invokespecial 3, 3) := by decide +kernel
theorem dX3_init_4 : decode cX3_init 4 = .ok (.aload_n 0, 1) := by decide +kernel
theorem dX3_init_5 : decode cX3_init 5 = .ok (.new 9, 3) := by decide +kernel
theorem dX3_init_8 : decode cX3_init 8 = .ok (.dup, 1) := by decide +kernel
theorem dX3_init_9 : decode cX3_init 9 = .ok (.invokespecial 11, 3) := by decide +kernel
theorem dX3_init_12 : decode cX3_init 12 = .ok (.putfield 12, 3) := by decide +kernel
theorem dX3_init_15 : decode cX3_init 15 = .ok (.aload_n 0, 1) := by decide +kernel
theorem dX3_init_16 : decode cX3_init 16 = .ok (.new 16, 3) := by decide +kernel
theorem dX3_init_19 : decode cX3_init 19 = .ok (.dup, 1) := by decide +kernel
theorem dX3_init_20 : decode cX3_init 20 = .ok (.invokespecial 18, 3) := by decide +kernel
theorem dX3_init_23 : decode cX3_init 23 = .ok (.putfield 19, 3) := by decide +kernel
theorem dX3_init_26 : decode cX3_init 26 = .ok (.aload_n 0, 1) := by decide +kernel
theorem dX3_init_27 : decode cX3_init 27 = .ok (.new 23, 3) := by decide +kernel
theorem dX3_init_30 : decode cX3_init 30 = .ok (.dup, 1) := by decide +kernel
theorem dX3_init_31 : decode cX3_init 31 = .ok (.invokespecial 25, 3) := by decide +kernel
theorem dX3_init_34 : decode cX3_init 34 = .ok (.putfield 26, 3) := by decide +kernel
theorem dX3_init_37 : decode cX3_init 37 = .ok (.aload_n 0, 1) := by decide +kernel
theorem dX3_init_38 : decode cX3_init 38 = .ok (.sipush 153, 3) := by decide +kernel
theorem dX3_init_41 : decode cX3_init 41 = .ok (.newarray .int, 2) := by decide +kernel
theorem dX3_init_43 : decode cX3_init 43 = .ok (.putfield 30, 3) := by decide +kernel
theorem dX3_init_46 : decode cX3_init 46 = .ok (.return_, 1) := by decide +kernel
set_option maxRecDepth 20000 in
theorem ggX3_add_X3_checkBook : GoodIn wsX3_add wsX3_checkBook := goodIn_ca (goodIn_r _ [8, 9, 10] (by decide +kernel) (by decide +kernel)) (goodIn_sub (fun _ h => List.mem_cons_of_mem _ (List.mem_append_left _ (List.mem_append_right _ h))) (by decide +kernel))
set_option maxRecDepth 20000 in
theorem gX3_add_X3_checkBook : GoodIn wsX3_add (wsV RX3 34 RX3 yX3_checkBook wsX3_checkBook) := goodIn_app (goodIn_of _ (by decide +kernel)) ggX3_add_X3_checkBook
set_option maxRecDepth 20000 in
theorem ggX3_add_X3_isName : GoodIn wsX3_add wsX3_isName := goodIn_r _ [13] (by decide +kernel) (by decide +kernel)
set_option maxRecDepth 20000 in
theorem gX3_add_X3_isName : GoodIn wsX3_add (va_wsS RX3 38 yX3_isName wsX3_isName) := goodIn_app (goodIn_of _ (by decide +kernel)) ggX3_add_X3_isName
set_option maxRecDepth 20000 in
theorem ggX3_add_X3_checkArgument : GoodIn wsX3_add wsX3_checkArgument := goodIn_ca (goodIn_r _ [16, 17, 18] (by decide +kernel) (by decide +kernel)) (goodIn_sub (fun _ h => List.mem_cons_of_mem _ (List.mem_append_right _ h)) (by decide +kernel))
set_option maxRecDepth 20000 in
theorem gX3_add_X3_checkArgument : GoodIn wsX3_add (va_wsS RX3 42 yX3_checkArgument wsX3_checkArgument) := goodIn_app (goodIn_of _ (by decide +kernel)) ggX3_add_X3_checkArgument
set_option maxRecDepth 20000 in
theorem ggX3_add_X0_append : GoodIn wsX3_add wsX0_append := goodIn_r _ [23, 24, 25, 26, 31, 32, 33, 34, 35] (by decide +kernel) (by decide +kernel)
set_option maxRecDepth 20000 in
theorem gX3_add_X0_append : GoodIn wsX3_add (wsV RX3 57 RX0 yX0_append wsX0_append) := goodIn_app (goodIn_of _ (by decide +kernel)) ggX3_add_X0_append
theorem dX3_add_0 : decode cX3_add 0 = .ok (.aload_n 0, 1) := by decide +kernel
theorem dX3_add_1 : decode cX3_add 1 = .ok (.iload_n 1, 1) := by decide +kernel
theorem dX3_add_2 : decode cX3_add 2 = .ok (.invokevirtual 34, 3) := by decide +kernel
theorem dX3_add_5 : decode cX3_add 5 = .ok (.iload_n 2, 1) := by decide +kernel
theorem dX3_add_6 : decode cX3_add 6 = .ok (.invokestatic 38, 3) := by decide +kernel
theorem dX3_add_9 : decode cX3_add 9 = .ok (.invokestatic 42, 3) := by decide +kernel
theorem dX3_add_12 : decode cX3_add 12 = .ok (.aload_n 0, 1) := by decide +kernel
theorem dX3_add_13 : decode cX3_add 13 = .ok (.getfield 12, 3) := by decide +kernel
theorem dX3_add_16 : decode cX3_add 16 = .ok (.getfield 46, 3) := by decide +kernel
theorem dX3_add_19 : decode cX3_add 19 = .ok (.bipush 24, 2) := by decide +kernel
theorem dX3_add_21 : decode cX3_add 21 = .ok (.if_icmp .lt 13, 3) := by decide +kernel
theorem dX3_add_24 : decode cX3_add 24 = .ok (.new 50, 3) := by decide +kernel
theorem dX3_add_27 : decode cX3_add 27 = .ok (.dup, 1) := by decide +kernel
theorem dX3_add_28 : decode cX3_add 28 = .ok (.ldc 52, 2) := by decide +kernel
theorem dX3_add_30 : decode cX3_add 30 = .ok (.invokespecial 54, 3) := by decide +kernel
theorem dX3_add_33 : decode cX3_add 33 = .ok (.athrow, 1) := by decide +kernel
theorem dX3_add_34 : decode cX3_add 34 = .ok (.aload_n 0, 1) := by decide +kernel
theorem dX3_add_35 : decode cX3_add 35 = .ok (.getfield 12, 3) := by decide +kernel
theorem dX3_add_38 : decode cX3_add 38 = .ok (.iload_n 1, 1) := by decide +kernel
theorem dX3_add_39 : decode cX3_add 39 = .ok (.iload_n 2, 1) := by decide +kernel
theorem dX3_add_40 : decode cX3_add 40 = .ok (.invokevirtual 57, 3) := by decide +kernel
theorem dX3_add_43 : decode cX3_add 43 = .ok (.ireturn, 1) := by decide +kernel
set_option maxRecDepth 20000 in
theorem ggX3_turn_X3_checkCard : GoodIn wsX3_turn wsX3_checkCard := goodIn_ca (goodIn_r _ [6, 7, 8, 1, 38, 39, 40, 41, 42, 43, 44, 45, 46] (by decide +kernel) (by decide +kernel)) (goodIn_sub (fun _ h => List.mem_cons_of_mem _ (List.mem_append_left _ (List.mem_append_right _ h))) (by decide +kernel))
set_option maxRecDepth 20000 in
theorem gX3_turn_X3_checkCard : GoodIn wsX3_turn (wsV RX3 61 RX3 yX3_checkCard wsX3_checkCard) := goodIn_app (goodIn_of _ (by decide +kernel)) ggX3_turn_X3_checkCard
set_option maxRecDepth 20000 in
theorem ggX3_turn_X3_isChangeable : GoodIn wsX3_turn wsX3_isChangeable := goodIn_r _ [11] (by decide +kernel) (by decide +kernel)
set_option maxRecDepth 20000 in
theorem gX3_turn_X3_isChangeable : GoodIn wsX3_turn (va_wsS RX3 64 yX3_isChangeable wsX3_isChangeable) := goodIn_app (goodIn_of _ (by decide +kernel)) ggX3_turn_X3_isChangeable
set_option maxRecDepth 20000 in
theorem ggX3_turn_X3_isKind : GoodIn wsX3_turn wsX3_isKind := goodIn_r _ [14] (by decide +kernel) (by decide +kernel)
set_option maxRecDepth 20000 in
theorem gX3_turn_X3_isKind : GoodIn wsX3_turn (va_wsS RX3 67 yX3_isKind wsX3_isKind) := goodIn_app (goodIn_of _ (by decide +kernel)) ggX3_turn_X3_isKind
set_option maxRecDepth 20000 in
theorem ggX3_turn_X3_isValue : GoodIn wsX3_turn wsX3_isValue := goodIn_r _ [17] (by decide +kernel) (by decide +kernel)
set_option maxRecDepth 20000 in
theorem gX3_turn_X3_isValue : GoodIn wsX3_turn (va_wsS RX3 70 yX3_isValue wsX3_isValue) := goodIn_app (goodIn_of _ (by decide +kernel)) ggX3_turn_X3_isValue
set_option maxRecDepth 20000 in
theorem ggX3_turn_X3_checkArgument : GoodIn wsX3_turn wsX3_checkArgument := goodIn_ca (goodIn_r _ [20, 21, 22] (by decide +kernel) (by decide +kernel)) (goodIn_sub (fun _ h => List.mem_cons_of_mem _ (List.mem_append_right _ h)) (by decide +kernel))
set_option maxRecDepth 20000 in
theorem gX3_turn_X3_checkArgument : GoodIn wsX3_turn (va_wsS RX3 42 yX3_checkArgument wsX3_checkArgument) := goodIn_app (goodIn_of _ (by decide +kernel)) ggX3_turn_X3_checkArgument
set_option maxRecDepth 20000 in
theorem ggX3_turn_X0_setOf : GoodIn wsX3_turn wsX0_setOf := goodIn_r _ [27, 28, 42, 43, 44, 45, 46] (by decide +kernel) (by decide +kernel)
set_option maxRecDepth 20000 in
theorem gX3_turn_X0_setOf : GoodIn wsX3_turn (wsV RX3 73 RX0 yX0_setOf wsX0_setOf) := goodIn_app (goodIn_of _ (by decide +kernel)) ggX3_turn_X0_setOf
set_option maxRecDepth 20000 in
theorem ggX3_turn_X0_putSet : GoodIn wsX3_turn wsX0_putSet := goodIn_r _ [32, 33, 28, 34, 24, 25, 26, 27, 42, 43, 44, 45, 46] (by decide +kernel) (by decide +kernel)
set_option maxRecDepth 20000 in
theorem gX3_turn_X0_putSet : GoodIn wsX3_turn (wsV RX3 77 RX0 yX0_putSet wsX0_putSet) := goodIn_app (goodIn_of _ (by decide +kernel)) ggX3_turn_X0_putSet
set_option maxRecDepth 20000 in
theorem ggX3_turn_X3_has : GoodIn wsX3_turn wsX3_has := goodIn_r _ [37] (by decide +kernel) (by decide +kernel)
set_option maxRecDepth 20000 in
theorem gX3_turn_X3_has : GoodIn wsX3_turn (va_wsS RX3 81 yX3_has wsX3_has) := goodIn_app (goodIn_of _ (by decide +kernel)) ggX3_turn_X3_has
theorem dX3_turn_0 : decode cX3_turn 0 = .ok (.aload_n 0, 1) := by decide +kernel
theorem dX3_turn_1 : decode cX3_turn 1 = .ok (.iload_n 1, 1) := by decide +kernel
theorem dX3_turn_2 : decode cX3_turn 2 = .ok (.invokevirtual 61, 3) := by decide +kernel
theorem dX3_turn_5 : decode cX3_turn 5 = .ok (.iload_n 2, 1) := by decide +kernel
theorem dX3_turn_6 : decode cX3_turn 6 = .ok (.invokestatic 64, 3) := by decide +kernel
theorem dX3_turn_9 : decode cX3_turn 9 = .ok (.ifCond .eq 22, 3) := by decide +kernel
theorem dX3_turn_12 : decode cX3_turn 12 = .ok (.iload_n 3, 1) := by decide +kernel
theorem dX3_turn_13 : decode cX3_turn 13 = .ok (.invokestatic 67, 3) := by decide +kernel
theorem dX3_turn_16 : decode cX3_turn 16 = .ok (.ifCond .eq 15, 3) := by decide +kernel
theorem dX3_turn_19 : decode cX3_turn 19 = .ok (.iload 4, 2) := by decide +kernel
theorem dX3_turn_21 : decode cX3_turn 21 = .ok (.invokestatic 70, 3) := by decide +kernel
theorem dX3_turn_24 : decode cX3_turn 24 = .ok (.ifCond .eq 7, 3) := by decide +kernel
theorem dX3_turn_27 : decode cX3_turn 27 = .ok (.iconst 1, 1) := by decide +kernel
theorem dX3_turn_28 : decode cX3_turn 28 = .ok (.goto 4, 3) := by decide +kernel
theorem dX3_turn_31 : decode cX3_turn 31 = .ok (.iconst 0, 1) := by decide +kernel
theorem dX3_turn_32 : decode cX3_turn 32 = .ok (.invokestatic 42, 3) := by decide +kernel
theorem dX3_turn_35 : decode cX3_turn 35 = .ok (.aload_n 0, 1) := by decide +kernel
theorem dX3_turn_36 : decode cX3_turn 36 = .ok (.getfield 12, 3) := by decide +kernel
theorem dX3_turn_39 : decode cX3_turn 39 = .ok (.iload_n 1, 1) := by decide +kernel
theorem dX3_turn_40 : decode cX3_turn 40 = .ok (.iload_n 2, 1) := by decide +kernel
theorem dX3_turn_41 : decode cX3_turn 41 = .ok (.iload_n 3, 1) := by decide +kernel
theorem dX3_turn_42 : decode cX3_turn 42 = .ok (.invokevirtual 73, 3) := by decide +kernel
theorem dX3_turn_45 : decode cX3_turn 45 = .ok (.iconst 1, 1) := by decide +kernel
theorem dX3_turn_46 : decode cX3_turn 46 = .ok (.iload 4, 2) := by decide +kernel
theorem dX3_turn_48 : decode cX3_turn 48 = .ok (.ishl, 1) := by decide +kernel
theorem dX3_turn_49 : decode cX3_turn 49 = .ok (.ixor, 1) := by decide +kernel
theorem dX3_turn_50 : decode cX3_turn 50 = .ok (.istore 5, 2) := by decide +kernel
theorem dX3_turn_52 : decode cX3_turn 52 = .ok (.aload_n 0, 1) := by decide +kernel
theorem dX3_turn_53 : decode cX3_turn 53 = .ok (.getfield 12, 3) := by decide +kernel
theorem dX3_turn_56 : decode cX3_turn 56 = .ok (.iload_n 1, 1) := by decide +kernel
theorem dX3_turn_57 : decode cX3_turn 57 = .ok (.iload_n 2, 1) := by decide +kernel
theorem dX3_turn_58 : decode cX3_turn 58 = .ok (.iload_n 3, 1) := by decide +kernel
theorem dX3_turn_59 : decode cX3_turn 59 = .ok (.iload 5, 2) := by decide +kernel
theorem dX3_turn_61 : decode cX3_turn 61 = .ok (.invokevirtual 77, 3) := by decide +kernel
theorem dX3_turn_64 : decode cX3_turn 64 = .ok (.iload 5, 2) := by decide +kernel
theorem dX3_turn_66 : decode cX3_turn 66 = .ok (.iload 4, 2) := by decide +kernel
theorem dX3_turn_68 : decode cX3_turn 68 = .ok (.invokestatic 81, 3) := by decide +kernel
theorem dX3_turn_71 : decode cX3_turn 71 = .ok (.ireturn, 1) := by decide +kernel
set_option maxRecDepth 20000 in
theorem ggX3_rename_X3_checkCard : GoodIn wsX3_rename wsX3_checkCard := goodIn_ca (goodIn_r _ [6, 7, 8, 1, 31, 32, 33, 34, 35, 36, 37, 38, 39] (by decide +kernel) (by decide +kernel)) (goodIn_sub (fun _ h => List.mem_cons_of_mem _ (List.mem_append_left _ (List.mem_append_right _ h))) (by decide +kernel))
set_option maxRecDepth 20000 in
theorem gX3_rename_X3_checkCard : GoodIn wsX3_rename (wsV RX3 61 RX3 yX3_checkCard wsX3_checkCard) := goodIn_app (goodIn_of _ (by decide +kernel)) ggX3_rename_X3_checkCard
set_option maxRecDepth 20000 in
theorem ggX3_rename_X3_isChangeable : GoodIn wsX3_rename wsX3_isChangeable := goodIn_r _ [11] (by decide +kernel) (by decide +kernel)
set_option maxRecDepth 20000 in
theorem gX3_rename_X3_isChangeable : GoodIn wsX3_rename (va_wsS RX3 64 yX3_isChangeable wsX3_isChangeable) := goodIn_app (goodIn_of _ (by decide +kernel)) ggX3_rename_X3_isChangeable
set_option maxRecDepth 20000 in
theorem ggX3_rename_X3_isName : GoodIn wsX3_rename wsX3_isName := goodIn_r _ [14] (by decide +kernel) (by decide +kernel)
set_option maxRecDepth 20000 in
theorem gX3_rename_X3_isName : GoodIn wsX3_rename (va_wsS RX3 38 yX3_isName wsX3_isName) := goodIn_app (goodIn_of _ (by decide +kernel)) ggX3_rename_X3_isName
set_option maxRecDepth 20000 in
theorem ggX3_rename_X3_checkArgument : GoodIn wsX3_rename wsX3_checkArgument := goodIn_ca (goodIn_r _ [17, 18, 19] (by decide +kernel) (by decide +kernel)) (goodIn_sub (fun _ h => List.mem_cons_of_mem _ (List.mem_append_right _ h)) (by decide +kernel))
set_option maxRecDepth 20000 in
theorem gX3_rename_X3_checkArgument : GoodIn wsX3_rename (va_wsS RX3 42 yX3_checkArgument wsX3_checkArgument) := goodIn_app (goodIn_of _ (by decide +kernel)) ggX3_rename_X3_checkArgument
set_option maxRecDepth 20000 in
theorem ggX3_rename_X0_nameIn : GoodIn wsX3_rename wsX0_nameIn := goodIn_r _ [24, 25, 35, 36, 37, 38, 39] (by decide +kernel) (by decide +kernel)
set_option maxRecDepth 20000 in
theorem gX3_rename_X0_nameIn : GoodIn wsX3_rename (wsV RX3 85 RX0 yX0_nameIn wsX0_nameIn) := goodIn_app (goodIn_of _ (by decide +kernel)) ggX3_rename_X0_nameIn
set_option maxRecDepth 20000 in
theorem ggX3_rename_X0_putName : GoodIn wsX3_rename wsX0_putName := goodIn_r _ [29, 25, 30, 35, 36, 37, 38, 39] (by decide +kernel) (by decide +kernel)
set_option maxRecDepth 20000 in
theorem gX3_rename_X0_putName : GoodIn wsX3_rename (wsV RX3 88 RX0 yX0_putName wsX0_putName) := goodIn_app (goodIn_of _ (by decide +kernel)) ggX3_rename_X0_putName
theorem dX3_rename_0 : decode cX3_rename 0 = .ok (.aload_n 0, 1) := by decide +kernel
theorem dX3_rename_1 : decode cX3_rename 1 = .ok (.iload_n 1, 1) := by decide +kernel
theorem dX3_rename_2 : decode cX3_rename 2 = .ok (.invokevirtual 61, 3) := by decide +kernel
theorem dX3_rename_5 : decode cX3_rename 5 = .ok (.iload_n 2, 1) := by decide +kernel
theorem dX3_rename_6 : decode cX3_rename 6 = .ok (.invokestatic 64, 3) := by decide +kernel
theorem dX3_rename_9 : decode cX3_rename 9 = .ok (.ifCond .eq 14, 3) := by decide +kernel
theorem dX3_rename_12 : decode cX3_rename 12 = .ok (.iload_n 3, 1) := by decide +kernel
theorem dX3_rename_13 : decode cX3_rename 13 = .ok (.invokestatic 38, 3) := by decide +kernel
theorem dX3_rename_16 : decode cX3_rename 16 = .ok (.ifCond .eq 7, 3) := by decide +kernel
theorem dX3_rename_19 : decode cX3_rename 19 = .ok (.iconst 1, 1) := by decide +kernel
theorem dX3_rename_20 : decode cX3_rename 20 = .ok (.goto 4, 3) := by decide +kernel
theorem dX3_rename_23 : decode cX3_rename 23 = .ok (.iconst 0, 1) := by decide +kernel
theorem dX3_rename_24 : decode cX3_rename 24 = .ok (.invokestatic 42, 3) := by decide +kernel
theorem dX3_rename_27 : decode cX3_rename 27 = .ok (.aload_n 0, 1) := by decide +kernel
theorem dX3_rename_28 : decode cX3_rename 28 = .ok (.getfield 12, 3) := by decide +kernel
theorem dX3_rename_31 : decode cX3_rename 31 = .ok (.iload_n 1, 1) := by decide +kernel
theorem dX3_rename_32 : decode cX3_rename 32 = .ok (.iload_n 2, 1) := by decide +kernel
theorem dX3_rename_33 : decode cX3_rename 33 = .ok (.invokevirtual 85, 3) := by decide +kernel
theorem dX3_rename_36 : decode cX3_rename 36 = .ok (.istore 4, 2) := by decide +kernel
theorem dX3_rename_38 : decode cX3_rename 38 = .ok (.aload_n 0, 1) := by decide +kernel
theorem dX3_rename_39 : decode cX3_rename 39 = .ok (.getfield 12, 3) := by decide +kernel
theorem dX3_rename_42 : decode cX3_rename 42 = .ok (.iload_n 1, 1) := by decide +kernel
theorem dX3_rename_43 : decode cX3_rename 43 = .ok (.iload_n 2, 1) := by decide +kernel
theorem dX3_rename_44 : decode cX3_rename 44 = .ok (.iload_n 3, 1) := by decide +kernel
theorem dX3_rename_45 : decode cX3_rename 45 = .ok (.invokevirtual 88, 3) := by decide +kernel
theorem dX3_rename_48 : decode cX3_rename 48 = .ok (.iload 4, 2) := by decide +kernel
theorem dX3_rename_50 : decode cX3_rename 50 = .ok (.ireturn, 1) := by decide +kernel
set_option maxRecDepth 20000 in
theorem ggX3_sync_X3_checkBook : GoodIn wsX3_sync wsX3_checkBook := goodIn_ca (goodIn_r _ [6, 7, 8] (by decide +kernel) (by decide +kernel)) (goodIn_sub (fun _ h => List.mem_cons_of_mem _ (List.mem_append_right _ h)) (by decide +kernel))
set_option maxRecDepth 20000 in
theorem gX3_sync_X3_checkBook : GoodIn wsX3_sync (wsV RX3 34 RX3 yX3_checkBook wsX3_checkBook) := goodIn_app (goodIn_of _ (by decide +kernel)) ggX3_sync_X3_checkBook
set_option maxRecDepth 20000 in
theorem ggX3_sync_X0_isIn : GoodIn wsX3_sync wsX0_isIn := goodIn_r _ [13, 14, 54, 55, 56, 57, 58] (by decide +kernel) (by decide +kernel)
set_option maxRecDepth 20000 in
theorem gX3_sync_X0_isIn : GoodIn wsX3_sync (wsV RX3 92 RX0 yX0_isIn wsX0_isIn) := goodIn_app (goodIn_of _ (by decide +kernel)) ggX3_sync_X0_isIn
set_option maxRecDepth 20000 in
theorem ggX3_sync_X0_namesClash : GoodIn wsX3_sync wsX0_namesClash := goodIn_r _ [18, 19, 20, 21, 12, 22, 23, 54, 55, 56, 57, 58] (by decide +kernel) (by decide +kernel)
set_option maxRecDepth 20000 in
theorem gX3_sync_X0_namesClash : GoodIn wsX3_sync (wsV RX3 95 RX0 yX0_namesClash wsX0_namesClash) := goodIn_app (goodIn_of _ (by decide +kernel)) ggX3_sync_X0_namesClash
set_option maxRecDepth 20000 in
theorem ggX3_sync_X0_mergeVersions : GoodIn wsX3_sync wsX0_mergeVersions := goodIn_r _ [27, 28, 29, 30, 12, 31, 19, 20, 21, 22, 23, 32, 33, 34, 35, 36, 37, 38, 39, 40, 41, 42, 43, 44, 45, 46, 47, 48, 49, 54, 55, 56, 57, 58] (by decide +kernel) (by decide +kernel)
set_option maxRecDepth 20000 in
theorem gX3_sync_X0_mergeVersions : GoodIn wsX3_sync (wsV RX3 98 RX0 yX0_mergeVersions wsX0_mergeVersions) := goodIn_app (goodIn_of _ (by decide +kernel)) ggX3_sync_X0_mergeVersions
theorem dX3_sync_0 : decode cX3_sync 0 = .ok (.aload_n 0, 1) := by decide +kernel
theorem dX3_sync_1 : decode cX3_sync 1 = .ok (.iload_n 1, 1) := by decide +kernel
theorem dX3_sync_2 : decode cX3_sync 2 = .ok (.invokevirtual 34, 3) := by decide +kernel
theorem dX3_sync_5 : decode cX3_sync 5 = .ok (.iconst 0, 1) := by decide +kernel
theorem dX3_sync_6 : decode cX3_sync 6 = .ok (.istore_n 2, 1) := by decide +kernel
theorem dX3_sync_7 : decode cX3_sync 7 = .ok (.iconst 0, 1) := by decide +kernel
theorem dX3_sync_8 : decode cX3_sync 8 = .ok (.istore_n 3, 1) := by decide +kernel
theorem dX3_sync_9 : decode cX3_sync 9 = .ok (.iload_n 3, 1) := by decide +kernel
theorem dX3_sync_10 : decode cX3_sync 10 = .ok (.aload_n 0, 1) := by decide +kernel
theorem dX3_sync_11 : decode cX3_sync 11 = .ok (.getfield 12, 3) := by decide +kernel
theorem dX3_sync_14 : decode cX3_sync 14 = .ok (.getfield 46, 3) := by decide +kernel
theorem dX3_sync_17 : decode cX3_sync 17 = .ok (.if_icmp .ge 43, 3) := by decide +kernel
theorem dX3_sync_20 : decode cX3_sync 20 = .ok (.aload_n 0, 1) := by decide +kernel
theorem dX3_sync_21 : decode cX3_sync 21 = .ok (.getfield 12, 3) := by decide +kernel
theorem dX3_sync_24 : decode cX3_sync 24 = .ok (.iload_n 3, 1) := by decide +kernel
theorem dX3_sync_25 : decode cX3_sync 25 = .ok (.iload_n 1, 1) := by decide +kernel
theorem dX3_sync_26 : decode cX3_sync 26 = .ok (.invokevirtual 92, 3) := by decide +kernel
theorem dX3_sync_29 : decode cX3_sync 29 = .ok (.ifCond .eq 25, 3) := by decide +kernel
theorem dX3_sync_32 : decode cX3_sync 32 = .ok (.aload_n 0, 1) := by decide +kernel
theorem dX3_sync_33 : decode cX3_sync 33 = .ok (.getfield 12, 3) := by decide +kernel
theorem dX3_sync_36 : decode cX3_sync 36 = .ok (.iload_n 3, 1) := by decide +kernel
theorem dX3_sync_37 : decode cX3_sync 37 = .ok (.invokevirtual 95, 3) := by decide +kernel
theorem dX3_sync_40 : decode cX3_sync 40 = .ok (.ifCond .eq 6, 3) := by decide +kernel
theorem dX3_sync_43 : decode cX3_sync 43 = .ok (.iinc 2 1, 3) := by decide +kernel
theorem dX3_sync_46 : decode cX3_sync 46 = .ok (.aload_n 0, 1) := by decide +kernel
theorem dX3_sync_47 : decode cX3_sync 47 = .ok (.getfield 12, 3) := by decide +kernel
theorem dX3_sync_50 : decode cX3_sync 50 = .ok (.iload_n 3, 1) := by decide +kernel
theorem dX3_sync_51 : decode cX3_sync 51 = .ok (.invokevirtual 98, 3) := by decide +kernel
theorem dX3_sync_54 : decode cX3_sync 54 = .ok (.iinc 3 1, 3) := by decide +kernel
theorem dX3_sync_57 : decode cX3_sync 57 = .ok (.goto (-48), 3) := by decide +kernel
theorem dX3_sync_60 : decode cX3_sync 60 = .ok (.iload_n 2, 1) := by decide +kernel
theorem dX3_sync_61 : decode cX3_sync 61 = .ok (.ireturn, 1) := by decide +kernel
theorem dX3_cards_0 : decode cX3_cards 0 = .ok (.aload_n 0, 1) := by decide +kernel
theorem dX3_cards_1 : decode cX3_cards 1 = .ok (.getfield 12, 3) := by decide +kernel
theorem dX3_cards_4 : decode cX3_cards 4 = .ok (.getfield 46, 3) := by decide +kernel
theorem dX3_cards_7 : decode cX3_cards 7 = .ok (.ireturn, 1) := by decide +kernel
set_option maxRecDepth 20000 in
theorem ggX3_values_X3_checkCard : GoodIn wsX3_values wsX3_checkCard := goodIn_ca (goodIn_r _ [6, 7, 8, 1, 29, 30, 31, 32, 33, 34, 35, 36, 37] (by decide +kernel) (by decide +kernel)) (goodIn_sub (fun _ h => List.mem_cons_of_mem _ (List.mem_append_left _ (List.mem_append_right _ h))) (by decide +kernel))
set_option maxRecDepth 20000 in
theorem gX3_values_X3_checkCard : GoodIn wsX3_values (wsV RX3 61 RX3 yX3_checkCard wsX3_checkCard) := goodIn_app (goodIn_of _ (by decide +kernel)) ggX3_values_X3_checkCard
set_option maxRecDepth 20000 in
theorem ggX3_values_X3_isVersion : GoodIn wsX3_values wsX3_isVersion := goodIn_r _ [11, 12, 13, 5, 14] (by decide +kernel) (by decide +kernel)
set_option maxRecDepth 20000 in
theorem gX3_values_X3_isVersion : GoodIn wsX3_values (va_wsS RX3 101 yX3_isVersion wsX3_isVersion) := goodIn_app (goodIn_of _ (by decide +kernel)) ggX3_values_X3_isVersion
set_option maxRecDepth 20000 in
theorem ggX3_values_X3_isKind : GoodIn wsX3_values wsX3_isKind := goodIn_r _ [17] (by decide +kernel) (by decide +kernel)
set_option maxRecDepth 20000 in
theorem gX3_values_X3_isKind : GoodIn wsX3_values (va_wsS RX3 67 yX3_isKind wsX3_isKind) := goodIn_app (goodIn_of _ (by decide +kernel)) ggX3_values_X3_isKind
set_option maxRecDepth 20000 in
theorem ggX3_values_X3_checkArgument : GoodIn wsX3_values wsX3_checkArgument := goodIn_ca (goodIn_r _ [20, 21, 22] (by decide +kernel) (by decide +kernel)) (goodIn_sub (fun _ h => List.mem_cons_of_mem _ (List.mem_append_right _ h)) (by decide +kernel))
set_option maxRecDepth 20000 in
theorem gX3_values_X3_checkArgument : GoodIn wsX3_values (va_wsS RX3 42 yX3_checkArgument wsX3_checkArgument) := goodIn_app (goodIn_of _ (by decide +kernel)) ggX3_values_X3_checkArgument
set_option maxRecDepth 20000 in
theorem ggX3_values_X0_setOf : GoodIn wsX3_values wsX0_setOf := goodIn_r _ [27, 28, 33, 34, 35, 36, 37] (by decide +kernel) (by decide +kernel)
set_option maxRecDepth 20000 in
theorem gX3_values_X0_setOf : GoodIn wsX3_values (wsV RX3 73 RX0 yX0_setOf wsX0_setOf) := goodIn_app (goodIn_of _ (by decide +kernel)) ggX3_values_X0_setOf
theorem dX3_values_0 : decode cX3_values 0 = .ok (.aload_n 0, 1) := by decide +kernel
theorem dX3_values_1 : decode cX3_values 1 = .ok (.iload_n 1, 1) := by decide +kernel
theorem dX3_values_2 : decode cX3_values 2 = .ok (.invokevirtual 61, 3) := by decide +kernel
theorem dX3_values_5 : decode cX3_values 5 = .ok (.iload_n 2, 1) := by decide +kernel
theorem dX3_values_6 : decode cX3_values 6 = .ok (.invokestatic 101, 3) := by decide +kernel
theorem dX3_values_9 : decode cX3_values 9 = .ok (.ifCond .eq 14, 3) := by decide +kernel
theorem dX3_values_12 : decode cX3_values 12 = .ok (.iload_n 3, 1) := by decide +kernel
theorem dX3_values_13 : decode cX3_values 13 = .ok (.invokestatic 67, 3) := by decide +kernel
theorem dX3_values_16 : decode cX3_values 16 = .ok (.ifCond .eq 7, 3) := by decide +kernel
theorem dX3_values_19 : decode cX3_values 19 = .ok (.iconst 1, 1) := by decide +kernel
theorem dX3_values_20 : decode cX3_values 20 = .ok (.goto 4, 3) := by decide +kernel
theorem dX3_values_23 : decode cX3_values 23 = .ok (.iconst 0, 1) := by decide +kernel
theorem dX3_values_24 : decode cX3_values 24 = .ok (.invokestatic 42, 3) := by decide +kernel
theorem dX3_values_27 : decode cX3_values 27 = .ok (.aload_n 0, 1) := by decide +kernel
theorem dX3_values_28 : decode cX3_values 28 = .ok (.getfield 12, 3) := by decide +kernel
theorem dX3_values_31 : decode cX3_values 31 = .ok (.iload_n 1, 1) := by decide +kernel
theorem dX3_values_32 : decode cX3_values 32 = .ok (.iload_n 2, 1) := by decide +kernel
theorem dX3_values_33 : decode cX3_values 33 = .ok (.iload_n 3, 1) := by decide +kernel
theorem dX3_values_34 : decode cX3_values 34 = .ok (.invokevirtual 73, 3) := by decide +kernel
theorem dX3_values_37 : decode cX3_values 37 = .ok (.ireturn, 1) := by decide +kernel
set_option maxRecDepth 20000 in
theorem ggX3_nameOf_X3_checkCard : GoodIn wsX3_nameOf wsX3_checkCard := goodIn_ca (goodIn_r _ [6, 7, 8, 1, 26, 27, 28, 29, 30, 31, 32, 33, 34] (by decide +kernel) (by decide +kernel)) (goodIn_sub (fun _ h => List.mem_cons_of_mem _ (List.mem_append_left _ (List.mem_append_right _ h))) (by decide +kernel))
set_option maxRecDepth 20000 in
theorem gX3_nameOf_X3_checkCard : GoodIn wsX3_nameOf (wsV RX3 61 RX3 yX3_checkCard wsX3_checkCard) := goodIn_app (goodIn_of _ (by decide +kernel)) ggX3_nameOf_X3_checkCard
set_option maxRecDepth 20000 in
theorem ggX3_nameOf_X3_isVersion : GoodIn wsX3_nameOf wsX3_isVersion := goodIn_r _ [11, 12, 13, 5, 14] (by decide +kernel) (by decide +kernel)
set_option maxRecDepth 20000 in
theorem gX3_nameOf_X3_isVersion : GoodIn wsX3_nameOf (va_wsS RX3 101 yX3_isVersion wsX3_isVersion) := goodIn_app (goodIn_of _ (by decide +kernel)) ggX3_nameOf_X3_isVersion
set_option maxRecDepth 20000 in
theorem ggX3_nameOf_X3_checkArgument : GoodIn wsX3_nameOf wsX3_checkArgument := goodIn_ca (goodIn_r _ [17, 18, 19] (by decide +kernel) (by decide +kernel)) (goodIn_sub (fun _ h => List.mem_cons_of_mem _ (List.mem_append_right _ h)) (by decide +kernel))
set_option maxRecDepth 20000 in
theorem gX3_nameOf_X3_checkArgument : GoodIn wsX3_nameOf (va_wsS RX3 42 yX3_checkArgument wsX3_checkArgument) := goodIn_app (goodIn_of _ (by decide +kernel)) ggX3_nameOf_X3_checkArgument
set_option maxRecDepth 20000 in
theorem ggX3_nameOf_X0_nameIn : GoodIn wsX3_nameOf wsX0_nameIn := goodIn_r _ [24, 25, 30, 31, 32, 33, 34] (by decide +kernel) (by decide +kernel)
set_option maxRecDepth 20000 in
theorem gX3_nameOf_X0_nameIn : GoodIn wsX3_nameOf (wsV RX3 85 RX0 yX0_nameIn wsX0_nameIn) := goodIn_app (goodIn_of _ (by decide +kernel)) ggX3_nameOf_X0_nameIn
theorem dX3_nameOf_0 : decode cX3_nameOf 0 = .ok (.aload_n 0, 1) := by decide +kernel
theorem dX3_nameOf_1 : decode cX3_nameOf 1 = .ok (.iload_n 1, 1) := by decide +kernel
theorem dX3_nameOf_2 : decode cX3_nameOf 2 = .ok (.invokevirtual 61, 3) := by decide +kernel
theorem dX3_nameOf_5 : decode cX3_nameOf 5 = .ok (.iload_n 2, 1) := by decide +kernel
theorem dX3_nameOf_6 : decode cX3_nameOf 6 = .ok (.invokestatic 101, 3) := by decide +kernel
theorem dX3_nameOf_9 : decode cX3_nameOf 9 = .ok (.invokestatic 42, 3) := by decide +kernel
theorem dX3_nameOf_12 : decode cX3_nameOf 12 = .ok (.aload_n 0, 1) := by decide +kernel
theorem dX3_nameOf_13 : decode cX3_nameOf 13 = .ok (.getfield 12, 3) := by decide +kernel
theorem dX3_nameOf_16 : decode cX3_nameOf 16 = .ok (.iload_n 1, 1) := by decide +kernel
theorem dX3_nameOf_17 : decode cX3_nameOf 17 = .ok (.iload_n 2, 1) := by decide +kernel
theorem dX3_nameOf_18 : decode cX3_nameOf 18 = .ok (.invokevirtual 85, 3) := by decide +kernel
theorem dX3_nameOf_21 : decode cX3_nameOf 21 = .ok (.ireturn, 1) := by decide +kernel
set_option maxRecDepth 20000 in
theorem ggX3_merged_X3_checkCard : GoodIn wsX3_merged wsX3_checkCard := goodIn_ca (goodIn_r _ [6, 7, 8, 1, 27, 28, 29, 30, 31, 32, 33, 34, 35] (by decide +kernel) (by decide +kernel)) (goodIn_sub (fun _ h => List.mem_cons_of_mem _ (List.mem_append_left _ (List.mem_append_right _ h))) (by decide +kernel))
set_option maxRecDepth 20000 in
theorem gX3_merged_X3_checkCard : GoodIn wsX3_merged (wsV RX3 61 RX3 yX3_checkCard wsX3_checkCard) := goodIn_app (goodIn_of _ (by decide +kernel)) ggX3_merged_X3_checkCard
set_option maxRecDepth 20000 in
theorem ggX3_merged_X3_isKind : GoodIn wsX3_merged wsX3_isKind := goodIn_r _ [11] (by decide +kernel) (by decide +kernel)
set_option maxRecDepth 20000 in
theorem gX3_merged_X3_isKind : GoodIn wsX3_merged (va_wsS RX3 67 yX3_isKind wsX3_isKind) := goodIn_app (goodIn_of _ (by decide +kernel)) ggX3_merged_X3_isKind
set_option maxRecDepth 20000 in
theorem ggX3_merged_X3_checkArgument : GoodIn wsX3_merged wsX3_checkArgument := goodIn_ca (goodIn_r _ [14, 15, 16] (by decide +kernel) (by decide +kernel)) (goodIn_sub (fun _ h => List.mem_cons_of_mem _ (List.mem_append_right _ h)) (by decide +kernel))
set_option maxRecDepth 20000 in
theorem gX3_merged_X3_checkArgument : GoodIn wsX3_merged (va_wsS RX3 42 yX3_checkArgument wsX3_checkArgument) := goodIn_app (goodIn_of _ (by decide +kernel)) ggX3_merged_X3_checkArgument
set_option maxRecDepth 20000 in
theorem ggX3_merged_X0_mergedSet : GoodIn wsX3_merged wsX0_mergedSet := goodIn_r _ [21, 22, 23, 24, 20, 25, 26, 31, 32, 33, 34, 35] (by decide +kernel) (by decide +kernel)
set_option maxRecDepth 20000 in
theorem gX3_merged_X0_mergedSet : GoodIn wsX3_merged (wsV RX3 104 RX0 yX0_mergedSet wsX0_mergedSet) := goodIn_app (goodIn_of _ (by decide +kernel)) ggX3_merged_X0_mergedSet
theorem dX3_merged_0 : decode cX3_merged 0 = .ok (.aload_n 0, 1) := by decide +kernel
theorem dX3_merged_1 : decode cX3_merged 1 = .ok (.iload_n 1, 1) := by decide +kernel
theorem dX3_merged_2 : decode cX3_merged 2 = .ok (.invokevirtual 61, 3) := by decide +kernel
theorem dX3_merged_5 : decode cX3_merged 5 = .ok (.iload_n 2, 1) := by decide +kernel
theorem dX3_merged_6 : decode cX3_merged 6 = .ok (.invokestatic 67, 3) := by decide +kernel
theorem dX3_merged_9 : decode cX3_merged 9 = .ok (.invokestatic 42, 3) := by decide +kernel
theorem dX3_merged_12 : decode cX3_merged 12 = .ok (.aload_n 0, 1) := by decide +kernel
theorem dX3_merged_13 : decode cX3_merged 13 = .ok (.getfield 12, 3) := by decide +kernel
theorem dX3_merged_16 : decode cX3_merged 16 = .ok (.iload_n 1, 1) := by decide +kernel
theorem dX3_merged_17 : decode cX3_merged 17 = .ok (.iload_n 2, 1) := by decide +kernel
theorem dX3_merged_18 : decode cX3_merged 18 = .ok (.invokevirtual 104, 3) := by decide +kernel
theorem dX3_merged_21 : decode cX3_merged 21 = .ok (.ireturn, 1) := by decide +kernel
set_option maxRecDepth 20000 in
theorem ggX3_mergedByValues_X3_checkCard : GoodIn wsX3_mergedByValues wsX3_checkCard := goodIn_ca (goodIn_r _ [6, 7, 8, 1, 29, 30, 31, 32, 33, 34, 35, 36, 37] (by decide +kernel) (by decide +kernel)) (goodIn_sub (fun _ h => List.mem_cons_of_mem _ (List.mem_append_left _ (List.mem_append_right _ h))) (by decide +kernel))
set_option maxRecDepth 20000 in
theorem gX3_mergedByValues_X3_checkCard : GoodIn wsX3_mergedByValues (wsV RX3 61 RX3 yX3_checkCard wsX3_checkCard) := goodIn_app (goodIn_of _ (by decide +kernel)) ggX3_mergedByValues_X3_checkCard
set_option maxRecDepth 20000 in
theorem ggX3_mergedByValues_X3_isKind : GoodIn wsX3_mergedByValues wsX3_isKind := goodIn_r _ [11] (by decide +kernel) (by decide +kernel)
set_option maxRecDepth 20000 in
theorem gX3_mergedByValues_X3_isKind : GoodIn wsX3_mergedByValues (va_wsS RX3 67 yX3_isKind wsX3_isKind) := goodIn_app (goodIn_of _ (by decide +kernel)) ggX3_mergedByValues_X3_isKind
set_option maxRecDepth 20000 in
theorem ggX3_mergedByValues_X3_checkArgument : GoodIn wsX3_mergedByValues wsX3_checkArgument := goodIn_ca (goodIn_r _ [14, 15, 16] (by decide +kernel) (by decide +kernel)) (goodIn_sub (fun _ h => List.mem_cons_of_mem _ (List.mem_append_right _ h)) (by decide +kernel))
set_option maxRecDepth 20000 in
theorem gX3_mergedByValues_X3_checkArgument : GoodIn wsX3_mergedByValues (va_wsS RX3 42 yX3_checkArgument wsX3_checkArgument) := goodIn_app (goodIn_of _ (by decide +kernel)) ggX3_mergedByValues_X3_checkArgument
set_option maxRecDepth 20000 in
theorem ggX3_mergedByValues_X0_mergedSetByValues : GoodIn wsX3_mergedByValues wsX0_mergedSetByValues := goodIn_r _ [21, 22, 23, 24, 20, 25, 26, 27, 5, 28, 33, 34, 35, 36, 37] (by decide +kernel) (by decide +kernel)
set_option maxRecDepth 20000 in
theorem gX3_mergedByValues_X0_mergedSetByValues : GoodIn wsX3_mergedByValues (wsV RX3 107 RX0 yX0_mergedSetByValues wsX0_mergedSetByValues) := goodIn_app (goodIn_of _ (by decide +kernel)) ggX3_mergedByValues_X0_mergedSetByValues
theorem dX3_mergedByValues_0 : decode cX3_mergedByValues 0 = .ok (.aload_n 0, 1) := by decide +kernel
theorem dX3_mergedByValues_1 : decode cX3_mergedByValues 1 = .ok (.iload_n 1, 1) := by decide +kernel
theorem dX3_mergedByValues_2 : decode cX3_mergedByValues 2 = .ok (.invokevirtual 61, 3) := by decide +kernel
theorem dX3_mergedByValues_5 : decode cX3_mergedByValues 5 = .ok (.iload_n 2, 1) := by decide +kernel
theorem dX3_mergedByValues_6 : decode cX3_mergedByValues 6 = .ok (.invokestatic 67, 3) := by decide +kernel
theorem dX3_mergedByValues_9 : decode cX3_mergedByValues 9 = .ok (.invokestatic 42, 3) := by decide +kernel
theorem dX3_mergedByValues_12 : decode cX3_mergedByValues 12 = .ok (.aload_n 0, 1) := by decide +kernel
theorem dX3_mergedByValues_13 : decode cX3_mergedByValues 13 = .ok (.getfield 12, 3) := by decide +kernel
theorem dX3_mergedByValues_16 : decode cX3_mergedByValues 16 = .ok (.iload_n 1, 1) := by decide +kernel
theorem dX3_mergedByValues_17 : decode cX3_mergedByValues 17 = .ok (.iload_n 2, 1) := by decide +kernel
theorem dX3_mergedByValues_18 : decode cX3_mergedByValues 18 = .ok (.invokevirtual 107, 3) := by decide +kernel
theorem dX3_mergedByValues_21 : decode cX3_mergedByValues 21 = .ok (.ireturn, 1) := by decide +kernel
set_option maxRecDepth 20000 in
theorem ggX3_unsynced_X3_checkBook : GoodIn wsX3_unsynced wsX3_checkBook := goodIn_ca (goodIn_r _ [6, 7, 8] (by decide +kernel) (by decide +kernel)) (goodIn_sub (fun _ h => List.mem_cons_of_mem _ (List.mem_append_right _ h)) (by decide +kernel))
set_option maxRecDepth 20000 in
theorem gX3_unsynced_X3_checkBook : GoodIn wsX3_unsynced (wsV RX3 34 RX3 yX3_checkBook wsX3_checkBook) := goodIn_app (goodIn_of _ (by decide +kernel)) ggX3_unsynced_X3_checkBook
set_option maxRecDepth 20000 in
theorem ggX3_unsynced_X0_isIn : GoodIn wsX3_unsynced wsX0_isIn := goodIn_r _ [13, 14, 41, 42, 43, 44, 45] (by decide +kernel) (by decide +kernel)
set_option maxRecDepth 20000 in
theorem gX3_unsynced_X0_isIn : GoodIn wsX3_unsynced (wsV RX3 92 RX0 yX0_isIn wsX0_isIn) := goodIn_app (goodIn_of _ (by decide +kernel)) ggX3_unsynced_X0_isIn
set_option maxRecDepth 20000 in
theorem ggX3_unsynced_X0_isSynced : GoodIn wsX3_unsynced wsX0_isSynced := goodIn_r _ [18, 19, 20, 21, 12, 22, 23, 24, 25, 26, 27, 28, 29, 30, 31, 32, 33, 34, 35, 36, 41, 42, 43, 44, 45] (by decide +kernel) (by decide +kernel)
set_option maxRecDepth 20000 in
theorem gX3_unsynced_X0_isSynced : GoodIn wsX3_unsynced (wsV RX3 110 RX0 yX0_isSynced wsX0_isSynced) := goodIn_app (goodIn_of _ (by decide +kernel)) ggX3_unsynced_X0_isSynced
theorem dX3_unsynced_0 : decode cX3_unsynced 0 = .ok (.aload_n 0, 1) := by decide +kernel
theorem dX3_unsynced_1 : decode cX3_unsynced 1 = .ok (.iload_n 1, 1) := by decide +kernel
theorem dX3_unsynced_2 : decode cX3_unsynced 2 = .ok (.invokevirtual 34, 3) := by decide +kernel
theorem dX3_unsynced_5 : decode cX3_unsynced 5 = .ok (.iconst 0, 1) := by decide +kernel
theorem dX3_unsynced_6 : decode cX3_unsynced 6 = .ok (.istore_n 2, 1) := by decide +kernel
theorem dX3_unsynced_7 : decode cX3_unsynced 7 = .ok (.iconst 0, 1) := by decide +kernel
theorem dX3_unsynced_8 : decode cX3_unsynced 8 = .ok (.istore_n 3, 1) := by decide +kernel
theorem dX3_unsynced_9 : decode cX3_unsynced 9 = .ok (.iload_n 3, 1) := by decide +kernel
theorem dX3_unsynced_10 : decode cX3_unsynced 10 = .ok (.aload_n 0, 1) := by decide +kernel
theorem dX3_unsynced_11 : decode cX3_unsynced 11 = .ok (.getfield 12, 3) := by decide +kernel
theorem dX3_unsynced_14 : decode cX3_unsynced 14 = .ok (.getfield 46, 3) := by decide +kernel
theorem dX3_unsynced_17 : decode cX3_unsynced 17 = .ok (.if_icmp .ge 35, 3) := by decide +kernel
theorem dX3_unsynced_20 : decode cX3_unsynced 20 = .ok (.aload_n 0, 1) := by decide +kernel
theorem dX3_unsynced_21 : decode cX3_unsynced 21 = .ok (.getfield 12, 3) := by decide +kernel
theorem dX3_unsynced_24 : decode cX3_unsynced 24 = .ok (.iload_n 3, 1) := by decide +kernel
theorem dX3_unsynced_25 : decode cX3_unsynced 25 = .ok (.iload_n 1, 1) := by decide +kernel
theorem dX3_unsynced_26 : decode cX3_unsynced 26 = .ok (.invokevirtual 92, 3) := by decide +kernel
theorem dX3_unsynced_29 : decode cX3_unsynced 29 = .ok (.ifCond .eq 17, 3) := by decide +kernel
theorem dX3_unsynced_32 : decode cX3_unsynced 32 = .ok (.aload_n 0, 1) := by decide +kernel
theorem dX3_unsynced_33 : decode cX3_unsynced 33 = .ok (.getfield 12, 3) := by decide +kernel
theorem dX3_unsynced_36 : decode cX3_unsynced 36 = .ok (.iload_n 3, 1) := by decide +kernel
theorem dX3_unsynced_37 : decode cX3_unsynced 37 = .ok (.invokevirtual 110, 3) := by decide +kernel
theorem dX3_unsynced_40 : decode cX3_unsynced 40 = .ok (.ifCond .ne 6, 3) := by decide +kernel
theorem dX3_unsynced_43 : decode cX3_unsynced 43 = .ok (.iinc 2 1, 3) := by decide +kernel
theorem dX3_unsynced_46 : decode cX3_unsynced 46 = .ok (.iinc 3 1, 3) := by decide +kernel
theorem dX3_unsynced_49 : decode cX3_unsynced 49 = .ok (.goto (-40), 3) := by decide +kernel
theorem dX3_unsynced_52 : decode cX3_unsynced 52 = .ok (.iload_n 2, 1) := by decide +kernel
theorem dX3_unsynced_53 : decode cX3_unsynced 53 = .ok (.ireturn, 1) := by decide +kernel
set_option maxRecDepth 20000 in
theorem ggX3_link_X3_checkTwoCards : GoodIn wsX3_link wsX3_checkTwoCards := goodIn_ca (goodIn_ca (goodIn_r _ [8, 9, 10, 11, 7, 12, 13, 14, 15, 16, 17, 18, 19, 20, 49, 50, 51, 52, 53, 54, 55, 56, 57] (by decide +kernel) (by decide +kernel)) (goodIn_sub (fun _ h => List.mem_cons_of_mem _ (List.mem_append_left _ (List.mem_append_right _ h))) (by decide +kernel))) (goodIn_sub (fun _ h => List.mem_cons_of_mem _ (List.mem_append_right _ h)) (by decide +kernel))
set_option maxRecDepth 20000 in
theorem gX3_link_X3_checkTwoCards : GoodIn wsX3_link (wsV RX3 113 RX3 yX3_checkTwoCards wsX3_checkTwoCards) := goodIn_app (goodIn_of _ (by decide +kernel)) ggX3_link_X3_checkTwoCards
set_option maxRecDepth 20000 in
theorem ggX3_link_X1_areLinked : GoodIn wsX3_link wsX1_areLinked := goodIn_r _ [25, 26, 27, 7, 28, 58, 59] (by decide +kernel) (by decide +kernel)
set_option maxRecDepth 20000 in
theorem gX3_link_X1_areLinked : GoodIn wsX3_link (wsV RX3 117 RX1 yX1_areLinked wsX1_areLinked) := goodIn_app (goodIn_of _ (by decide +kernel)) ggX3_link_X1_areLinked
set_option maxRecDepth 20000 in
theorem ggX3_link_X1_connect : GoodIn wsX3_link wsX1_connect := goodIn_r _ [32, 26, 33, 34, 35, 36, 24, 37, 27, 7, 28, 58, 59] (by decide +kernel) (by decide +kernel)
set_option maxRecDepth 20000 in
theorem gX3_link_X1_connect : GoodIn wsX3_link (wsV RX3 122 RX1 yX1_connect wsX1_connect) := goodIn_app (goodIn_of _ (by decide +kernel)) ggX3_link_X1_connect
set_option maxRecDepth 20000 in
theorem ggX3_link_X1_groupOf : GoodIn wsX3_link wsX1_groupOf := goodIn_r _ [41, 33, 58, 59] (by decide +kernel) (by decide +kernel)
set_option maxRecDepth 20000 in
theorem gX3_link_X1_groupOf : GoodIn wsX3_link (wsV RX3 125 RX1 yX1_groupOf wsX1_groupOf) := goodIn_app (goodIn_of _ (by decide +kernel)) ggX3_link_X1_groupOf
set_option maxRecDepth 20000 in
theorem ggX3_link_J6_bitCount_0f7a4 : GoodIn wsX3_link wsJ6_bitCount_0f7a4 := goodIn_r _ [45, 46, 47, 48] (by decide +kernel) (by decide +kernel)
set_option maxRecDepth 20000 in
theorem gX3_link_J6_bitCount_0f7a4 : GoodIn wsX3_link (va_wsS RX3 129 yJ6_bitCount_0f7a4 wsJ6_bitCount_0f7a4) := goodIn_app (goodIn_of _ (by decide +kernel)) ggX3_link_J6_bitCount_0f7a4
theorem dX3_link_0 : decode cX3_link 0 = .ok (.aload_n 0, 1) := by decide +kernel
theorem dX3_link_1 : decode cX3_link 1 = .ok (.iload_n 1, 1) := by decide +kernel
theorem dX3_link_2 : decode cX3_link 2 = .ok (.iload_n 2, 1) := by decide +kernel
theorem dX3_link_3 : decode cX3_link 3 = .ok (.invokevirtual 113, 3) := by decide +kernel
theorem dX3_link_6 : decode cX3_link 6 = .ok (.aload_n 0, 1) := by decide +kernel
theorem dX3_link_7 : decode cX3_link 7 = .ok (.getfield 19, 3) := by decide +kernel
theorem dX3_link_10 : decode cX3_link 10 = .ok (.iload_n 1, 1) := by decide +kernel
theorem dX3_link_11 : decode cX3_link 11 = .ok (.iload_n 2, 1) := by decide +kernel
theorem dX3_link_12 : decode cX3_link 12 = .ok (.invokevirtual 117, 3) := by decide +kernel
theorem dX3_link_15 : decode cX3_link 15 = .ok (.ifCond .eq 13, 3) := by decide +kernel
theorem dX3_link_18 : decode cX3_link 18 = .ok (.new 50, 3) := by decide +kernel
theorem dX3_link_21 : decode cX3_link 21 = .ok (.dup, 1) := by decide +kernel
theorem dX3_link_22 : decode cX3_link 22 = .ok (.ldc 120, 2) := by decide +kernel
theorem dX3_link_24 : decode cX3_link 24 = .ok (.invokespecial 54, 3) := by decide +kernel
theorem dX3_link_27 : decode cX3_link 27 = .ok (.athrow, 1) := by decide +kernel
theorem dX3_link_28 : decode cX3_link 28 = .ok (.aload_n 0, 1) := by decide +kernel
theorem dX3_link_29 : decode cX3_link 29 = .ok (.getfield 19, 3) := by decide +kernel
theorem dX3_link_32 : decode cX3_link 32 = .ok (.iload_n 1, 1) := by decide +kernel
theorem dX3_link_33 : decode cX3_link 33 = .ok (.iload_n 2, 1) := by decide +kernel
theorem dX3_link_34 : decode cX3_link 34 = .ok (.invokevirtual 122, 3) := by decide +kernel
theorem dX3_link_37 : decode cX3_link 37 = .ok (.aload_n 0, 1) := by decide +kernel
theorem dX3_link_38 : decode cX3_link 38 = .ok (.getfield 19, 3) := by decide +kernel
theorem dX3_link_41 : decode cX3_link 41 = .ok (.iload_n 1, 1) := by decide +kernel
theorem dX3_link_42 : decode cX3_link 42 = .ok (.invokevirtual 125, 3) := by decide +kernel
theorem dX3_link_45 : decode cX3_link 45 = .ok (.invokestatic 129, 3) := by decide +kernel
theorem dX3_link_48 : decode cX3_link 48 = .ok (.ireturn, 1) := by decide +kernel
set_option maxRecDepth 20000 in
theorem ggX3_cut_X3_checkCard : GoodIn wsX3_cut wsX3_checkCard := goodIn_ca (goodIn_r _ [8, 9, 10, 11, 41, 42, 43, 44, 45, 46, 47, 48, 49] (by decide +kernel) (by decide +kernel)) (goodIn_sub (fun _ h => List.mem_cons_of_mem _ (List.mem_append_right _ h)) (by decide +kernel))
set_option maxRecDepth 20000 in
theorem gX3_cut_X3_checkCard : GoodIn wsX3_cut (wsV RX3 61 RX3 yX3_checkCard wsX3_checkCard) := goodIn_app (goodIn_of _ (by decide +kernel)) ggX3_cut_X3_checkCard
set_option maxRecDepth 20000 in
theorem ggX3_cut_X1_areLinked : GoodIn wsX3_cut wsX1_areLinked := goodIn_r _ [16, 17, 18, 7, 19, 50, 51] (by decide +kernel) (by decide +kernel)
set_option maxRecDepth 20000 in
theorem gX3_cut_X1_areLinked : GoodIn wsX3_cut (wsV RX3 117 RX1 yX1_areLinked wsX1_areLinked) := goodIn_app (goodIn_of _ (by decide +kernel)) ggX3_cut_X1_areLinked
set_option maxRecDepth 20000 in
theorem ggX3_cut_X1_disconnect : GoodIn wsX3_cut wsX1_disconnect := goodIn_r _ [23, 17, 24, 25, 26, 15, 27, 28, 29, 30, 31, 18, 7, 19, 32, 33, 34, 35, 36, 50, 51] (by decide +kernel) (by decide +kernel)
set_option maxRecDepth 20000 in
theorem gX3_cut_X1_disconnect : GoodIn wsX3_cut (wsV RX3 136 RX1 yX1_disconnect wsX1_disconnect) := goodIn_app (goodIn_of _ (by decide +kernel)) ggX3_cut_X1_disconnect
set_option maxRecDepth 20000 in
theorem ggX3_cut_X1_areTogether : GoodIn wsX3_cut wsX1_areTogether := goodIn_r _ [40, 36, 18, 7, 19, 50, 51] (by decide +kernel) (by decide +kernel)
set_option maxRecDepth 20000 in
theorem gX3_cut_X1_areTogether : GoodIn wsX3_cut (wsV RX3 139 RX1 yX1_areTogether wsX1_areTogether) := goodIn_app (goodIn_of _ (by decide +kernel)) ggX3_cut_X1_areTogether
theorem dX3_cut_0 : decode cX3_cut 0 = .ok (.aload_n 0, 1) := by decide +kernel
theorem dX3_cut_1 : decode cX3_cut 1 = .ok (.iload_n 1, 1) := by decide +kernel
theorem dX3_cut_2 : decode cX3_cut 2 = .ok (.invokevirtual 61, 3) := by decide +kernel
theorem dX3_cut_5 : decode cX3_cut 5 = .ok (.aload_n 0, 1) := by decide +kernel
theorem dX3_cut_6 : decode cX3_cut 6 = .ok (.iload_n 2, 1) := by decide +kernel
theorem dX3_cut_7 : decode cX3_cut 7 = .ok (.invokevirtual 61, 3) := by decide +kernel
theorem dX3_cut_10 : decode cX3_cut 10 = .ok (.aload_n 0, 1) := by decide +kernel
theorem dX3_cut_11 : decode cX3_cut 11 = .ok (.getfield 19, 3) := by decide +kernel
theorem dX3_cut_14 : decode cX3_cut 14 = .ok (.iload_n 1, 1) := by decide +kernel
theorem dX3_cut_15 : decode cX3_cut 15 = .ok (.iload_n 2, 1) := by decide +kernel
theorem dX3_cut_16 : decode cX3_cut 16 = .ok (.invokevirtual 117, 3) := by decide +kernel
theorem dX3_cut_19 : decode cX3_cut 19 = .ok (.ifCond .ne 13, 3) := by decide +kernel
theorem dX3_cut_22 : decode cX3_cut 22 = .ok (.new 50, 3) := by decide +kernel
theorem dX3_cut_25 : decode cX3_cut 25 = .ok (.dup, 1) := by decide +kernel
theorem dX3_cut_26 : decode cX3_cut 26 = .ok (.ldc 134, 2) := by decide +kernel
theorem dX3_cut_28 : decode cX3_cut 28 = .ok (.invokespecial 54, 3) := by decide +kernel
theorem dX3_cut_31 : decode cX3_cut 31 = .ok (.athrow, 1) := by decide +kernel
theorem dX3_cut_32 : decode cX3_cut 32 = .ok (.aload_n 0, 1) := by decide +kernel
theorem dX3_cut_33 : decode cX3_cut 33 = .ok (.getfield 19, 3) := by decide +kernel
theorem dX3_cut_36 : decode cX3_cut 36 = .ok (.iload_n 1, 1) := by decide +kernel
theorem dX3_cut_37 : decode cX3_cut 37 = .ok (.iload_n 2, 1) := by decide +kernel
theorem dX3_cut_38 : decode cX3_cut 38 = .ok (.invokevirtual 136, 3) := by decide +kernel
theorem dX3_cut_41 : decode cX3_cut 41 = .ok (.aload_n 0, 1) := by decide +kernel
theorem dX3_cut_42 : decode cX3_cut 42 = .ok (.getfield 19, 3) := by decide +kernel
theorem dX3_cut_45 : decode cX3_cut 45 = .ok (.iload_n 1, 1) := by decide +kernel
theorem dX3_cut_46 : decode cX3_cut 46 = .ok (.iload_n 2, 1) := by decide +kernel
theorem dX3_cut_47 : decode cX3_cut 47 = .ok (.invokevirtual 139, 3) := by decide +kernel
theorem dX3_cut_50 : decode cX3_cut 50 = .ok (.ireturn, 1) := by decide +kernel
set_option maxRecDepth 20000 in
theorem ggX3_group_X3_checkCard : GoodIn wsX3_group wsX3_checkCard := goodIn_ca (goodIn_r _ [6, 7, 8, 9, 16, 17, 18, 19, 20, 21, 22, 23, 24] (by decide +kernel) (by decide +kernel)) (goodIn_sub (fun _ h => List.mem_cons_of_mem _ (List.mem_append_right _ h)) (by decide +kernel))
set_option maxRecDepth 20000 in
theorem gX3_group_X3_checkCard : GoodIn wsX3_group (wsV RX3 61 RX3 yX3_checkCard wsX3_checkCard) := goodIn_app (goodIn_of _ (by decide +kernel)) ggX3_group_X3_checkCard
set_option maxRecDepth 20000 in
theorem ggX3_group_X1_groupOf : GoodIn wsX3_group wsX1_groupOf := goodIn_r _ [14, 15, 25, 26] (by decide +kernel) (by decide +kernel)
set_option maxRecDepth 20000 in
theorem gX3_group_X1_groupOf : GoodIn wsX3_group (wsV RX3 125 RX1 yX1_groupOf wsX1_groupOf) := goodIn_app (goodIn_of _ (by decide +kernel)) ggX3_group_X1_groupOf
theorem dX3_group_0 : decode cX3_group 0 = .ok (.aload_n 0, 1) := by decide +kernel
theorem dX3_group_1 : decode cX3_group 1 = .ok (.iload_n 1, 1) := by decide +kernel
theorem dX3_group_2 : decode cX3_group 2 = .ok (.invokevirtual 61, 3) := by decide +kernel
theorem dX3_group_5 : decode cX3_group 5 = .ok (.aload_n 0, 1) := by decide +kernel
theorem dX3_group_6 : decode cX3_group 6 = .ok (.getfield 19, 3) := by decide +kernel
theorem dX3_group_9 : decode cX3_group 9 = .ok (.iload_n 1, 1) := by decide +kernel
theorem dX3_group_10 : decode cX3_group 10 = .ok (.invokevirtual 125, 3) := by decide +kernel
theorem dX3_group_13 : decode cX3_group 13 = .ok (.ireturn, 1) := by decide +kernel
set_option maxRecDepth 20000 in
theorem ggX3_groups_X1_isLowestOfGroup : GoodIn wsX3_groups wsX1_isLowestOfGroup := goodIn_r _ [7, 8, 18, 19] (by decide +kernel) (by decide +kernel)
set_option maxRecDepth 20000 in
theorem gX3_groups_X1_isLowestOfGroup : GoodIn wsX3_groups (wsV RX3 142 RX1 yX1_isLowestOfGroup wsX1_isLowestOfGroup) := goodIn_app (goodIn_of _ (by decide +kernel)) ggX3_groups_X1_isLowestOfGroup
theorem dX3_groups_0 : decode cX3_groups 0 = .ok (.iconst 0, 1) := by decide +kernel
theorem dX3_groups_1 : decode cX3_groups 1 = .ok (.istore_n 1, 1) := by decide +kernel
theorem dX3_groups_2 : decode cX3_groups 2 = .ok (.iconst 0, 1) := by decide +kernel
theorem dX3_groups_3 : decode cX3_groups 3 = .ok (.istore_n 2, 1) := by decide +kernel
theorem dX3_groups_4 : decode cX3_groups 4 = .ok (.iload_n 2, 1) := by decide +kernel
theorem dX3_groups_5 : decode cX3_groups 5 = .ok (.aload_n 0, 1) := by decide +kernel
theorem dX3_groups_6 : decode cX3_groups 6 = .ok (.getfield 12, 3) := by decide +kernel
theorem dX3_groups_9 : decode cX3_groups 9 = .ok (.getfield 46, 3) := by decide +kernel
theorem dX3_groups_12 : decode cX3_groups 12 = .ok (.if_icmp .ge 23, 3) := by decide +kernel
theorem dX3_groups_15 : decode cX3_groups 15 = .ok (.aload_n 0, 1) := by decide +kernel
theorem dX3_groups_16 : decode cX3_groups 16 = .ok (.getfield 19, 3) := by decide +kernel
theorem dX3_groups_19 : decode cX3_groups 19 = .ok (.iload_n 2, 1) := by decide +kernel
theorem dX3_groups_20 : decode cX3_groups 20 = .ok (.invokevirtual 142, 3) := by decide +kernel
theorem dX3_groups_23 : decode cX3_groups 23 = .ok (.ifCond .eq 6, 3) := by decide +kernel
theorem dX3_groups_26 : decode cX3_groups 26 = .ok (.iinc 1 1, 3) := by decide +kernel
theorem dX3_groups_29 : decode cX3_groups 29 = .ok (.iinc 2 1, 3) := by decide +kernel
theorem dX3_groups_32 : decode cX3_groups 32 = .ok (.goto (-28), 3) := by decide +kernel
theorem dX3_groups_35 : decode cX3_groups 35 = .ok (.iload_n 1, 1) := by decide +kernel
theorem dX3_groups_36 : decode cX3_groups 36 = .ok (.ireturn, 1) := by decide +kernel
set_option maxRecDepth 20000 in
theorem ggX3_preferred_X3_checkCard : GoodIn wsX3_preferred wsX3_checkCard := goodIn_ca (goodIn_r _ [7, 8, 9, 1, 29, 30, 31, 32, 33, 34, 35, 36, 37] (by decide +kernel) (by decide +kernel)) (goodIn_sub (fun _ h => List.mem_cons_of_mem _ (List.mem_append_right _ h)) (by decide +kernel))
set_option maxRecDepth 20000 in
theorem gX3_preferred_X3_checkCard : GoodIn wsX3_preferred (wsV RX3 61 RX3 yX3_checkCard wsX3_checkCard) := goodIn_app (goodIn_of _ (by decide +kernel)) ggX3_preferred_X3_checkCard
set_option maxRecDepth 20000 in
theorem ggX3_preferred_X1_groupOf : GoodIn wsX3_preferred wsX1_groupOf := goodIn_r _ [14, 15, 38, 39] (by decide +kernel) (by decide +kernel)
set_option maxRecDepth 20000 in
theorem gX3_preferred_X1_groupOf : GoodIn wsX3_preferred (wsV RX3 125 RX1 yX1_groupOf wsX1_groupOf) := goodIn_app (goodIn_of _ (by decide +kernel)) ggX3_preferred_X1_groupOf
set_option maxRecDepth 20000 in
theorem ggX3_preferred_X0_preferredOf : GoodIn wsX3_preferred wsX0_preferredOf := goodIn_r _ [20, 21, 22, 6, 23, 24, 25, 26, 19, 27, 28, 33, 34, 35, 36, 37] (by decide +kernel) (by decide +kernel)
set_option maxRecDepth 20000 in
theorem gX3_preferred_X0_preferredOf : GoodIn wsX3_preferred (wsV RX3 145 RX0 yX0_preferredOf wsX0_preferredOf) := goodIn_app (goodIn_of _ (by decide +kernel)) ggX3_preferred_X0_preferredOf
theorem dX3_preferred_0 : decode cX3_preferred 0 = .ok (.aload_n 0, 1) := by decide +kernel
theorem dX3_preferred_1 : decode cX3_preferred 1 = .ok (.iload_n 1, 1) := by decide +kernel
theorem dX3_preferred_2 : decode cX3_preferred 2 = .ok (.invokevirtual 61, 3) := by decide +kernel
theorem dX3_preferred_5 : decode cX3_preferred 5 = .ok (.aload_n 0, 1) := by decide +kernel
theorem dX3_preferred_6 : decode cX3_preferred 6 = .ok (.getfield 12, 3) := by decide +kernel
theorem dX3_preferred_9 : decode cX3_preferred 9 = .ok (.iload_n 1, 1) := by decide +kernel
theorem dX3_preferred_10 : decode cX3_preferred 10 = .ok (.aload_n 0, 1) := by decide +kernel
theorem dX3_preferred_11 : decode cX3_preferred 11 = .ok (.getfield 19, 3) := by decide +kernel
theorem dX3_preferred_14 : decode cX3_preferred 14 = .ok (.iload_n 1, 1) := by decide +kernel
theorem dX3_preferred_15 : decode cX3_preferred 15 = .ok (.invokevirtual 125, 3) := by decide +kernel
theorem dX3_preferred_18 : decode cX3_preferred 18 = .ok (.invokevirtual 145, 3) := by decide +kernel
theorem dX3_preferred_21 : decode cX3_preferred 21 = .ok (.ireturn, 1) := by decide +kernel
set_option maxRecDepth 20000 in
theorem ggX3_shown_X3_checkCard : GoodIn wsX3_shown wsX3_checkCard := goodIn_ca (goodIn_r _ [7, 8, 9, 1, 37, 38, 39, 40, 41, 42, 43, 44, 45] (by decide +kernel) (by decide +kernel)) (goodIn_sub (fun _ h => List.mem_cons_of_mem _ (List.mem_append_left _ (List.mem_append_right _ h))) (by decide +kernel))
set_option maxRecDepth 20000 in
theorem gX3_shown_X3_checkCard : GoodIn wsX3_shown (wsV RX3 61 RX3 yX3_checkCard wsX3_checkCard) := goodIn_app (goodIn_of _ (by decide +kernel)) ggX3_shown_X3_checkCard
set_option maxRecDepth 20000 in
theorem ggX3_shown_X3_isKind : GoodIn wsX3_shown wsX3_isKind := goodIn_r _ [12] (by decide +kernel) (by decide +kernel)
set_option maxRecDepth 20000 in
theorem gX3_shown_X3_isKind : GoodIn wsX3_shown (va_wsS RX3 67 yX3_isKind wsX3_isKind) := goodIn_app (goodIn_of _ (by decide +kernel)) ggX3_shown_X3_isKind
set_option maxRecDepth 20000 in
theorem ggX3_shown_X3_checkArgument : GoodIn wsX3_shown wsX3_checkArgument := goodIn_ca (goodIn_r _ [15, 16, 17] (by decide +kernel) (by decide +kernel)) (goodIn_sub (fun _ h => List.mem_cons_of_mem _ (List.mem_append_right _ h)) (by decide +kernel))
set_option maxRecDepth 20000 in
theorem gX3_shown_X3_checkArgument : GoodIn wsX3_shown (va_wsS RX3 42 yX3_checkArgument wsX3_checkArgument) := goodIn_app (goodIn_of _ (by decide +kernel)) ggX3_shown_X3_checkArgument
set_option maxRecDepth 20000 in
theorem ggX3_shown_X1_groupOf : GoodIn wsX3_shown wsX1_groupOf := goodIn_r _ [22, 23, 46, 47] (by decide +kernel) (by decide +kernel)
set_option maxRecDepth 20000 in
theorem gX3_shown_X1_groupOf : GoodIn wsX3_shown (wsV RX3 125 RX1 yX1_groupOf wsX1_groupOf) := goodIn_app (goodIn_of _ (by decide +kernel)) ggX3_shown_X1_groupOf
set_option maxRecDepth 20000 in
theorem ggX3_shown_X0_mineOfAll : GoodIn wsX3_shown wsX0_mineOfAll := goodIn_r _ [28, 29, 30, 6, 31, 32, 33, 34, 27, 35, 36, 41, 42, 43, 44, 45] (by decide +kernel) (by decide +kernel)
set_option maxRecDepth 20000 in
theorem gX3_shown_X0_mineOfAll : GoodIn wsX3_shown (wsV RX3 148 RX0 yX0_mineOfAll wsX0_mineOfAll) := goodIn_app (goodIn_of _ (by decide +kernel)) ggX3_shown_X0_mineOfAll
theorem dX3_shown_0 : decode cX3_shown 0 = .ok (.aload_n 0, 1) := by decide +kernel
theorem dX3_shown_1 : decode cX3_shown 1 = .ok (.iload_n 1, 1) := by decide +kernel
theorem dX3_shown_2 : decode cX3_shown 2 = .ok (.invokevirtual 61, 3) := by decide +kernel
theorem dX3_shown_5 : decode cX3_shown 5 = .ok (.iload_n 2, 1) := by decide +kernel
theorem dX3_shown_6 : decode cX3_shown 6 = .ok (.invokestatic 67, 3) := by decide +kernel
theorem dX3_shown_9 : decode cX3_shown 9 = .ok (.invokestatic 42, 3) := by decide +kernel
theorem dX3_shown_12 : decode cX3_shown 12 = .ok (.aload_n 0, 1) := by decide +kernel
theorem dX3_shown_13 : decode cX3_shown 13 = .ok (.getfield 12, 3) := by decide +kernel
theorem dX3_shown_16 : decode cX3_shown 16 = .ok (.aload_n 0, 1) := by decide +kernel
theorem dX3_shown_17 : decode cX3_shown 17 = .ok (.getfield 19, 3) := by decide +kernel
theorem dX3_shown_20 : decode cX3_shown 20 = .ok (.iload_n 1, 1) := by decide +kernel
theorem dX3_shown_21 : decode cX3_shown 21 = .ok (.invokevirtual 125, 3) := by decide +kernel
theorem dX3_shown_24 : decode cX3_shown 24 = .ok (.iload_n 2, 1) := by decide +kernel
theorem dX3_shown_25 : decode cX3_shown 25 = .ok (.invokevirtual 148, 3) := by decide +kernel
theorem dX3_shown_28 : decode cX3_shown 28 = .ok (.ireturn, 1) := by decide +kernel
set_option maxRecDepth 20000 in
theorem ggX3_edit_X3_checkCard : GoodIn wsX3_edit wsX3_checkCard := goodIn_ca (goodIn_r _ [7, 8, 9, 2, 60, 61, 62, 63, 64, 65, 66, 67, 68] (by decide +kernel) (by decide +kernel)) (goodIn_sub (fun _ h => List.mem_cons_of_mem _ (List.mem_append_left _ (List.mem_append_right _ h))) (by decide +kernel))
set_option maxRecDepth 20000 in
theorem gX3_edit_X3_checkCard : GoodIn wsX3_edit (wsV RX3 61 RX3 yX3_checkCard wsX3_checkCard) := goodIn_app (goodIn_of _ (by decide +kernel)) ggX3_edit_X3_checkCard
set_option maxRecDepth 20000 in
theorem ggX3_edit_X3_isKind : GoodIn wsX3_edit wsX3_isKind := goodIn_r _ [12] (by decide +kernel) (by decide +kernel)
set_option maxRecDepth 20000 in
theorem gX3_edit_X3_isKind : GoodIn wsX3_edit (va_wsS RX3 67 yX3_isKind wsX3_isKind) := goodIn_app (goodIn_of _ (by decide +kernel)) ggX3_edit_X3_isKind
set_option maxRecDepth 20000 in
theorem ggX3_edit_X3_isValue : GoodIn wsX3_edit wsX3_isValue := goodIn_r _ [15] (by decide +kernel) (by decide +kernel)
set_option maxRecDepth 20000 in
theorem gX3_edit_X3_isValue : GoodIn wsX3_edit (va_wsS RX3 70 yX3_isValue wsX3_isValue) := goodIn_app (goodIn_of _ (by decide +kernel)) ggX3_edit_X3_isValue
set_option maxRecDepth 20000 in
theorem ggX3_edit_X3_checkArgument : GoodIn wsX3_edit wsX3_checkArgument := goodIn_ca (goodIn_r _ [18, 19, 20] (by decide +kernel) (by decide +kernel)) (goodIn_sub (fun _ h => List.mem_cons_of_mem _ (List.mem_append_right _ h)) (by decide +kernel))
set_option maxRecDepth 20000 in
theorem gX3_edit_X3_checkArgument : GoodIn wsX3_edit (va_wsS RX3 42 yX3_checkArgument wsX3_checkArgument) := goodIn_app (goodIn_of _ (by decide +kernel)) ggX3_edit_X3_checkArgument
set_option maxRecDepth 20000 in
theorem ggX3_edit_X1_groupOf : GoodIn wsX3_edit wsX1_groupOf := goodIn_r _ [25, 26, 69, 70] (by decide +kernel) (by decide +kernel)
set_option maxRecDepth 20000 in
theorem gX3_edit_X1_groupOf : GoodIn wsX3_edit (wsV RX3 125 RX1 yX1_groupOf wsX1_groupOf) := goodIn_app (goodIn_of _ (by decide +kernel)) ggX3_edit_X1_groupOf
set_option maxRecDepth 20000 in
theorem ggX3_edit_X0_mineOfAll : GoodIn wsX3_edit wsX0_mineOfAll := goodIn_r _ [31, 32, 33, 6, 34, 35, 36, 37, 30, 38, 39, 64, 65, 66, 67, 68] (by decide +kernel) (by decide +kernel)
set_option maxRecDepth 20000 in
theorem gX3_edit_X0_mineOfAll : GoodIn wsX3_edit (wsV RX3 148 RX0 yX0_mineOfAll wsX0_mineOfAll) := goodIn_app (goodIn_of _ (by decide +kernel)) ggX3_edit_X0_mineOfAll
set_option maxRecDepth 20000 in
theorem ggX3_edit_X3_has : GoodIn wsX3_edit wsX3_has := goodIn_r _ [34] (by decide +kernel) (by decide +kernel)
set_option maxRecDepth 20000 in
theorem gX3_edit_X3_has : GoodIn wsX3_edit (va_wsS RX3 81 yX3_has wsX3_has) := goodIn_app (goodIn_of _ (by decide +kernel)) ggX3_edit_X3_has
set_option maxRecDepth 20000 in
theorem ggX3_edit_X3_takeOutOfMine : GoodIn wsX3_edit wsX3_takeOutOfMine := goodIn_r _ [44, 2, 45, 36, 37, 30, 38, 39, 40, 33, 6, 34, 46, 47, 48, 49, 50, 35, 60, 61, 62, 63, 64, 65, 66, 67, 68] (by decide +kernel) (by decide +kernel)
set_option maxRecDepth 20000 in
theorem gX3_edit_X3_takeOutOfMine : GoodIn wsX3_edit (wsV RX3 151 RX3 yX3_takeOutOfMine wsX3_takeOutOfMine) := goodIn_app (goodIn_of _ (by decide +kernel)) ggX3_edit_X3_takeOutOfMine
set_option maxRecDepth 20000 in
theorem ggX3_edit_X0_preferredOf : GoodIn wsX3_edit wsX0_preferredOf := goodIn_r _ [54, 32, 33, 6, 34, 55, 56, 57, 30, 58, 59, 64, 65, 66, 67, 68] (by decide +kernel) (by decide +kernel)
set_option maxRecDepth 20000 in
theorem gX3_edit_X0_preferredOf : GoodIn wsX3_edit (wsV RX3 145 RX0 yX0_preferredOf wsX0_preferredOf) := goodIn_app (goodIn_of _ (by decide +kernel)) ggX3_edit_X0_preferredOf
set_option maxRecDepth 20000 in
theorem ggX3_edit_X0_setOf : GoodIn wsX3_edit wsX0_setOf := goodIn_r _ [38, 39, 64, 65, 66, 67, 68] (by decide +kernel) (by decide +kernel)
set_option maxRecDepth 20000 in
theorem gX3_edit_X0_setOf : GoodIn wsX3_edit (wsV RX3 73 RX0 yX0_setOf wsX0_setOf) := goodIn_app (goodIn_of _ (by decide +kernel)) ggX3_edit_X0_setOf
set_option maxRecDepth 20000 in
theorem ggX3_edit_X0_putSet : GoodIn wsX3_edit wsX0_putSet := goodIn_r _ [49, 50, 39, 35, 36, 37, 30, 38, 64, 65, 66, 67, 68] (by decide +kernel) (by decide +kernel)
set_option maxRecDepth 20000 in
theorem gX3_edit_X0_putSet : GoodIn wsX3_edit (wsV RX3 77 RX0 yX0_putSet wsX0_putSet) := goodIn_app (goodIn_of _ (by decide +kernel)) ggX3_edit_X0_putSet
theorem dX3_edit_0 : decode cX3_edit 0 = .ok (.aload_n 0, 1) := by decide +kernel
theorem dX3_edit_1 : decode cX3_edit 1 = .ok (.iload_n 1, 1) := by decide +kernel
theorem dX3_edit_2 : decode cX3_edit 2 = .ok (.invokevirtual 61, 3) := by decide +kernel
theorem dX3_edit_5 : decode cX3_edit 5 = .ok (.iload_n 2, 1) := by decide +kernel
theorem dX3_edit_6 : decode cX3_edit 6 = .ok (.invokestatic 67, 3) := by decide +kernel
theorem dX3_edit_9 : decode cX3_edit 9 = .ok (.ifCond .eq 14, 3) := by decide +kernel
theorem dX3_edit_12 : decode cX3_edit 12 = .ok (.iload_n 3, 1) := by decide +kernel
theorem dX3_edit_13 : decode cX3_edit 13 = .ok (.invokestatic 70, 3) := by decide +kernel
theorem dX3_edit_16 : decode cX3_edit 16 = .ok (.ifCond .eq 7, 3) := by decide +kernel
theorem dX3_edit_19 : decode cX3_edit 19 = .ok (.iconst 1, 1) := by decide +kernel
theorem dX3_edit_20 : decode cX3_edit 20 = .ok (.goto 4, 3) := by decide +kernel
theorem dX3_edit_23 : decode cX3_edit 23 = .ok (.iconst 0, 1) := by decide +kernel
theorem dX3_edit_24 : decode cX3_edit 24 = .ok (.invokestatic 42, 3) := by decide +kernel
theorem dX3_edit_27 : decode cX3_edit 27 = .ok (.aload_n 0, 1) := by decide +kernel
theorem dX3_edit_28 : decode cX3_edit 28 = .ok (.getfield 19, 3) := by decide +kernel
theorem dX3_edit_31 : decode cX3_edit 31 = .ok (.iload_n 1, 1) := by decide +kernel
theorem dX3_edit_32 : decode cX3_edit 32 = .ok (.invokevirtual 125, 3) := by decide +kernel
theorem dX3_edit_35 : decode cX3_edit 35 = .ok (.istore 4, 2) := by decide +kernel
theorem dX3_edit_37 : decode cX3_edit 37 = .ok (.aload_n 0, 1) := by decide +kernel
theorem dX3_edit_38 : decode cX3_edit 38 = .ok (.getfield 12, 3) := by decide +kernel
theorem dX3_edit_41 : decode cX3_edit 41 = .ok (.iload 4, 2) := by decide +kernel
theorem dX3_edit_43 : decode cX3_edit 43 = .ok (.iload_n 2, 1) := by decide +kernel
theorem dX3_edit_44 : decode cX3_edit 44 = .ok (.invokevirtual 148, 3) := by decide +kernel
theorem dX3_edit_47 : decode cX3_edit 47 = .ok (.iload_n 3, 1) := by decide +kernel
theorem dX3_edit_48 : decode cX3_edit 48 = .ok (.invokestatic 81, 3) := by decide +kernel
theorem dX3_edit_51 : decode cX3_edit 51 = .ok (.ifCond .eq 12, 3) := by decide +kernel
theorem dX3_edit_54 : decode cX3_edit 54 = .ok (.aload_n 0, 1) := by decide +kernel
theorem dX3_edit_55 : decode cX3_edit 55 = .ok (.iload 4, 2) := by decide +kernel
theorem dX3_edit_57 : decode cX3_edit 57 = .ok (.iload_n 2, 1) := by decide +kernel
theorem dX3_edit_58 : decode cX3_edit 58 = .ok (.iload_n 3, 1) := by decide +kernel
theorem dX3_edit_59 : decode cX3_edit 59 = .ok (.invokevirtual 151, 3) := by decide +kernel
theorem dX3_edit_62 : decode cX3_edit 62 = .ok (.ireturn, 1) := by decide +kernel
theorem dX3_edit_63 : decode cX3_edit 63 = .ok (.aload_n 0, 1) := by decide +kernel
theorem dX3_edit_64 : decode cX3_edit 64 = .ok (.getfield 12, 3) := by decide +kernel
theorem dX3_edit_67 : decode cX3_edit 67 = .ok (.iload_n 1, 1) := by decide +kernel
theorem dX3_edit_68 : decode cX3_edit 68 = .ok (.iload 4, 2) := by decide +kernel
theorem dX3_edit_70 : decode cX3_edit 70 = .ok (.invokevirtual 145, 3) := by decide +kernel
theorem dX3_edit_73 : decode cX3_edit 73 = .ok (.istore 5, 2) := by decide +kernel
theorem dX3_edit_75 : decode cX3_edit 75 = .ok (.aload_n 0, 1) := by decide +kernel
theorem dX3_edit_76 : decode cX3_edit 76 = .ok (.getfield 12, 3) := by decide +kernel
theorem dX3_edit_79 : decode cX3_edit 79 = .ok (.iload 5, 2) := by decide +kernel
theorem dX3_edit_81 : decode cX3_edit 81 = .ok (.iconst 0, 1) := by decide +kernel
theorem dX3_edit_82 : decode cX3_edit 82 = .ok (.iload_n 2, 1) := by decide +kernel
theorem dX3_edit_83 : decode cX3_edit 83 = .ok (.aload_n 0, 1) := by decide +kernel
theorem dX3_edit_84 : decode cX3_edit 84 = .ok (.getfield 12, 3) := by decide +kernel
theorem dX3_edit_87 : decode cX3_edit 87 = .ok (.iload 5, 2) := by decide +kernel
theorem dX3_edit_89 : decode cX3_edit 89 = .ok (.iconst 0, 1) := by decide +kernel
theorem dX3_edit_90 : decode cX3_edit 90 = .ok (.iload_n 2, 1) := by decide +kernel
theorem dX3_edit_91 : decode cX3_edit 91 = .ok (.invokevirtual 73, 3) := by decide +kernel
theorem dX3_edit_94 : decode cX3_edit 94 = .ok (.iconst 1, 1) := by decide +kernel
theorem dX3_edit_95 : decode cX3_edit 95 = .ok (.iload_n 3, 1) := by decide +kernel
theorem dX3_edit_96 : decode cX3_edit 96 = .ok (.ishl, 1) := by decide +kernel
theorem dX3_edit_97 : decode cX3_edit 97 = .ok (.ior, 1) := by decide +kernel
theorem dX3_edit_98 : decode cX3_edit 98 = .ok (.invokevirtual 77, 3) := by decide +kernel
theorem dX3_edit_101 : decode cX3_edit 101 = .ok (.iconst 1, 1) := by decide +kernel
theorem dX3_edit_102 : decode cX3_edit 102 = .ok (.iload 5, 2) := by decide +kernel
theorem dX3_edit_104 : decode cX3_edit 104 = .ok (.ishl, 1) := by decide +kernel
theorem dX3_edit_105 : decode cX3_edit 105 = .ok (.ireturn, 1) := by decide +kernel
set_option maxRecDepth 20000 in
theorem ggX3_score_X3_checkTwoCards : GoodIn wsX3_score wsX3_checkTwoCards := goodIn_ca (goodIn_ca (goodIn_r _ [5, 6, 7, 8, 4, 9, 10, 11, 12, 13, 14, 15, 16, 17, 53, 54, 55, 56, 57, 58, 59, 60, 61] (by decide +kernel) (by decide +kernel)) (goodIn_sub (fun _ h => List.mem_cons_of_mem _ (List.mem_append_left _ (List.mem_append_right _ h))) (by decide +kernel))) (goodIn_sub (fun _ h => List.mem_cons_of_mem _ (List.mem_append_right _ h)) (by decide +kernel))
set_option maxRecDepth 20000 in
theorem gX3_score_X3_checkTwoCards : GoodIn wsX3_score (wsV RX3 113 RX3 yX3_checkTwoCards wsX3_checkTwoCards) := goodIn_app (goodIn_of _ (by decide +kernel)) ggX3_score_X3_checkTwoCards
set_option maxRecDepth 20000 in
theorem ggX3_score_X3_scoreOf : GoodIn wsX3_score wsX3_scoreOf := goodIn_r _ [21, 22, 12, 23, 24, 25, 26, 27, 28, 29, 4, 30, 31, 32, 33, 34, 35, 36, 37, 38, 39, 40, 41, 42, 43, 44, 45, 46, 47, 48, 49, 50, 51, 52, 53, 54, 55, 56, 62, 63, 57, 58, 59, 60, 61] (by decide +kernel) (by decide +kernel)
set_option maxRecDepth 20000 in
theorem gX3_score_X3_scoreOf : GoodIn wsX3_score (wsV RX3 154 RX3 yX3_scoreOf wsX3_scoreOf) := goodIn_app (goodIn_of _ (by decide +kernel)) ggX3_score_X3_scoreOf
theorem dX3_score_0 : decode cX3_score 0 = .ok (.aload_n 0, 1) := by decide +kernel
theorem dX3_score_1 : decode cX3_score 1 = .ok (.iload_n 1, 1) := by decide +kernel
theorem dX3_score_2 : decode cX3_score 2 = .ok (.iload_n 2, 1) := by decide +kernel
theorem dX3_score_3 : decode cX3_score 3 = .ok (.invokevirtual 113, 3) := by decide +kernel
theorem dX3_score_6 : decode cX3_score 6 = .ok (.aload_n 0, 1) := by decide +kernel
theorem dX3_score_7 : decode cX3_score 7 = .ok (.iload_n 1, 1) := by decide +kernel
theorem dX3_score_8 : decode cX3_score 8 = .ok (.iload_n 2, 1) := by decide +kernel
theorem dX3_score_9 : decode cX3_score 9 = .ok (.invokevirtual 154, 3) := by decide +kernel
theorem dX3_score_12 : decode cX3_score 12 = .ok (.ireturn, 1) := by decide +kernel
set_option maxRecDepth 20000 in
theorem ggX3_pairs_X3_tallyPairs : GoodIn wsX3_pairs wsX3_tallyPairs := goodIn_r _ [5, 6, 7, 8, 9, 10, 4, 11, 12, 13, 14, 15, 16, 17, 18, 19, 20, 21, 22, 23, 24, 25, 26, 27, 28, 29, 30, 31, 32, 33, 34, 35, 36, 37, 38, 39, 40, 41, 42, 43, 44, 45, 46, 47, 48, 49, 50, 51, 52, 53, 54, 55, 56, 57, 58, 59, 60, 61, 62, 63, 64, 65, 66, 67, 68, 69, 70, 71, 72] (by decide +kernel) (by decide +kernel)
set_option maxRecDepth 20000 in
theorem gX3_pairs_X3_tallyPairs : GoodIn wsX3_pairs (wsV RX3 157 RX3 yX3_tallyPairs wsX3_tallyPairs) := goodIn_app (goodIn_of _ (by decide +kernel)) ggX3_pairs_X3_tallyPairs
theorem dX3_pairs_0 : decode cX3_pairs 0 = .ok (.aload_n 0, 1) := by decide +kernel
theorem dX3_pairs_1 : decode cX3_pairs 1 = .ok (.invokevirtual 157, 3) := by decide +kernel
theorem dX3_pairs_4 : decode cX3_pairs 4 = .ok (.ireturn, 1) := by decide +kernel
set_option maxRecDepth 20000 in
theorem ggX3_pairAt_X3_tallyPairs : GoodIn wsX3_pairAt wsX3_tallyPairs := goodIn_r _ [8, 3, 9, 10, 11, 12, 7, 13, 14, 15, 16, 17, 18, 19, 20, 21, 22, 23, 24, 25, 26, 27, 28, 29, 30, 31, 32, 33, 34, 35, 36, 37, 38, 39, 40, 41, 42, 43, 44, 45, 46, 47, 48, 49, 50, 51, 52, 53, 54, 55, 56, 57, 58, 59, 60, 61, 66, 67, 68, 69, 70, 71, 72, 73, 74, 75, 76, 77, 78] (by decide +kernel) (by decide +kernel)
set_option maxRecDepth 20000 in
theorem gX3_pairAt_X3_tallyPairs : GoodIn wsX3_pairAt (wsV RX3 157 RX3 yX3_tallyPairs wsX3_tallyPairs) := goodIn_app (goodIn_of _ (by decide +kernel)) ggX3_pairAt_X3_tallyPairs
set_option maxRecDepth 20000 in
theorem ggX3_pairAt_X3_pairOfScore : GoodIn wsX3_pairAt wsX3_pairOfScore := goodIn_r _ [65, 9, 10, 11, 12, 7, 13, 14, 15, 16, 17, 18, 19, 20, 21, 22, 23, 24, 25, 26, 27, 28, 29, 30, 31, 32, 33, 34, 35, 36, 37, 38, 39, 40, 41, 42, 43, 44, 45, 46, 47, 48, 49, 50, 51, 52, 53, 54, 55, 56, 57, 58, 59, 60, 61, 66, 67, 68, 69, 70, 71, 72, 73, 74, 75, 76, 77, 78] (by decide +kernel) (by decide +kernel)
set_option maxRecDepth 20000 in
theorem gX3_pairAt_X3_pairOfScore : GoodIn wsX3_pairAt (wsV RX3 166 RX3 yX3_pairOfScore wsX3_pairOfScore) := goodIn_app (goodIn_of _ (by decide +kernel)) ggX3_pairAt_X3_pairOfScore
theorem dX3_pairAt_0 : decode cX3_pairAt 0 = .ok (.aload_n 0, 1) := by decide +kernel
theorem dX3_pairAt_1 : decode cX3_pairAt 1 = .ok (.invokevirtual 157, 3) := by decide +kernel
theorem dX3_pairAt_4 : decode cX3_pairAt 4 = .ok (.istore_n 2, 1) := by decide +kernel
theorem dX3_pairAt_5 : decode cX3_pairAt 5 = .ok (.iload_n 1, 1) := by decide +kernel
theorem dX3_pairAt_6 : decode cX3_pairAt 6 = .ok (.ifCond .lt 8, 3) := by decide +kernel
theorem dX3_pairAt_9 : decode cX3_pairAt 9 = .ok (.iload_n 1, 1) := by decide +kernel
theorem dX3_pairAt_10 : decode cX3_pairAt 10 = .ok (.iload_n 2, 1) := by decide +kernel
theorem dX3_pairAt_11 : decode cX3_pairAt 11 = .ok (.if_icmp .lt 13, 3) := by decide +kernel
theorem dX3_pairAt_14 : decode cX3_pairAt 14 = .ok (.new 161, 3) := by decide +kernel
theorem dX3_pairAt_17 : decode cX3_pairAt 17 = .ok (.dup, 1) := by decide +kernel
theorem dX3_pairAt_18 : decode cX3_pairAt 18 = .ok (.ldc 163, 2) := by decide +kernel
theorem dX3_pairAt_20 : decode cX3_pairAt 20 = .ok (.invokespecial 165, 3) := by decide +kernel
theorem dX3_pairAt_23 : decode cX3_pairAt 23 = .ok (.athrow, 1) := by decide +kernel
theorem dX3_pairAt_24 : decode cX3_pairAt 24 = .ok (.iload_n 1, 1) := by decide +kernel
theorem dX3_pairAt_25 : decode cX3_pairAt 25 = .ok (.istore_n 3, 1) := by decide +kernel
theorem dX3_pairAt_26 : decode cX3_pairAt 26 = .ok (.sipush 152, 3) := by decide +kernel
theorem dX3_pairAt_29 : decode cX3_pairAt 29 = .ok (.istore 4, 2) := by decide +kernel
theorem dX3_pairAt_31 : decode cX3_pairAt 31 = .ok (.iload 4, 2) := by decide +kernel
theorem dX3_pairAt_33 : decode cX3_pairAt 33 = .ok (.ifCond .le 30, 3) := by decide +kernel
theorem dX3_pairAt_36 : decode cX3_pairAt 36 = .ok (.iload_n 3, 1) := by decide +kernel
theorem dX3_pairAt_37 : decode cX3_pairAt 37 = .ok (.aload_n 0, 1) := by decide +kernel
theorem dX3_pairAt_38 : decode cX3_pairAt 38 = .ok (.getfield 30, 3) := by decide +kernel
theorem dX3_pairAt_41 : decode cX3_pairAt 41 = .ok (.iload 4, 2) := by decide +kernel
theorem dX3_pairAt_43 : decode cX3_pairAt 43 = .ok (.iaload, 1) := by decide +kernel
theorem dX3_pairAt_44 : decode cX3_pairAt 44 = .ok (.if_icmp .lt 19, 3) := by decide +kernel
theorem dX3_pairAt_47 : decode cX3_pairAt 47 = .ok (.iload_n 3, 1) := by decide +kernel
theorem dX3_pairAt_48 : decode cX3_pairAt 48 = .ok (.aload_n 0, 1) := by decide +kernel
theorem dX3_pairAt_49 : decode cX3_pairAt 49 = .ok (.getfield 30, 3) := by decide +kernel
theorem dX3_pairAt_52 : decode cX3_pairAt 52 = .ok (.iload 4, 2) := by decide +kernel
theorem dX3_pairAt_54 : decode cX3_pairAt 54 = .ok (.iaload, 1) := by decide +kernel
theorem dX3_pairAt_55 : decode cX3_pairAt 55 = .ok (.isub, 1) := by decide +kernel
theorem dX3_pairAt_56 : decode cX3_pairAt 56 = .ok (.istore_n 3, 1) := by decide +kernel
theorem dX3_pairAt_57 : decode cX3_pairAt 57 = .ok (.iinc 4 (-1), 3) := by decide +kernel
theorem dX3_pairAt_60 : decode cX3_pairAt 60 = .ok (.goto (-29), 3) := by decide +kernel
theorem dX3_pairAt_63 : decode cX3_pairAt 63 = .ok (.aload_n 0, 1) := by decide +kernel
theorem dX3_pairAt_64 : decode cX3_pairAt 64 = .ok (.iload 4, 2) := by decide +kernel
theorem dX3_pairAt_66 : decode cX3_pairAt 66 = .ok (.iload_n 3, 1) := by decide +kernel
theorem dX3_pairAt_67 : decode cX3_pairAt 67 = .ok (.invokevirtual 166, 3) := by decide +kernel
theorem dX3_pairAt_70 : decode cX3_pairAt 70 = .ok (.ireturn, 1) := by decide +kernel
set_option maxRecDepth 20000 in
theorem ggX3_turnDown_X3_checkTwoCards : GoodIn wsX3_turnDown wsX3_checkTwoCards := goodIn_ca (goodIn_ca (goodIn_r _ [9, 10, 11, 12, 8, 13, 14, 15, 4, 16, 17, 18, 19, 20, 85, 86, 87, 88, 89, 90, 91, 92, 93] (by decide +kernel) (by decide +kernel)) (goodIn_sub (fun _ h => List.mem_cons_of_mem _ (List.mem_append_left _ (List.mem_append_right _ h))) (by decide +kernel))) (goodIn_sub (fun _ h => List.mem_cons_of_mem _ (List.mem_append_right _ h)) (by decide +kernel))
set_option maxRecDepth 20000 in
theorem gX3_turnDown_X3_checkTwoCards : GoodIn wsX3_turnDown (wsV RX3 113 RX3 yX3_checkTwoCards wsX3_checkTwoCards) := goodIn_app (goodIn_of _ (by decide +kernel)) ggX3_turnDown_X3_checkTwoCards
set_option maxRecDepth 20000 in
theorem ggX3_turnDown_X3_suggestedScore : GoodIn wsX3_turnDown wsX3_suggestedScore := goodIn_r _ [24, 3, 4, 25, 26, 27, 28, 29, 30, 31, 32, 33, 34, 35, 36, 37, 38, 8, 39, 40, 41, 42, 43, 44, 45, 46, 47, 48, 49, 50, 51, 52, 53, 54, 55, 56, 57, 58, 59, 60, 61, 62, 63, 64, 65, 66, 67, 68, 69, 70, 71, 85, 86, 87, 88, 89, 90, 91, 92, 93, 94, 95, 96, 97] (by decide +kernel) (by decide +kernel)
set_option maxRecDepth 20000 in
theorem gX3_turnDown_X3_suggestedScore : GoodIn wsX3_turnDown (wsV RX3 169 RX3 yX3_suggestedScore wsX3_suggestedScore) := goodIn_app (goodIn_of _ (by decide +kernel)) ggX3_turnDown_X3_suggestedScore
set_option maxRecDepth 20000 in
theorem ggX3_turnDown_X2_refuseForGood : GoodIn wsX3_turnDown wsX2_refuseForGood := goodIn_r _ [75, 36, 94, 95] (by decide +kernel) (by decide +kernel)
set_option maxRecDepth 20000 in
theorem gX3_turnDown_X2_refuseForGood : GoodIn wsX3_turnDown (wsV RX3 174 RX2 yX2_refuseForGood wsX2_refuseForGood) := goodIn_app (goodIn_of _ (by decide +kernel)) ggX3_turnDown_X2_refuseForGood
set_option maxRecDepth 20000 in
theorem ggX3_turnDown_X0_mineChangesOf : GoodIn wsX3_turnDown wsX0_mineChangesOf := goodIn_r _ [29, 30, 89, 90, 91, 92, 93] (by decide +kernel) (by decide +kernel)
set_option maxRecDepth 20000 in
theorem gX3_turnDown_X0_mineChangesOf : GoodIn wsX3_turnDown (wsV RX3 177 RX0 yX0_mineChangesOf wsX0_mineChangesOf) := goodIn_app (goodIn_of _ (by decide +kernel)) ggX3_turnDown_X0_mineChangesOf
set_option maxRecDepth 20000 in
theorem ggX3_turnDown_X2_refuseForNow : GoodIn wsX3_turnDown wsX2_refuseForNow := goodIn_r _ [79, 37, 94, 95] (by decide +kernel) (by decide +kernel)
set_option maxRecDepth 20000 in
theorem gX3_turnDown_X2_refuseForNow : GoodIn wsX3_turnDown (wsV RX3 180 RX2 yX2_refuseForNow wsX2_refuseForNow) := goodIn_app (goodIn_of _ (by decide +kernel)) ggX3_turnDown_X2_refuseForNow
set_option maxRecDepth 20000 in
theorem ggX3_turnDown_X3_tallyPairs : GoodIn wsX3_turnDown wsX3_tallyPairs := goodIn_r _ [83, 84, 4, 21, 22, 23, 8, 24, 3, 25, 26, 27, 28, 29, 30, 31, 32, 33, 34, 35, 36, 37, 38, 39, 40, 41, 42, 43, 44, 45, 46, 47, 48, 49, 50, 51, 52, 53, 54, 55, 56, 57, 58, 59, 60, 61, 62, 63, 64, 65, 66, 67, 68, 69, 70, 71, 85, 86, 87, 88, 89, 90, 91, 92, 93, 94, 95, 96, 97] (by decide +kernel) (by decide +kernel)
set_option maxRecDepth 20000 in
theorem gX3_turnDown_X3_tallyPairs : GoodIn wsX3_turnDown (wsV RX3 157 RX3 yX3_tallyPairs wsX3_tallyPairs) := goodIn_app (goodIn_of _ (by decide +kernel)) ggX3_turnDown_X3_tallyPairs
theorem dX3_turnDown_0 : decode cX3_turnDown 0 = .ok (.aload_n 0, 1) := by decide +kernel
theorem dX3_turnDown_1 : decode cX3_turnDown 1 = .ok (.iload_n 1, 1) := by decide +kernel
theorem dX3_turnDown_2 : decode cX3_turnDown 2 = .ok (.iload_n 2, 1) := by decide +kernel
theorem dX3_turnDown_3 : decode cX3_turnDown 3 = .ok (.invokevirtual 113, 3) := by decide +kernel
theorem dX3_turnDown_6 : decode cX3_turnDown 6 = .ok (.aload_n 0, 1) := by decide +kernel
theorem dX3_turnDown_7 : decode cX3_turnDown 7 = .ok (.iload_n 1, 1) := by decide +kernel
theorem dX3_turnDown_8 : decode cX3_turnDown 8 = .ok (.iload_n 2, 1) := by decide +kernel
theorem dX3_turnDown_9 : decode cX3_turnDown 9 = .ok (.invokevirtual 169, 3) := by decide +kernel
theorem dX3_turnDown_12 : decode cX3_turnDown 12 = .ok (.ifCond .ne 13, 3) := by decide +kernel
theorem dX3_turnDown_15 : decode cX3_turnDown 15 = .ok (.new 50, 3) := by decide +kernel
theorem dX3_turnDown_18 : decode cX3_turnDown 18 = .ok (.dup, 1) := by decide +kernel
theorem dX3_turnDown_19 : decode cX3_turnDown 19 = .ok (.ldc 172, 2) := by decide +kernel
theorem dX3_turnDown_21 : decode cX3_turnDown 21 = .ok (.invokespecial 54, 3) := by decide +kernel
theorem dX3_turnDown_24 : decode cX3_turnDown 24 = .ok (.athrow, 1) := by decide +kernel
theorem dX3_turnDown_25 : decode cX3_turnDown 25 = .ok (.iload_n 3, 1) := by decide +kernel
theorem dX3_turnDown_26 : decode cX3_turnDown 26 = .ok (.ifCond .eq 15, 3) := by decide +kernel
theorem dX3_turnDown_29 : decode cX3_turnDown 29 = .ok (.aload_n 0, 1) := by decide +kernel
theorem dX3_turnDown_30 : decode cX3_turnDown 30 = .ok (.getfield 26, 3) := by decide +kernel
theorem dX3_turnDown_33 : decode cX3_turnDown 33 = .ok (.iload_n 1, 1) := by decide +kernel
theorem dX3_turnDown_34 : decode cX3_turnDown 34 = .ok (.iload_n 2, 1) := by decide +kernel
theorem dX3_turnDown_35 : decode cX3_turnDown 35 = .ok (.invokevirtual 174, 3) := by decide +kernel
theorem dX3_turnDown_38 : decode cX3_turnDown 38 = .ok (.goto 21, 3) := by decide +kernel
theorem dX3_turnDown_41 : decode cX3_turnDown 41 = .ok (.aload_n 0, 1) := by decide +kernel
theorem dX3_turnDown_42 : decode cX3_turnDown 42 = .ok (.getfield 26, 3) := by decide +kernel
theorem dX3_turnDown_45 : decode cX3_turnDown 45 = .ok (.iload_n 1, 1) := by decide +kernel
theorem dX3_turnDown_46 : decode cX3_turnDown 46 = .ok (.iload_n 2, 1) := by decide +kernel
theorem dX3_turnDown_47 : decode cX3_turnDown 47 = .ok (.aload_n 0, 1) := by decide +kernel
theorem dX3_turnDown_48 : decode cX3_turnDown 48 = .ok (.getfield 12, 3) := by decide +kernel
theorem dX3_turnDown_51 : decode cX3_turnDown 51 = .ok (.iload_n 1, 1) := by decide +kernel
theorem dX3_turnDown_52 : decode cX3_turnDown 52 = .ok (.iload_n 2, 1) := by decide +kernel
theorem dX3_turnDown_53 : decode cX3_turnDown 53 = .ok (.invokevirtual 177, 3) := by decide +kernel
theorem dX3_turnDown_56 : decode cX3_turnDown 56 = .ok (.invokevirtual 180, 3) := by decide +kernel
theorem dX3_turnDown_59 : decode cX3_turnDown 59 = .ok (.aload_n 0, 1) := by decide +kernel
theorem dX3_turnDown_60 : decode cX3_turnDown 60 = .ok (.invokevirtual 157, 3) := by decide +kernel
theorem dX3_turnDown_63 : decode cX3_turnDown 63 = .ok (.ireturn, 1) := by decide +kernel
theorem dX3_checkBook_0 : decode cX3_checkBook 0 = .ok (.iload_n 1, 1) := by decide +kernel
theorem dX3_checkBook_1 : decode cX3_checkBook 1 = .ok (.ifCond .lt 8, 3) := by decide +kernel
theorem dX3_checkBook_4 : decode cX3_checkBook 4 = .ok (.iload_n 1, 1) := by decide +kernel
theorem dX3_checkBook_5 : decode cX3_checkBook 5 = .ok (.iconst 3, 1) := by decide +kernel
theorem dX3_checkBook_6 : decode cX3_checkBook 6 = .ok (.if_icmp .lt 13, 3) := by decide +kernel
theorem dX3_checkBook_9 : decode cX3_checkBook 9 = .ok (.new 161, 3) := by decide +kernel
theorem dX3_checkBook_12 : decode cX3_checkBook 12 = .ok (.dup, 1) := by decide +kernel
theorem dX3_checkBook_13 : decode cX3_checkBook 13 = .ok (.ldc 183, 2) := by decide +kernel
theorem dX3_checkBook_15 : decode cX3_checkBook 15 = .ok (.invokespecial 165, 3) := by decide +kernel
theorem dX3_checkBook_18 : decode cX3_checkBook 18 = .ok (.athrow, 1) := by decide +kernel
theorem dX3_checkBook_19 : decode cX3_checkBook 19 = .ok (.return_, 1) := by decide +kernel
theorem dX3_checkCard_0 : decode cX3_checkCard 0 = .ok (.iload_n 1, 1) := by decide +kernel
theorem dX3_checkCard_1 : decode cX3_checkCard 1 = .ok (.ifCond .lt 14, 3) := by decide +kernel
theorem dX3_checkCard_4 : decode cX3_checkCard 4 = .ok (.iload_n 1, 1) := by decide +kernel
theorem dX3_checkCard_5 : decode cX3_checkCard 5 = .ok (.aload_n 0, 1) := by decide +kernel
theorem dX3_checkCard_6 : decode cX3_checkCard 6 = .ok (.getfield 12, 3) := by decide +kernel
theorem dX3_checkCard_9 : decode cX3_checkCard 9 = .ok (.getfield 46, 3) := by decide +kernel
theorem dX3_checkCard_12 : decode cX3_checkCard 12 = .ok (.if_icmp .lt 13, 3) := by decide +kernel
theorem dX3_checkCard_15 : decode cX3_checkCard 15 = .ok (.new 161, 3) := by decide +kernel
theorem dX3_checkCard_18 : decode cX3_checkCard 18 = .ok (.dup, 1) := by decide +kernel
theorem dX3_checkCard_19 : decode cX3_checkCard 19 = .ok (.ldc 185, 2) := by decide +kernel
theorem dX3_checkCard_21 : decode cX3_checkCard 21 = .ok (.invokespecial 165, 3) := by decide +kernel
theorem dX3_checkCard_24 : decode cX3_checkCard 24 = .ok (.athrow, 1) := by decide +kernel
theorem dX3_checkCard_25 : decode cX3_checkCard 25 = .ok (.return_, 1) := by decide +kernel
set_option maxRecDepth 20000 in
theorem ggX3_checkTwoCards_X3_checkCard : GoodIn wsX3_checkTwoCards wsX3_checkCard := goodIn_ca (goodIn_r _ [5, 6, 7, 8, 14, 15, 16, 17, 18, 19, 20, 21, 22] (by decide +kernel) (by decide +kernel)) (goodIn_sub (fun _ h => List.mem_cons_of_mem _ (List.mem_append_left _ (List.mem_append_right _ h))) (by decide +kernel))
set_option maxRecDepth 20000 in
theorem gX3_checkTwoCards_X3_checkCard : GoodIn wsX3_checkTwoCards (wsV RX3 61 RX3 yX3_checkCard wsX3_checkCard) := goodIn_app (goodIn_of _ (by decide +kernel)) ggX3_checkTwoCards_X3_checkCard
set_option maxRecDepth 20000 in
theorem ggX3_checkTwoCards_X3_checkArgument : GoodIn wsX3_checkTwoCards wsX3_checkArgument := goodIn_ca (goodIn_r _ [11, 12, 13] (by decide +kernel) (by decide +kernel)) (goodIn_sub (fun _ h => List.mem_cons_of_mem _ (List.mem_append_right _ h)) (by decide +kernel))
set_option maxRecDepth 20000 in
theorem gX3_checkTwoCards_X3_checkArgument : GoodIn wsX3_checkTwoCards (va_wsS RX3 42 yX3_checkArgument wsX3_checkArgument) := goodIn_app (goodIn_of _ (by decide +kernel)) ggX3_checkTwoCards_X3_checkArgument
theorem dX3_checkTwoCards_0 : decode cX3_checkTwoCards 0 = .ok (.aload_n 0, 1) := by decide +kernel
theorem dX3_checkTwoCards_1 : decode cX3_checkTwoCards 1 = .ok (.iload_n 1, 1) := by decide +kernel
theorem dX3_checkTwoCards_2 : decode cX3_checkTwoCards 2 = .ok (.invokevirtual 61, 3) := by decide +kernel
theorem dX3_checkTwoCards_5 : decode cX3_checkTwoCards 5 = .ok (.aload_n 0, 1) := by decide +kernel
theorem dX3_checkTwoCards_6 : decode cX3_checkTwoCards 6 = .ok (.iload_n 2, 1) := by decide +kernel
theorem dX3_checkTwoCards_7 : decode cX3_checkTwoCards 7 = .ok (.invokevirtual 61, 3) := by decide +kernel
theorem dX3_checkTwoCards_10 : decode cX3_checkTwoCards 10 = .ok (.iload_n 1, 1) := by decide +kernel
theorem dX3_checkTwoCards_11 : decode cX3_checkTwoCards 11 = .ok (.iload_n 2, 1) := by decide +kernel
theorem dX3_checkTwoCards_12 : decode cX3_checkTwoCards 12 = .ok (.if_icmp .eq 7, 3) := by decide +kernel
theorem dX3_checkTwoCards_15 : decode cX3_checkTwoCards 15 = .ok (.iconst 1, 1) := by decide +kernel
theorem dX3_checkTwoCards_16 : decode cX3_checkTwoCards 16 = .ok (.goto 4, 3) := by decide +kernel
theorem dX3_checkTwoCards_19 : decode cX3_checkTwoCards 19 = .ok (.iconst 0, 1) := by decide +kernel
theorem dX3_checkTwoCards_20 : decode cX3_checkTwoCards 20 = .ok (.invokestatic 42, 3) := by decide +kernel
theorem dX3_checkTwoCards_23 : decode cX3_checkTwoCards 23 = .ok (.return_, 1) := by decide +kernel
theorem dX3_checkArgument_0 : decode cX3_checkArgument 0 = .ok (.iload_n 0, 1) := by decide +kernel
theorem dX3_checkArgument_1 : decode cX3_checkArgument 1 = .ok (.ifCond .ne 13, 3) := by decide +kernel
theorem dX3_checkArgument_4 : decode cX3_checkArgument 4 = .ok (.new 187, 3) := by decide +kernel
theorem dX3_checkArgument_7 : decode cX3_checkArgument 7 = .ok (.dup, 1) := by decide +kernel
theorem dX3_checkArgument_8 : decode cX3_checkArgument 8 = .ok (.ldc 189, 2) := by decide +kernel
theorem dX3_checkArgument_10 : decode cX3_checkArgument 10 = .ok (.invokespecial 191, 3) := by decide +kernel
theorem dX3_checkArgument_13 : decode cX3_checkArgument 13 = .ok (.athrow, 1) := by decide +kernel
theorem dX3_checkArgument_14 : decode cX3_checkArgument 14 = .ok (.return_, 1) := by decide +kernel
theorem dX3_isName_0 : decode cX3_isName 0 = .ok (.iload_n 0, 1) := by decide +kernel
theorem dX3_isName_1 : decode cX3_isName 1 = .ok (.ifCond .lt 13, 3) := by decide +kernel
theorem dX3_isName_4 : decode cX3_isName 4 = .ok (.iload_n 0, 1) := by decide +kernel
theorem dX3_isName_5 : decode cX3_isName 5 = .ok (.bipush 32, 2) := by decide +kernel
theorem dX3_isName_7 : decode cX3_isName 7 = .ok (.if_icmp .ge 7, 3) := by decide +kernel
theorem dX3_isName_10 : decode cX3_isName 10 = .ok (.iconst 1, 1) := by decide +kernel
theorem dX3_isName_11 : decode cX3_isName 11 = .ok (.goto 4, 3) := by decide +kernel
theorem dX3_isName_14 : decode cX3_isName 14 = .ok (.iconst 0, 1) := by decide +kernel
theorem dX3_isName_15 : decode cX3_isName 15 = .ok (.ireturn, 1) := by decide +kernel
theorem dX3_isValue_0 : decode cX3_isValue 0 = .ok (.iload_n 0, 1) := by decide +kernel
theorem dX3_isValue_1 : decode cX3_isValue 1 = .ok (.ifCond .lt 13, 3) := by decide +kernel
theorem dX3_isValue_4 : decode cX3_isValue 4 = .ok (.iload_n 0, 1) := by decide +kernel
theorem dX3_isValue_5 : decode cX3_isValue 5 = .ok (.bipush 30, 2) := by decide +kernel
theorem dX3_isValue_7 : decode cX3_isValue 7 = .ok (.if_icmp .ge 7, 3) := by decide +kernel
theorem dX3_isValue_10 : decode cX3_isValue 10 = .ok (.iconst 1, 1) := by decide +kernel
theorem dX3_isValue_11 : decode cX3_isValue 11 = .ok (.goto 4, 3) := by decide +kernel
theorem dX3_isValue_14 : decode cX3_isValue 14 = .ok (.iconst 0, 1) := by decide +kernel
theorem dX3_isValue_15 : decode cX3_isValue 15 = .ok (.ireturn, 1) := by decide +kernel
theorem dX3_isKind_0 : decode cX3_isKind 0 = .ok (.iload_n 0, 1) := by decide +kernel
theorem dX3_isKind_1 : decode cX3_isKind 1 = .ok (.ifCond .eq 8, 3) := by decide +kernel
theorem dX3_isKind_4 : decode cX3_isKind 4 = .ok (.iload_n 0, 1) := by decide +kernel
theorem dX3_isKind_5 : decode cX3_isKind 5 = .ok (.iconst 1, 1) := by decide +kernel
theorem dX3_isKind_6 : decode cX3_isKind 6 = .ok (.if_icmp .ne 7, 3) := by decide +kernel
theorem dX3_isKind_9 : decode cX3_isKind 9 = .ok (.iconst 1, 1) := by decide +kernel
theorem dX3_isKind_10 : decode cX3_isKind 10 = .ok (.goto 4, 3) := by decide +kernel
theorem dX3_isKind_13 : decode cX3_isKind 13 = .ok (.iconst 0, 1) := by decide +kernel
theorem dX3_isKind_14 : decode cX3_isKind 14 = .ok (.ireturn, 1) := by decide +kernel
theorem dX3_isChangeable_0 : decode cX3_isChangeable 0 = .ok (.iload_n 0, 1) := by decide +kernel
theorem dX3_isChangeable_1 : decode cX3_isChangeable 1 = .ok (.ifCond .eq 8, 3) := by decide +kernel
theorem dX3_isChangeable_4 : decode cX3_isChangeable 4 = .ok (.iload_n 0, 1) := by decide +kernel
theorem dX3_isChangeable_5 : decode cX3_isChangeable 5 = .ok (.iconst 1, 1) := by decide +kernel
theorem dX3_isChangeable_6 : decode cX3_isChangeable 6 = .ok (.if_icmp .ne 7, 3) := by decide +kernel
theorem dX3_isChangeable_9 : decode cX3_isChangeable 9 = .ok (.iconst 1, 1) := by decide +kernel
theorem dX3_isChangeable_10 : decode cX3_isChangeable 10 = .ok (.goto 4, 3) := by decide +kernel
theorem dX3_isChangeable_13 : decode cX3_isChangeable 13 = .ok (.iconst 0, 1) := by decide +kernel
theorem dX3_isChangeable_14 : decode cX3_isChangeable 14 = .ok (.ireturn, 1) := by decide +kernel
set_option maxRecDepth 20000 in
theorem ggX3_isVersion_X3_isChangeable : GoodIn wsX3_isVersion wsX3_isChangeable := goodIn_r _ [4] (by decide +kernel) (by decide +kernel)
set_option maxRecDepth 20000 in
theorem gX3_isVersion_X3_isChangeable : GoodIn wsX3_isVersion (va_wsS RX3 64 yX3_isChangeable wsX3_isChangeable) := goodIn_app (goodIn_of _ (by decide +kernel)) ggX3_isVersion_X3_isChangeable
theorem dX3_isVersion_0 : decode cX3_isVersion 0 = .ok (.iload_n 0, 1) := by decide +kernel
theorem dX3_isVersion_1 : decode cX3_isVersion 1 = .ok (.invokestatic 64, 3) := by decide +kernel
theorem dX3_isVersion_4 : decode cX3_isVersion 4 = .ok (.ifCond .ne 8, 3) := by decide +kernel
theorem dX3_isVersion_7 : decode cX3_isVersion 7 = .ok (.iload_n 0, 1) := by decide +kernel
theorem dX3_isVersion_8 : decode cX3_isVersion 8 = .ok (.iconst 2, 1) := by decide +kernel
theorem dX3_isVersion_9 : decode cX3_isVersion 9 = .ok (.if_icmp .ne 7, 3) := by decide +kernel
theorem dX3_isVersion_12 : decode cX3_isVersion 12 = .ok (.iconst 1, 1) := by decide +kernel
theorem dX3_isVersion_13 : decode cX3_isVersion 13 = .ok (.goto 4, 3) := by decide +kernel
theorem dX3_isVersion_16 : decode cX3_isVersion 16 = .ok (.iconst 0, 1) := by decide +kernel
theorem dX3_isVersion_17 : decode cX3_isVersion 17 = .ok (.ireturn, 1) := by decide +kernel
theorem dX3_has_0 : decode cX3_has 0 = .ok (.iload_n 0, 1) := by decide +kernel
theorem dX3_has_1 : decode cX3_has 1 = .ok (.iconst 1, 1) := by decide +kernel
theorem dX3_has_2 : decode cX3_has 2 = .ok (.iload_n 1, 1) := by decide +kernel
theorem dX3_has_3 : decode cX3_has 3 = .ok (.ishl, 1) := by decide +kernel
theorem dX3_has_4 : decode cX3_has 4 = .ok (.iand, 1) := by decide +kernel
theorem dX3_has_5 : decode cX3_has 5 = .ok (.ifCond .eq 7, 3) := by decide +kernel
theorem dX3_has_8 : decode cX3_has 8 = .ok (.iconst 1, 1) := by decide +kernel
theorem dX3_has_9 : decode cX3_has 9 = .ok (.goto 4, 3) := by decide +kernel
theorem dX3_has_12 : decode cX3_has 12 = .ok (.iconst 0, 1) := by decide +kernel
theorem dX3_has_13 : decode cX3_has 13 = .ok (.ireturn, 1) := by decide +kernel
set_option maxRecDepth 20000 in
theorem ggX3_takeOutOfMine_X0_setOf : GoodIn wsX3_takeOutOfMine wsX0_setOf := goodIn_r _ [6, 7, 22, 23, 24, 25, 26] (by decide +kernel) (by decide +kernel)
set_option maxRecDepth 20000 in
theorem gX3_takeOutOfMine_X0_setOf : GoodIn wsX3_takeOutOfMine (wsV RX3 73 RX0 yX0_setOf wsX0_setOf) := goodIn_app (goodIn_of _ (by decide +kernel)) ggX3_takeOutOfMine_X0_setOf
set_option maxRecDepth 20000 in
theorem ggX3_takeOutOfMine_X3_has : GoodIn wsX3_takeOutOfMine wsX3_has := goodIn_r _ [11] (by decide +kernel) (by decide +kernel)
set_option maxRecDepth 20000 in
theorem gX3_takeOutOfMine_X3_has : GoodIn wsX3_takeOutOfMine (va_wsS RX3 81 yX3_has wsX3_has) := goodIn_app (goodIn_of _ (by decide +kernel)) ggX3_takeOutOfMine_X3_has
set_option maxRecDepth 20000 in
theorem ggX3_takeOutOfMine_X0_putSet : GoodIn wsX3_takeOutOfMine wsX0_putSet := goodIn_r _ [15, 16, 7, 17, 3, 4, 5, 6, 22, 23, 24, 25, 26] (by decide +kernel) (by decide +kernel)
set_option maxRecDepth 20000 in
theorem gX3_takeOutOfMine_X0_putSet : GoodIn wsX3_takeOutOfMine (wsV RX3 77 RX0 yX0_putSet wsX0_putSet) := goodIn_app (goodIn_of _ (by decide +kernel)) ggX3_takeOutOfMine_X0_putSet
theorem dX3_takeOutOfMine_0 : decode cX3_takeOutOfMine 0 = .ok (.iconst 0, 1) := by decide +kernel
theorem dX3_takeOutOfMine_1 : decode cX3_takeOutOfMine 1 = .ok (.istore 4, 2) := by decide +kernel
theorem dX3_takeOutOfMine_3 : decode cX3_takeOutOfMine 3 = .ok (.iconst 0, 1) := by decide +kernel
theorem dX3_takeOutOfMine_4 : decode cX3_takeOutOfMine 4 = .ok (.istore 5, 2) := by decide +kernel
theorem dX3_takeOutOfMine_6 : decode cX3_takeOutOfMine 6 = .ok (.iload 5, 2) := by decide +kernel
theorem dX3_takeOutOfMine_8 : decode cX3_takeOutOfMine 8 = .ok (.aload_n 0, 1) := by decide +kernel
theorem dX3_takeOutOfMine_9 : decode cX3_takeOutOfMine 9 = .ok (.getfield 12, 3) := by decide +kernel
theorem dX3_takeOutOfMine_12 : decode cX3_takeOutOfMine 12 = .ok (.getfield 46, 3) := by decide +kernel
theorem dX3_takeOutOfMine_15 : decode cX3_takeOutOfMine 15 = .ok (.if_icmp .ge 68, 3) := by decide +kernel
theorem dX3_takeOutOfMine_18 : decode cX3_takeOutOfMine 18 = .ok (.aload_n 0, 1) := by decide +kernel
theorem dX3_takeOutOfMine_19 : decode cX3_takeOutOfMine 19 = .ok (.getfield 12, 3) := by decide +kernel
theorem dX3_takeOutOfMine_22 : decode cX3_takeOutOfMine 22 = .ok (.iload 5, 2) := by decide +kernel
theorem dX3_takeOutOfMine_24 : decode cX3_takeOutOfMine 24 = .ok (.iconst 0, 1) := by decide +kernel
theorem dX3_takeOutOfMine_25 : decode cX3_takeOutOfMine 25 = .ok (.iload_n 2, 1) := by decide +kernel
theorem dX3_takeOutOfMine_26 : decode cX3_takeOutOfMine 26 = .ok (.invokevirtual 73, 3) := by decide +kernel
theorem dX3_takeOutOfMine_29 : decode cX3_takeOutOfMine 29 = .ok (.istore 6, 2) := by decide +kernel
theorem dX3_takeOutOfMine_31 : decode cX3_takeOutOfMine 31 = .ok (.iload_n 1, 1) := by decide +kernel
theorem dX3_takeOutOfMine_32 : decode cX3_takeOutOfMine 32 = .ok (.iload 5, 2) := by decide +kernel
theorem dX3_takeOutOfMine_34 : decode cX3_takeOutOfMine 34 = .ok (.invokestatic 81, 3) := by decide +kernel
theorem dX3_takeOutOfMine_37 : decode cX3_takeOutOfMine 37 = .ok (.ifCond .eq 40, 3) := by decide +kernel
theorem dX3_takeOutOfMine_40 : decode cX3_takeOutOfMine 40 = .ok (.iload 6, 2) := by decide +kernel
theorem dX3_takeOutOfMine_42 : decode cX3_takeOutOfMine 42 = .ok (.iload_n 3, 1) := by decide +kernel
theorem dX3_takeOutOfMine_43 : decode cX3_takeOutOfMine 43 = .ok (.invokestatic 81, 3) := by decide +kernel
theorem dX3_takeOutOfMine_46 : decode cX3_takeOutOfMine 46 = .ok (.ifCond .eq 31, 3) := by decide +kernel
theorem dX3_takeOutOfMine_49 : decode cX3_takeOutOfMine 49 = .ok (.aload_n 0, 1) := by decide +kernel
theorem dX3_takeOutOfMine_50 : decode cX3_takeOutOfMine 50 = .ok (.getfield 12, 3) := by decide +kernel
theorem dX3_takeOutOfMine_53 : decode cX3_takeOutOfMine 53 = .ok (.iload 5, 2) := by decide +kernel
theorem dX3_takeOutOfMine_55 : decode cX3_takeOutOfMine 55 = .ok (.iconst 0, 1) := by decide +kernel
theorem dX3_takeOutOfMine_56 : decode cX3_takeOutOfMine 56 = .ok (.iload_n 2, 1) := by decide +kernel
theorem dX3_takeOutOfMine_57 : decode cX3_takeOutOfMine 57 = .ok (.iload 6, 2) := by decide +kernel
theorem dX3_takeOutOfMine_59 : decode cX3_takeOutOfMine 59 = .ok (.iconst 1, 1) := by decide +kernel
theorem dX3_takeOutOfMine_60 : decode cX3_takeOutOfMine 60 = .ok (.iload_n 3, 1) := by decide +kernel
theorem dX3_takeOutOfMine_61 : decode cX3_takeOutOfMine 61 = .ok (.ishl, 1) := by decide +kernel
theorem dX3_takeOutOfMine_62 : decode cX3_takeOutOfMine 62 = .ok (.iconst (-1), 1) := by decide +kernel
theorem dX3_takeOutOfMine_63 : decode cX3_takeOutOfMine 63 = .ok (.ixor, 1) := by decide +kernel
theorem dX3_takeOutOfMine_64 : decode cX3_takeOutOfMine 64 = .ok (.iand, 1) := by decide +kernel
theorem dX3_takeOutOfMine_65 : decode cX3_takeOutOfMine 65 = .ok (.invokevirtual 77, 3) := by decide +kernel
theorem dX3_takeOutOfMine_68 : decode cX3_takeOutOfMine 68 = .ok (.iload 4, 2) := by decide +kernel
theorem dX3_takeOutOfMine_70 : decode cX3_takeOutOfMine 70 = .ok (.iconst 1, 1) := by decide +kernel
theorem dX3_takeOutOfMine_71 : decode cX3_takeOutOfMine 71 = .ok (.iload 5, 2) := by decide +kernel
theorem dX3_takeOutOfMine_73 : decode cX3_takeOutOfMine 73 = .ok (.ishl, 1) := by decide +kernel
theorem dX3_takeOutOfMine_74 : decode cX3_takeOutOfMine 74 = .ok (.ior, 1) := by decide +kernel
theorem dX3_takeOutOfMine_75 : decode cX3_takeOutOfMine 75 = .ok (.istore 4, 2) := by decide +kernel
theorem dX3_takeOutOfMine_77 : decode cX3_takeOutOfMine 77 = .ok (.iinc 5 1, 3) := by decide +kernel
theorem dX3_takeOutOfMine_80 : decode cX3_takeOutOfMine 80 = .ok (.goto (-74), 3) := by decide +kernel
theorem dX3_takeOutOfMine_83 : decode cX3_takeOutOfMine 83 = .ok (.iload 4, 2) := by decide +kernel
theorem dX3_takeOutOfMine_85 : decode cX3_takeOutOfMine 85 = .ok (.ireturn, 1) := by decide +kernel
set_option maxRecDepth 20000 in
theorem ggX3_scoreOf_X1_areTogether : GoodIn wsX3_scoreOf wsX1_areTogether := goodIn_r _ [7, 8, 9, 10, 11, 38, 39] (by decide +kernel) (by decide +kernel)
set_option maxRecDepth 20000 in
theorem gX3_scoreOf_X1_areTogether : GoodIn wsX3_scoreOf (wsV RX3 139 RX1 yX1_areTogether wsX1_areTogether) := goodIn_app (goodIn_of _ (by decide +kernel)) ggX3_scoreOf_X1_areTogether
set_option maxRecDepth 20000 in
theorem ggX3_scoreOf_X0_countShared : GoodIn wsX3_scoreOf wsX0_countShared := goodIn_r _ [16, 17, 18, 19, 15, 20, 21, 22, 23, 24, 25, 26, 27, 28, 40, 41, 42, 43, 44] (by decide +kernel) (by decide +kernel)
set_option maxRecDepth 20000 in
theorem gX3_scoreOf_X0_countShared : GoodIn wsX3_scoreOf (wsV RX3 192 RX0 yX0_countShared wsX0_countShared) := goodIn_app (goodIn_of _ (by decide +kernel)) ggX3_scoreOf_X0_countShared
set_option maxRecDepth 20000 in
theorem ggX3_scoreOf_X0_nameIn : GoodIn wsX3_scoreOf wsX0_nameIn := goodIn_r _ [32, 33, 40, 41, 42, 43, 44] (by decide +kernel) (by decide +kernel)
set_option maxRecDepth 20000 in
theorem gX3_scoreOf_X0_nameIn : GoodIn wsX3_scoreOf (wsV RX3 85 RX0 yX0_nameIn wsX0_nameIn) := goodIn_app (goodIn_of _ (by decide +kernel)) ggX3_scoreOf_X0_nameIn
theorem dX3_scoreOf_0 : decode cX3_scoreOf 0 = .ok (.aload_n 0, 1) := by decide +kernel
theorem dX3_scoreOf_1 : decode cX3_scoreOf 1 = .ok (.getfield 19, 3) := by decide +kernel
theorem dX3_scoreOf_4 : decode cX3_scoreOf 4 = .ok (.iload_n 1, 1) := by decide +kernel
theorem dX3_scoreOf_5 : decode cX3_scoreOf 5 = .ok (.iload_n 2, 1) := by decide +kernel
theorem dX3_scoreOf_6 : decode cX3_scoreOf 6 = .ok (.invokevirtual 139, 3) := by decide +kernel
theorem dX3_scoreOf_9 : decode cX3_scoreOf 9 = .ok (.ifCond .eq 5, 3) := by decide +kernel
theorem dX3_scoreOf_12 : decode cX3_scoreOf 12 = .ok (.iconst 0, 1) := by decide +kernel
theorem dX3_scoreOf_13 : decode cX3_scoreOf 13 = .ok (.ireturn, 1) := by decide +kernel
theorem dX3_scoreOf_14 : decode cX3_scoreOf 14 = .ok (.iconst 3, 1) := by decide +kernel
theorem dX3_scoreOf_15 : decode cX3_scoreOf 15 = .ok (.aload_n 0, 1) := by decide +kernel
theorem dX3_scoreOf_16 : decode cX3_scoreOf 16 = .ok (.getfield 12, 3) := by decide +kernel
theorem dX3_scoreOf_19 : decode cX3_scoreOf 19 = .ok (.iload_n 1, 1) := by decide +kernel
theorem dX3_scoreOf_20 : decode cX3_scoreOf 20 = .ok (.iload_n 2, 1) := by decide +kernel
theorem dX3_scoreOf_21 : decode cX3_scoreOf 21 = .ok (.iconst 0, 1) := by decide +kernel
theorem dX3_scoreOf_22 : decode cX3_scoreOf 22 = .ok (.invokevirtual 192, 3) := by decide +kernel
theorem dX3_scoreOf_25 : decode cX3_scoreOf 25 = .ok (.imul, 1) := by decide +kernel
theorem dX3_scoreOf_26 : decode cX3_scoreOf 26 = .ok (.iconst 2, 1) := by decide +kernel
theorem dX3_scoreOf_27 : decode cX3_scoreOf 27 = .ok (.aload_n 0, 1) := by decide +kernel
theorem dX3_scoreOf_28 : decode cX3_scoreOf 28 = .ok (.getfield 12, 3) := by decide +kernel
theorem dX3_scoreOf_31 : decode cX3_scoreOf 31 = .ok (.iload_n 1, 1) := by decide +kernel
theorem dX3_scoreOf_32 : decode cX3_scoreOf 32 = .ok (.iload_n 2, 1) := by decide +kernel
theorem dX3_scoreOf_33 : decode cX3_scoreOf 33 = .ok (.iconst 1, 1) := by decide +kernel
theorem dX3_scoreOf_34 : decode cX3_scoreOf 34 = .ok (.invokevirtual 192, 3) := by decide +kernel
theorem dX3_scoreOf_37 : decode cX3_scoreOf 37 = .ok (.imul, 1) := by decide +kernel
theorem dX3_scoreOf_38 : decode cX3_scoreOf 38 = .ok (.iadd, 1) := by decide +kernel
theorem dX3_scoreOf_39 : decode cX3_scoreOf 39 = .ok (.istore_n 3, 1) := by decide +kernel
theorem dX3_scoreOf_40 : decode cX3_scoreOf 40 = .ok (.aload_n 0, 1) := by decide +kernel
theorem dX3_scoreOf_41 : decode cX3_scoreOf 41 = .ok (.getfield 12, 3) := by decide +kernel
theorem dX3_scoreOf_44 : decode cX3_scoreOf 44 = .ok (.iload_n 1, 1) := by decide +kernel
theorem dX3_scoreOf_45 : decode cX3_scoreOf 45 = .ok (.iconst 0, 1) := by decide +kernel
theorem dX3_scoreOf_46 : decode cX3_scoreOf 46 = .ok (.invokevirtual 85, 3) := by decide +kernel
theorem dX3_scoreOf_49 : decode cX3_scoreOf 49 = .ok (.aload_n 0, 1) := by decide +kernel
theorem dX3_scoreOf_50 : decode cX3_scoreOf 50 = .ok (.getfield 12, 3) := by decide +kernel
theorem dX3_scoreOf_53 : decode cX3_scoreOf 53 = .ok (.iload_n 2, 1) := by decide +kernel
theorem dX3_scoreOf_54 : decode cX3_scoreOf 54 = .ok (.iconst 0, 1) := by decide +kernel
theorem dX3_scoreOf_55 : decode cX3_scoreOf 55 = .ok (.invokevirtual 85, 3) := by decide +kernel
theorem dX3_scoreOf_58 : decode cX3_scoreOf 58 = .ok (.if_icmp .ne 7, 3) := by decide +kernel
theorem dX3_scoreOf_61 : decode cX3_scoreOf 61 = .ok (.iconst 1, 1) := by decide +kernel
theorem dX3_scoreOf_62 : decode cX3_scoreOf 62 = .ok (.goto 4, 3) := by decide +kernel
theorem dX3_scoreOf_65 : decode cX3_scoreOf 65 = .ok (.iconst 0, 1) := by decide +kernel
theorem dX3_scoreOf_66 : decode cX3_scoreOf 66 = .ok (.istore 4, 2) := by decide +kernel
theorem dX3_scoreOf_68 : decode cX3_scoreOf 68 = .ok (.iload 4, 2) := by decide +kernel
theorem dX3_scoreOf_70 : decode cX3_scoreOf 70 = .ok (.ifCond .eq 9, 3) := by decide +kernel
theorem dX3_scoreOf_73 : decode cX3_scoreOf 73 = .ok (.iload_n 3, 1) := by decide +kernel
theorem dX3_scoreOf_74 : decode cX3_scoreOf 74 = .ok (.iconst 2, 1) := by decide +kernel
theorem dX3_scoreOf_75 : decode cX3_scoreOf 75 = .ok (.iadd, 1) := by decide +kernel
theorem dX3_scoreOf_76 : decode cX3_scoreOf 76 = .ok (.goto 4, 3) := by decide +kernel
theorem dX3_scoreOf_79 : decode cX3_scoreOf 79 = .ok (.iload_n 3, 1) := by decide +kernel
theorem dX3_scoreOf_80 : decode cX3_scoreOf 80 = .ok (.ireturn, 1) := by decide +kernel
set_option maxRecDepth 20000 in
theorem ggX3_suggestedScore_X0_mineChangesOf : GoodIn wsX3_suggestedScore wsX0_mineChangesOf := goodIn_r _ [7, 8, 55, 56, 57, 58, 59] (by decide +kernel) (by decide +kernel)
set_option maxRecDepth 20000 in
theorem gX3_suggestedScore_X0_mineChangesOf : GoodIn wsX3_suggestedScore (wsV RX3 177 RX0 yX0_mineChangesOf wsX0_mineChangesOf) := goodIn_app (goodIn_of _ (by decide +kernel)) ggX3_suggestedScore_X0_mineChangesOf
set_option maxRecDepth 20000 in
theorem ggX3_suggestedScore_X2_stands : GoodIn wsX3_suggestedScore wsX2_stands := goodIn_r _ [13, 14, 15, 16, 17, 18, 60, 61] (by decide +kernel) (by decide +kernel)
set_option maxRecDepth 20000 in
theorem gX3_suggestedScore_X2_stands : GoodIn wsX3_suggestedScore (wsV RX3 195 RX2 yX2_stands wsX2_stands) := goodIn_app (goodIn_of _ (by decide +kernel)) ggX3_suggestedScore_X2_stands
set_option maxRecDepth 20000 in
theorem ggX3_suggestedScore_X3_scoreOf : GoodIn wsX3_suggestedScore wsX3_scoreOf := goodIn_r _ [22, 23, 2, 24, 25, 26, 27, 28, 29, 16, 17, 18, 30, 31, 32, 6, 33, 34, 35, 36, 37, 38, 39, 40, 41, 42, 43, 44, 45, 46, 47, 48, 49, 50, 51, 52, 53, 54, 62, 63, 55, 56, 57, 58, 59] (by decide +kernel) (by decide +kernel)
set_option maxRecDepth 20000 in
theorem gX3_suggestedScore_X3_scoreOf : GoodIn wsX3_suggestedScore (wsV RX3 154 RX3 yX3_scoreOf wsX3_scoreOf) := goodIn_app (goodIn_of _ (by decide +kernel)) ggX3_suggestedScore_X3_scoreOf
theorem dX3_suggestedScore_0 : decode cX3_suggestedScore 0 = .ok (.aload_n 0, 1) := by decide +kernel
theorem dX3_suggestedScore_1 : decode cX3_suggestedScore 1 = .ok (.getfield 26, 3) := by decide +kernel
theorem dX3_suggestedScore_4 : decode cX3_suggestedScore 4 = .ok (.iload_n 1, 1) := by decide +kernel
theorem dX3_suggestedScore_5 : decode cX3_suggestedScore 5 = .ok (.iload_n 2, 1) := by decide +kernel
theorem dX3_suggestedScore_6 : decode cX3_suggestedScore 6 = .ok (.aload_n 0, 1) := by decide +kernel
theorem dX3_suggestedScore_7 : decode cX3_suggestedScore 7 = .ok (.getfield 12, 3) := by decide +kernel
theorem dX3_suggestedScore_10 : decode cX3_suggestedScore 10 = .ok (.iload_n 1, 1) := by decide +kernel
theorem dX3_suggestedScore_11 : decode cX3_suggestedScore 11 = .ok (.iload_n 2, 1) := by decide +kernel
theorem dX3_suggestedScore_12 : decode cX3_suggestedScore 12 = .ok (.invokevirtual 177, 3) := by decide +kernel
theorem dX3_suggestedScore_15 : decode cX3_suggestedScore 15 = .ok (.invokevirtual 195, 3) := by decide +kernel
theorem dX3_suggestedScore_18 : decode cX3_suggestedScore 18 = .ok (.ifCond .eq 5, 3) := by decide +kernel
theorem dX3_suggestedScore_21 : decode cX3_suggestedScore 21 = .ok (.iconst 0, 1) := by decide +kernel
theorem dX3_suggestedScore_22 : decode cX3_suggestedScore 22 = .ok (.ireturn, 1) := by decide +kernel
theorem dX3_suggestedScore_23 : decode cX3_suggestedScore 23 = .ok (.aload_n 0, 1) := by decide +kernel
theorem dX3_suggestedScore_24 : decode cX3_suggestedScore 24 = .ok (.iload_n 1, 1) := by decide +kernel
theorem dX3_suggestedScore_25 : decode cX3_suggestedScore 25 = .ok (.iload_n 2, 1) := by decide +kernel
theorem dX3_suggestedScore_26 : decode cX3_suggestedScore 26 = .ok (.invokevirtual 154, 3) := by decide +kernel
theorem dX3_suggestedScore_29 : decode cX3_suggestedScore 29 = .ok (.ireturn, 1) := by decide +kernel
set_option maxRecDepth 20000 in
theorem ggX3_tallyPairs_X3_suggestedScore : GoodIn wsX3_tallyPairs wsX3_suggestedScore := goodIn_r _ [7, 8, 2, 9, 10, 11, 12, 13, 14, 15, 16, 17, 18, 19, 20, 21, 22, 6, 23, 24, 25, 26, 27, 28, 29, 30, 31, 32, 33, 34, 35, 36, 37, 38, 39, 40, 41, 42, 43, 44, 45, 46, 47, 48, 49, 50, 51, 52, 53, 54, 55, 56, 57, 58, 59, 60, 61, 62, 63, 64, 65, 66, 67, 68] (by decide +kernel) (by decide +kernel)
set_option maxRecDepth 20000 in
theorem gX3_tallyPairs_X3_suggestedScore : GoodIn wsX3_tallyPairs (wsV RX3 169 RX3 yX3_suggestedScore wsX3_suggestedScore) := goodIn_app (goodIn_of _ (by decide +kernel)) ggX3_tallyPairs_X3_suggestedScore
theorem dX3_tallyPairs_0 : decode cX3_tallyPairs 0 = .ok (.iconst 0, 1) := by decide +kernel
theorem dX3_tallyPairs_1 : decode cX3_tallyPairs 1 = .ok (.istore_n 1, 1) := by decide +kernel
theorem dX3_tallyPairs_2 : decode cX3_tallyPairs 2 = .ok (.iload_n 1, 1) := by decide +kernel
theorem dX3_tallyPairs_3 : decode cX3_tallyPairs 3 = .ok (.sipush 152, 3) := by decide +kernel
theorem dX3_tallyPairs_6 : decode cX3_tallyPairs 6 = .ok (.if_icmp .gt 16, 3) := by decide +kernel
theorem dX3_tallyPairs_9 : decode cX3_tallyPairs 9 = .ok (.aload_n 0, 1) := by decide +kernel
theorem dX3_tallyPairs_10 : decode cX3_tallyPairs 10 = .ok (.getfield 30, 3) := by decide +kernel
theorem dX3_tallyPairs_13 : decode cX3_tallyPairs 13 = .ok (.iload_n 1, 1) := by decide +kernel
theorem dX3_tallyPairs_14 : decode cX3_tallyPairs 14 = .ok (.iconst 0, 1) := by decide +kernel
theorem dX3_tallyPairs_15 : decode cX3_tallyPairs 15 = .ok (.iastore, 1) := by decide +kernel
theorem dX3_tallyPairs_16 : decode cX3_tallyPairs 16 = .ok (.iinc 1 1, 3) := by decide +kernel
theorem dX3_tallyPairs_19 : decode cX3_tallyPairs 19 = .ok (.goto (-17), 3) := by decide +kernel
theorem dX3_tallyPairs_22 : decode cX3_tallyPairs 22 = .ok (.iconst 0, 1) := by decide +kernel
theorem dX3_tallyPairs_23 : decode cX3_tallyPairs 23 = .ok (.istore_n 1, 1) := by decide +kernel
theorem dX3_tallyPairs_24 : decode cX3_tallyPairs 24 = .ok (.iconst 0, 1) := by decide +kernel
theorem dX3_tallyPairs_25 : decode cX3_tallyPairs 25 = .ok (.istore_n 2, 1) := by decide +kernel
theorem dX3_tallyPairs_26 : decode cX3_tallyPairs 26 = .ok (.iload_n 2, 1) := by decide +kernel
theorem dX3_tallyPairs_27 : decode cX3_tallyPairs 27 = .ok (.aload_n 0, 1) := by decide +kernel
theorem dX3_tallyPairs_28 : decode cX3_tallyPairs 28 = .ok (.getfield 12, 3) := by decide +kernel
theorem dX3_tallyPairs_31 : decode cX3_tallyPairs 31 = .ok (.getfield 46, 3) := by decide +kernel
theorem dX3_tallyPairs_34 : decode cX3_tallyPairs 34 = .ok (.if_icmp .ge 65, 3) := by decide +kernel
theorem dX3_tallyPairs_37 : decode cX3_tallyPairs 37 = .ok (.iload_n 2, 1) := by decide +kernel
theorem dX3_tallyPairs_38 : decode cX3_tallyPairs 38 = .ok (.iconst 1, 1) := by decide +kernel
theorem dX3_tallyPairs_39 : decode cX3_tallyPairs 39 = .ok (.iadd, 1) := by decide +kernel
theorem dX3_tallyPairs_40 : decode cX3_tallyPairs 40 = .ok (.istore_n 3, 1) := by decide +kernel
theorem dX3_tallyPairs_41 : decode cX3_tallyPairs 41 = .ok (.iload_n 3, 1) := by decide +kernel
theorem dX3_tallyPairs_42 : decode cX3_tallyPairs 42 = .ok (.aload_n 0, 1) := by decide +kernel
theorem dX3_tallyPairs_43 : decode cX3_tallyPairs 43 = .ok (.getfield 12, 3) := by decide +kernel
theorem dX3_tallyPairs_46 : decode cX3_tallyPairs 46 = .ok (.getfield 46, 3) := by decide +kernel
theorem dX3_tallyPairs_49 : decode cX3_tallyPairs 49 = .ok (.if_icmp .ge 44, 3) := by decide +kernel
theorem dX3_tallyPairs_52 : decode cX3_tallyPairs 52 = .ok (.aload_n 0, 1) := by decide +kernel
theorem dX3_tallyPairs_53 : decode cX3_tallyPairs 53 = .ok (.iload_n 2, 1) := by decide +kernel
theorem dX3_tallyPairs_54 : decode cX3_tallyPairs 54 = .ok (.iload_n 3, 1) := by decide +kernel
theorem dX3_tallyPairs_55 : decode cX3_tallyPairs 55 = .ok (.invokevirtual 169, 3) := by decide +kernel
theorem dX3_tallyPairs_58 : decode cX3_tallyPairs 58 = .ok (.istore 4, 2) := by decide +kernel
theorem dX3_tallyPairs_60 : decode cX3_tallyPairs 60 = .ok (.iload 4, 2) := by decide +kernel
theorem dX3_tallyPairs_62 : decode cX3_tallyPairs 62 = .ok (.ifCond .le 25, 3) := by decide +kernel
theorem dX3_tallyPairs_65 : decode cX3_tallyPairs 65 = .ok (.iload 4, 2) := by decide +kernel
theorem dX3_tallyPairs_67 : decode cX3_tallyPairs 67 = .ok (.sipush 152, 3) := by decide +kernel
theorem dX3_tallyPairs_70 : decode cX3_tallyPairs 70 = .ok (.if_icmp .gt 17, 3) := by decide +kernel
theorem dX3_tallyPairs_73 : decode cX3_tallyPairs 73 = .ok (.aload_n 0, 1) := by decide +kernel
theorem dX3_tallyPairs_74 : decode cX3_tallyPairs 74 = .ok (.getfield 30, 3) := by decide +kernel
theorem dX3_tallyPairs_77 : decode cX3_tallyPairs 77 = .ok (.iload 4, 2) := by decide +kernel
theorem dX3_tallyPairs_79 : decode cX3_tallyPairs 79 = .ok (.dup2, 1) := by decide +kernel
theorem dX3_tallyPairs_80 : decode cX3_tallyPairs 80 = .ok (.iaload, 1) := by decide +kernel
theorem dX3_tallyPairs_81 : decode cX3_tallyPairs 81 = .ok (.iconst 1, 1) := by decide +kernel
theorem dX3_tallyPairs_82 : decode cX3_tallyPairs 82 = .ok (.iadd, 1) := by decide +kernel
theorem dX3_tallyPairs_83 : decode cX3_tallyPairs 83 = .ok (.iastore, 1) := by decide +kernel
theorem dX3_tallyPairs_84 : decode cX3_tallyPairs 84 = .ok (.iinc 1 1, 3) := by decide +kernel
theorem dX3_tallyPairs_87 : decode cX3_tallyPairs 87 = .ok (.iinc 3 1, 3) := by decide +kernel
theorem dX3_tallyPairs_90 : decode cX3_tallyPairs 90 = .ok (.goto (-49), 3) := by decide +kernel
theorem dX3_tallyPairs_93 : decode cX3_tallyPairs 93 = .ok (.iinc 2 1, 3) := by decide +kernel
theorem dX3_tallyPairs_96 : decode cX3_tallyPairs 96 = .ok (.goto (-70), 3) := by decide +kernel
theorem dX3_tallyPairs_99 : decode cX3_tallyPairs 99 = .ok (.iload_n 1, 1) := by decide +kernel
theorem dX3_tallyPairs_100 : decode cX3_tallyPairs 100 = .ok (.ireturn, 1) := by decide +kernel
set_option maxRecDepth 20000 in
theorem ggX3_pairOfScore_X3_suggestedScore : GoodIn wsX3_pairOfScore wsX3_suggestedScore := goodIn_r _ [6, 7, 1, 8, 9, 10, 11, 12, 13, 14, 15, 16, 17, 18, 19, 20, 21, 5, 22, 23, 24, 25, 26, 27, 28, 29, 30, 31, 32, 33, 34, 35, 36, 37, 38, 39, 40, 41, 42, 43, 44, 45, 46, 47, 48, 49, 50, 51, 52, 53, 54, 55, 56, 57, 58, 59, 60, 61, 62, 63, 64, 65, 66, 67] (by decide +kernel) (by decide +kernel)
set_option maxRecDepth 20000 in
theorem gX3_pairOfScore_X3_suggestedScore : GoodIn wsX3_pairOfScore (wsV RX3 169 RX3 yX3_suggestedScore wsX3_suggestedScore) := goodIn_app (goodIn_of _ (by decide +kernel)) ggX3_pairOfScore_X3_suggestedScore
theorem dX3_pairOfScore_0 : decode cX3_pairOfScore 0 = .ok (.iload_n 2, 1) := by decide +kernel
theorem dX3_pairOfScore_1 : decode cX3_pairOfScore 1 = .ok (.istore_n 3, 1) := by decide +kernel
theorem dX3_pairOfScore_2 : decode cX3_pairOfScore 2 = .ok (.iconst 0, 1) := by decide +kernel
theorem dX3_pairOfScore_3 : decode cX3_pairOfScore 3 = .ok (.istore 4, 2) := by decide +kernel
theorem dX3_pairOfScore_5 : decode cX3_pairOfScore 5 = .ok (.iload 4, 2) := by decide +kernel
theorem dX3_pairOfScore_7 : decode cX3_pairOfScore 7 = .ok (.aload_n 0, 1) := by decide +kernel
theorem dX3_pairOfScore_8 : decode cX3_pairOfScore 8 = .ok (.getfield 12, 3) := by decide +kernel
theorem dX3_pairOfScore_11 : decode cX3_pairOfScore 11 = .ok (.getfield 46, 3) := by decide +kernel
theorem dX3_pairOfScore_14 : decode cX3_pairOfScore 14 = .ok (.if_icmp .ge 61, 3) := by decide +kernel
theorem dX3_pairOfScore_17 : decode cX3_pairOfScore 17 = .ok (.iload 4, 2) := by decide +kernel
theorem dX3_pairOfScore_19 : decode cX3_pairOfScore 19 = .ok (.iconst 1, 1) := by decide +kernel
theorem dX3_pairOfScore_20 : decode cX3_pairOfScore 20 = .ok (.iadd, 1) := by decide +kernel
theorem dX3_pairOfScore_21 : decode cX3_pairOfScore 21 = .ok (.istore 5, 2) := by decide +kernel
theorem dX3_pairOfScore_23 : decode cX3_pairOfScore 23 = .ok (.iload 5, 2) := by decide +kernel
theorem dX3_pairOfScore_25 : decode cX3_pairOfScore 25 = .ok (.aload_n 0, 1) := by decide +kernel
theorem dX3_pairOfScore_26 : decode cX3_pairOfScore 26 = .ok (.getfield 12, 3) := by decide +kernel
theorem dX3_pairOfScore_29 : decode cX3_pairOfScore 29 = .ok (.getfield 46, 3) := by decide +kernel
theorem dX3_pairOfScore_32 : decode cX3_pairOfScore 32 = .ok (.if_icmp .ge 37, 3) := by decide +kernel
theorem dX3_pairOfScore_35 : decode cX3_pairOfScore 35 = .ok (.aload_n 0, 1) := by decide +kernel
theorem dX3_pairOfScore_36 : decode cX3_pairOfScore 36 = .ok (.iload 4, 2) := by decide +kernel
theorem dX3_pairOfScore_38 : decode cX3_pairOfScore 38 = .ok (.iload 5, 2) := by decide +kernel
theorem dX3_pairOfScore_40 : decode cX3_pairOfScore 40 = .ok (.invokevirtual 169, 3) := by decide +kernel
theorem dX3_pairOfScore_43 : decode cX3_pairOfScore 43 = .ok (.iload_n 1, 1) := by decide +kernel
theorem dX3_pairOfScore_44 : decode cX3_pairOfScore 44 = .ok (.if_icmp .ne 19, 3) := by decide +kernel
theorem dX3_pairOfScore_47 : decode cX3_pairOfScore 47 = .ok (.iload_n 3, 1) := by decide +kernel
theorem dX3_pairOfScore_48 : decode cX3_pairOfScore 48 = .ok (.ifCond .ne 12, 3) := by decide +kernel
theorem dX3_pairOfScore_51 : decode cX3_pairOfScore 51 = .ok (.bipush 100, 2) := by decide +kernel
theorem dX3_pairOfScore_53 : decode cX3_pairOfScore 53 = .ok (.iload 4, 2) := by decide +kernel
theorem dX3_pairOfScore_55 : decode cX3_pairOfScore 55 = .ok (.imul, 1) := by decide +kernel
theorem dX3_pairOfScore_56 : decode cX3_pairOfScore 56 = .ok (.iload 5, 2) := by decide +kernel
theorem dX3_pairOfScore_58 : decode cX3_pairOfScore 58 = .ok (.iadd, 1) := by decide +kernel
theorem dX3_pairOfScore_59 : decode cX3_pairOfScore 59 = .ok (.ireturn, 1) := by decide +kernel
theorem dX3_pairOfScore_60 : decode cX3_pairOfScore 60 = .ok (.iinc 3 (-1), 3) := by decide +kernel
theorem dX3_pairOfScore_63 : decode cX3_pairOfScore 63 = .ok (.iinc 5 1, 3) := by decide +kernel
theorem dX3_pairOfScore_66 : decode cX3_pairOfScore 66 = .ok (.goto (-43), 3) := by decide +kernel
theorem dX3_pairOfScore_69 : decode cX3_pairOfScore 69 = .ok (.iinc 4 1, 3) := by decide +kernel
theorem dX3_pairOfScore_72 : decode cX3_pairOfScore 72 = .ok (.goto (-67), 3) := by decide +kernel
theorem dX3_pairOfScore_75 : decode cX3_pairOfScore 75 = .ok (.iconst (-1), 1) := by decide +kernel
theorem dX3_pairOfScore_76 : decode cX3_pairOfScore 76 = .ok (.ireturn, 1) := by decide +kernel
theorem dJ6_bitCount_0f7a4_0 : decode cJ6_bitCount_0f7a4 0 = .ok (.iload_n 0, 1) := by decide +kernel
theorem dJ6_bitCount_0f7a4_1 : decode cJ6_bitCount_0f7a4 1 = .ok (.iload_n 0, 1) := by decide +kernel
theorem dJ6_bitCount_0f7a4_2 : decode cJ6_bitCount_0f7a4 2 = .ok (.iconst 1, 1) := by decide +kernel
theorem dJ6_bitCount_0f7a4_3 : decode cJ6_bitCount_0f7a4 3 = .ok (.iushr, 1) := by decide +kernel
theorem dJ6_bitCount_0f7a4_4 : decode cJ6_bitCount_0f7a4 4 = .ok (.ldc_w 265, 3) := by decide +kernel
theorem dJ6_bitCount_0f7a4_7 : decode cJ6_bitCount_0f7a4 7 = .ok (.iand, 1) := by decide +kernel
theorem dJ6_bitCount_0f7a4_8 : decode cJ6_bitCount_0f7a4 8 = .ok (.isub, 1) := by decide +kernel
theorem dJ6_bitCount_0f7a4_9 : decode cJ6_bitCount_0f7a4 9 = .ok (.istore_n 0, 1) := by decide +kernel
theorem dJ6_bitCount_0f7a4_10 : decode cJ6_bitCount_0f7a4 10 = .ok (.iload_n 0, 1) := by decide +kernel
theorem dJ6_bitCount_0f7a4_11 : decode cJ6_bitCount_0f7a4 11 = .ok (.ldc_w 266, 3) := by decide +kernel
theorem dJ6_bitCount_0f7a4_14 : decode cJ6_bitCount_0f7a4 14 = .ok (.iand, 1) := by decide +kernel
theorem dJ6_bitCount_0f7a4_15 : decode cJ6_bitCount_0f7a4 15 = .ok (.iload_n 0, 1) := by decide +kernel
theorem dJ6_bitCount_0f7a4_16 : decode cJ6_bitCount_0f7a4 16 = .ok (.iconst 2, 1) := by decide +kernel
theorem dJ6_bitCount_0f7a4_17 : decode cJ6_bitCount_0f7a4 17 = .ok (.iushr, 1) := by decide +kernel
theorem dJ6_bitCount_0f7a4_18 : decode cJ6_bitCount_0f7a4 18 = .ok (.ldc_w 266, 3) := by decide +kernel
theorem dJ6_bitCount_0f7a4_21 : decode cJ6_bitCount_0f7a4 21 = .ok (.iand, 1) := by decide +kernel
theorem dJ6_bitCount_0f7a4_22 : decode cJ6_bitCount_0f7a4 22 = .ok (.iadd, 1) := by decide +kernel
theorem dJ6_bitCount_0f7a4_23 : decode cJ6_bitCount_0f7a4 23 = .ok (.istore_n 0, 1) := by decide +kernel
theorem dJ6_bitCount_0f7a4_24 : decode cJ6_bitCount_0f7a4 24 = .ok (.iload_n 0, 1) := by decide +kernel
theorem dJ6_bitCount_0f7a4_25 : decode cJ6_bitCount_0f7a4 25 = .ok (.iload_n 0, 1) := by decide +kernel
theorem dJ6_bitCount_0f7a4_26 : decode cJ6_bitCount_0f7a4 26 = .ok (.iconst 4, 1) := by decide +kernel
theorem dJ6_bitCount_0f7a4_27 : decode cJ6_bitCount_0f7a4 27 = .ok (.iushr, 1) := by decide +kernel
theorem dJ6_bitCount_0f7a4_28 : decode cJ6_bitCount_0f7a4 28 = .ok (.iadd, 1) := by decide +kernel
theorem dJ6_bitCount_0f7a4_29 : decode cJ6_bitCount_0f7a4 29 = .ok (.ldc_w 267, 3) := by decide +kernel
theorem dJ6_bitCount_0f7a4_32 : decode cJ6_bitCount_0f7a4 32 = .ok (.iand, 1) := by decide +kernel
theorem dJ6_bitCount_0f7a4_33 : decode cJ6_bitCount_0f7a4 33 = .ok (.istore_n 0, 1) := by decide +kernel
theorem dJ6_bitCount_0f7a4_34 : decode cJ6_bitCount_0f7a4 34 = .ok (.iload_n 0, 1) := by decide +kernel
theorem dJ6_bitCount_0f7a4_35 : decode cJ6_bitCount_0f7a4 35 = .ok (.iload_n 0, 1) := by decide +kernel
theorem dJ6_bitCount_0f7a4_36 : decode cJ6_bitCount_0f7a4 36 = .ok (.bipush 8, 2) := by decide +kernel
theorem dJ6_bitCount_0f7a4_38 : decode cJ6_bitCount_0f7a4 38 = .ok (.iushr, 1) := by decide +kernel
theorem dJ6_bitCount_0f7a4_39 : decode cJ6_bitCount_0f7a4 39 = .ok (.iadd, 1) := by decide +kernel
theorem dJ6_bitCount_0f7a4_40 : decode cJ6_bitCount_0f7a4 40 = .ok (.istore_n 0, 1) := by decide +kernel
theorem dJ6_bitCount_0f7a4_41 : decode cJ6_bitCount_0f7a4 41 = .ok (.iload_n 0, 1) := by decide +kernel
theorem dJ6_bitCount_0f7a4_42 : decode cJ6_bitCount_0f7a4 42 = .ok (.iload_n 0, 1) := by decide +kernel
theorem dJ6_bitCount_0f7a4_43 : decode cJ6_bitCount_0f7a4 43 = .ok (.bipush 16, 2) := by decide +kernel
theorem dJ6_bitCount_0f7a4_45 : decode cJ6_bitCount_0f7a4 45 = .ok (.iushr, 1) := by decide +kernel
theorem dJ6_bitCount_0f7a4_46 : decode cJ6_bitCount_0f7a4 46 = .ok (.iadd, 1) := by decide +kernel
theorem dJ6_bitCount_0f7a4_47 : decode cJ6_bitCount_0f7a4 47 = .ok (.istore_n 0, 1) := by decide +kernel
theorem dJ6_bitCount_0f7a4_48 : decode cJ6_bitCount_0f7a4 48 = .ok (.iload_n 0, 1) := by decide +kernel
theorem dJ6_bitCount_0f7a4_49 : decode cJ6_bitCount_0f7a4 49 = .ok (.bipush 63, 2) := by decide +kernel
theorem dJ6_bitCount_0f7a4_51 : decode cJ6_bitCount_0f7a4 51 = .ok (.iand, 1) := by decide +kernel
theorem dJ6_bitCount_0f7a4_52 : decode cJ6_bitCount_0f7a4 52 = .ok (.ireturn, 1) := by decide +kernel
