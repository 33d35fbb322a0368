theorem dX0_init_0 : decode cX0_init 0 = .ok (.aload_n 0, 1) := by decide +kernel
theorem dX0_init_1 : decode cX0_init 1 = .ok (.invokespecial 3, 3) := by decide +kernel
theorem dX0_init_4 : decode cX0_init 4 = .ok (.aload_n 0, 1) := by decide +kernel
theorem dX0_init_5 : decode cX0_init 5 = .ok (.iload_n 1, 1) := by decide +kernel
theorem dX0_init_6 : decode cX0_init 6 = .ok (.putfield 9, 3) := by decide +kernel
theorem dX0_init_9 : decode cX0_init 9 = .ok (.aload_n 0, 1) := by decide +kernel
theorem dX0_init_10 : decode cX0_init 10 = .ok (.iload_n 2, 1) := by decide +kernel
theorem dX0_init_11 : decode cX0_init 11 = .ok (.putfield 15, 3) := by decide +kernel
theorem dX0_init_14 : decode cX0_init 14 = .ok (.aload_n 0, 1) := by decide +kernel
theorem dX0_init_15 : decode cX0_init 15 = .ok (.iload_n 3, 1) := by decide +kernel
theorem dX0_init_16 : decode cX0_init 16 = .ok (.putfield 18, 3) := by decide +kernel
theorem dX0_init_19 : decode cX0_init 19 = .ok (.aload_n 0, 1) := by decide +kernel
theorem dX0_init_20 : decode cX0_init 20 = .ok (.iload 4, 2) := by decide +kernel
theorem dX0_init_22 : decode cX0_init 22 = .ok (.putfield 21, 3) := by decide +kernel
theorem dX0_init_25 : decode cX0_init 25 = .ok (.aload_n 0, 1) := by decide +kernel
theorem dX0_init_26 : decode cX0_init 26 = .ok (.iload 5, 2) := by decide +kernel
theorem dX0_init_28 : decode cX0_init 28 = .ok (.putfield 24, 3) := by decide +kernel
theorem dX0_init_31 : decode cX0_init 31 = .ok (.aload_n 0, 1) := by decide +kernel
theorem dX0_init_32 : decode cX0_init 32 = .ok (.iconst 0, 1) := by decide +kernel
theorem dX0_init_33 : decode cX0_init 33 = .ok (.putfield 27, 3) := by decide +kernel
theorem dX0_init_36 : decode cX0_init 36 = .ok (.return_, 1) := by decide +kernel
theorem dX0_covers_0 : decode cX0_covers 0 = .ok (.iload_n 1, 1) := by decide +kernel
theorem dX0_covers_1 : decode cX0_covers 1 = .ok (.aload_n 0, 1) := by decide +kernel
theorem dX0_covers_2 : decode cX0_covers 2 = .ok (.getfield 15, 3) := by decide +kernel
theorem dX0_covers_5 : decode cX0_covers 5 = .ok (.if_icmp .lt 15, 3) := by decide +kernel
theorem dX0_covers_8 : decode cX0_covers 8 = .ok (.iload_n 1, 1) := by decide +kernel
theorem dX0_covers_9 : decode cX0_covers 9 = .ok (.aload_n 0, 1) := by decide +kernel
theorem dX0_covers_10 : decode cX0_covers 10 = .ok (.getfield 18, 3) := by decide +kernel
theorem dX0_covers_13 : decode cX0_covers 13 = .ok (.if_icmp .ge 7, 3) := by decide +kernel
theorem dX0_covers_16 : decode cX0_covers 16 = .ok (.iconst 1, 1) := by decide +kernel
theorem dX0_covers_17 : decode cX0_covers 17 = .ok (.goto 4, 3) := by decide +kernel
theorem dX0_covers_20 : decode cX0_covers 20 = .ok (.iconst 0, 1) := by decide +kernel
theorem dX0_covers_21 : decode cX0_covers 21 = .ok (.ireturn, 1) := by decide +kernel
theorem dX0_overlaps_0 : decode cX0_overlaps 0 = .ok (.aload_n 0, 1) := by decide +kernel
theorem dX0_overlaps_1 : decode cX0_overlaps 1 = .ok (.getfield 15, 3) := by decide +kernel
theorem dX0_overlaps_4 : decode cX0_overlaps 4 = .ok (.aload_n 1, 1) := by decide +kernel
theorem dX0_overlaps_5 : decode cX0_overlaps 5 = .ok (.getfield 18, 3) := by decide +kernel
theorem dX0_overlaps_8 : decode cX0_overlaps 8 = .ok (.if_icmp .ge 18, 3) := by decide +kernel
theorem dX0_overlaps_11 : decode cX0_overlaps 11 = .ok (.aload_n 1, 1) := by decide +kernel
theorem dX0_overlaps_12 : decode cX0_overlaps 12 = .ok (.getfield 15, 3) := by decide +kernel
theorem dX0_overlaps_15 : decode cX0_overlaps 15 = .ok (.aload_n 0, 1) := by decide +kernel
theorem dX0_overlaps_16 : decode cX0_overlaps 16 = .ok (.getfield 18, 3) := by decide +kernel
theorem dX0_overlaps_19 : decode cX0_overlaps 19 = .ok (.if_icmp .ge 7, 3) := by decide +kernel
theorem dX0_overlaps_22 : decode cX0_overlaps 22 = .ok (.iconst 1, 1) := by decide +kernel
theorem dX0_overlaps_23 : decode cX0_overlaps 23 = .ok (.goto 4, 3) := by decide +kernel
theorem dX0_overlaps_26 : decode cX0_overlaps 26 = .ok (.iconst 0, 1) := by decide +kernel
theorem dX0_overlaps_27 : decode cX0_overlaps 27 = .ok (.ireturn, 1) := by decide +kernel
theorem dX0_leaves_0 : decode cX0_leaves 0 = .ok (.aload_n 0, 1) := by decide +kernel
theorem dX0_leaves_1 : decode cX0_leaves 1 = .ok (.getfield 21, 3) := by decide +kernel
theorem dX0_leaves_4 : decode cX0_leaves 4 = .ok (.lookupswitch 35 #[(1, 28), (2, 30)], 28) := by decide +kernel
theorem dX0_leaves_32 : decode cX0_leaves 32 = .ok (.iconst 2, 1) := by decide +kernel
theorem dX0_leaves_33 : decode cX0_leaves 33 = .ok (.ireturn, 1) := by decide +kernel
theorem dX0_leaves_34 : decode cX0_leaves 34 = .ok (.aload_n 0, 1) := by decide +kernel
theorem dX0_leaves_35 : decode cX0_leaves 35 = .ok (.getfield 24, 3) := by decide +kernel
theorem dX0_leaves_38 : decode cX0_leaves 38 = .ok (.ireturn, 1) := by decide +kernel
theorem dX0_leaves_39 : decode cX0_leaves 39 = .ok (.iconst 1, 1) := by decide +kernel
theorem dX0_leaves_40 : decode cX0_leaves 40 = .ok (.ireturn, 1) := by decide +kernel
set_option maxRecDepth 20000 in
theorem ggX0_leafFor_X3_hasSort : GoodIn wsX0_leafFor wsX3_hasSort := goodIn_r _ [5] (by decide +kernel) (by decide +kernel)
set_option maxRecDepth 20000 in
theorem gX0_leafFor_X3_hasSort_n30 : GoodIn wsX0_leafFor (wsX3_hasSort) := ggX0_leafFor_X3_hasSort
set_option maxRecDepth 20000 in
theorem ggX0_leafFor_X0_leafByHash : GoodIn wsX0_leafFor wsX0_leafByHash := goodIn_r _ [10, 2, 11, 12, 13, 14, 15, 16] (by decide +kernel) (by decide +kernel)
set_option maxRecDepth 20000 in
theorem gX0_leafFor_X0_leafByHash : GoodIn wsX0_leafFor (wsV RX0 34 RX0 yX0_leafByHash wsX0_leafByHash) := goodIn_app (goodIn_of _ (by decide +kernel)) ggX0_leafFor_X0_leafByHash
theorem dX0_leafFor_0 : decode cX0_leafFor 0 = .ok (.aload_n 0, 1) := by decide +kernel
theorem dX0_leafFor_1 : decode cX0_leafFor 1 = .ok (.getfield 21, 3) := by decide +kernel
theorem dX0_leafFor_4 : decode cX0_leafFor 4 = .ok (.lookupswitch 51 #[(1, 28), (2, 45)], 28) := by decide +kernel
theorem dX0_leafFor_32 : decode cX0_leafFor 32 = .ok (.aload_n 0, 1) := by decide +kernel
theorem dX0_leafFor_33 : decode cX0_leafFor 33 = .ok (.getfield 24, 3) := by decide +kernel
theorem dX0_leafFor_36 : decode cX0_leafFor 36 = .ok (.iload_n 2, 1) := by decide +kernel
theorem dX0_leafFor_37 : decode cX0_leafFor 37 = .ok (.invokestatic 30, 3) := by decide +kernel
theorem dX0_leafFor_40 : decode cX0_leafFor 40 = .ok (.ifCond .eq 7, 3) := by decide +kernel
theorem dX0_leafFor_43 : decode cX0_leafFor 43 = .ok (.iconst 0, 1) := by decide +kernel
theorem dX0_leafFor_44 : decode cX0_leafFor 44 = .ok (.goto 4, 3) := by decide +kernel
theorem dX0_leafFor_47 : decode cX0_leafFor 47 = .ok (.iconst 1, 1) := by decide +kernel
theorem dX0_leafFor_48 : decode cX0_leafFor 48 = .ok (.ireturn, 1) := by decide +kernel
theorem dX0_leafFor_49 : decode cX0_leafFor 49 = .ok (.aload_n 0, 1) := by decide +kernel
theorem dX0_leafFor_50 : decode cX0_leafFor 50 = .ok (.iload_n 1, 1) := by decide +kernel
theorem dX0_leafFor_51 : decode cX0_leafFor 51 = .ok (.invokevirtual 34, 3) := by decide +kernel
theorem dX0_leafFor_54 : decode cX0_leafFor 54 = .ok (.ireturn, 1) := by decide +kernel
theorem dX0_leafFor_55 : decode cX0_leafFor 55 = .ok (.iconst 0, 1) := by decide +kernel
theorem dX0_leafFor_56 : decode cX0_leafFor 56 = .ok (.ireturn, 1) := by decide +kernel
set_option maxRecDepth 20000 in
theorem ggX0_mayHold_X0_sortsByList : GoodIn wsX0_mayHold wsX0_sortsByList := goodIn_r _ [18, 19, 28, 29, 30, 31, 32, 33] (by decide +kernel) (by decide +kernel)
set_option maxRecDepth 20000 in
theorem gX0_mayHold_X0_sortsByList : GoodIn wsX0_mayHold (wsV RX0 58 RX0 yX0_sortsByList wsX0_sortsByList) := goodIn_app (goodIn_of _ (by decide +kernel)) ggX0_mayHold_X0_sortsByList
set_option maxRecDepth 20000 in
theorem ggX0_mayHold_X0_hashReaches : GoodIn wsX0_mayHold wsX0_hashReaches := goodIn_r _ [23, 19, 9, 10, 5, 11, 24, 25, 26, 17, 27, 28, 29, 30, 31, 32, 33] (by decide +kernel) (by decide +kernel)
set_option maxRecDepth 20000 in
theorem gX0_mayHold_X0_hashReaches : GoodIn wsX0_mayHold (wsV RX0 61 RX0 yX0_hashReaches wsX0_hashReaches) := goodIn_app (goodIn_of _ (by decide +kernel)) ggX0_mayHold_X0_hashReaches
theorem dX0_mayHold_0 : decode cX0_mayHold 0 = .ok (.aload_n 0, 1) := by decide +kernel
theorem dX0_mayHold_1 : decode cX0_mayHold 1 = .ok (.getfield 15, 3) := by decide +kernel
theorem dX0_mayHold_4 : decode cX0_mayHold 4 = .ok (.aload_n 2, 1) := by decide +kernel
theorem dX0_mayHold_5 : decode cX0_mayHold 5 = .ok (.getfield 38, 3) := by decide +kernel
theorem dX0_mayHold_8 : decode cX0_mayHold 8 = .ok (.invokestatic 43, 3) := by decide +kernel
theorem dX0_mayHold_11 : decode cX0_mayHold 11 = .ok (.istore_n 3, 1) := by decide +kernel
theorem dX0_mayHold_12 : decode cX0_mayHold 12 = .ok (.aload_n 0, 1) := by decide +kernel
theorem dX0_mayHold_13 : decode cX0_mayHold 13 = .ok (.getfield 18, 3) := by decide +kernel
theorem dX0_mayHold_16 : decode cX0_mayHold 16 = .ok (.iconst 1, 1) := by decide +kernel
theorem dX0_mayHold_17 : decode cX0_mayHold 17 = .ok (.isub, 1) := by decide +kernel
theorem dX0_mayHold_18 : decode cX0_mayHold 18 = .ok (.aload_n 2, 1) := by decide +kernel
theorem dX0_mayHold_19 : decode cX0_mayHold 19 = .ok (.getfield 49, 3) := by decide +kernel
theorem dX0_mayHold_22 : decode cX0_mayHold 22 = .ok (.invokestatic 52, 3) := by decide +kernel
theorem dX0_mayHold_25 : decode cX0_mayHold 25 = .ok (.istore 4, 2) := by decide +kernel
theorem dX0_mayHold_27 : decode cX0_mayHold 27 = .ok (.iload_n 3, 1) := by decide +kernel
theorem dX0_mayHold_28 : decode cX0_mayHold 28 = .ok (.iload 4, 2) := by decide +kernel
theorem dX0_mayHold_30 : decode cX0_mayHold 30 = .ok (.if_icmp .le 5, 3) := by decide +kernel
theorem dX0_mayHold_33 : decode cX0_mayHold 33 = .ok (.iconst 0, 1) := by decide +kernel
theorem dX0_mayHold_34 : decode cX0_mayHold 34 = .ok (.ireturn, 1) := by decide +kernel
theorem dX0_mayHold_35 : decode cX0_mayHold 35 = .ok (.aload_n 0, 1) := by decide +kernel
theorem dX0_mayHold_36 : decode cX0_mayHold 36 = .ok (.getfield 21, 3) := by decide +kernel
theorem dX0_mayHold_39 : decode cX0_mayHold 39 = .ok (.lookupswitch 68 #[(1, 25), (2, 44)], 25) := by decide +kernel
theorem dX0_mayHold_64 : decode cX0_mayHold 64 = .ok (.aload_n 2, 1) := by decide +kernel
theorem dX0_mayHold_65 : decode cX0_mayHold 65 = .ok (.getfield 55, 3) := by decide +kernel
theorem dX0_mayHold_68 : decode cX0_mayHold 68 = .ok (.aload_n 0, 1) := by decide +kernel
theorem dX0_mayHold_69 : decode cX0_mayHold 69 = .ok (.iload_n 1, 1) := by decide +kernel
theorem dX0_mayHold_70 : decode cX0_mayHold 70 = .ok (.invokevirtual 58, 3) := by decide +kernel
theorem dX0_mayHold_73 : decode cX0_mayHold 73 = .ok (.iand, 1) := by decide +kernel
theorem dX0_mayHold_74 : decode cX0_mayHold 74 = .ok (.ifCond .eq 7, 3) := by decide +kernel
theorem dX0_mayHold_77 : decode cX0_mayHold 77 = .ok (.iconst 1, 1) := by decide +kernel
theorem dX0_mayHold_78 : decode cX0_mayHold 78 = .ok (.goto 4, 3) := by decide +kernel
theorem dX0_mayHold_81 : decode cX0_mayHold 81 = .ok (.iconst 0, 1) := by decide +kernel
theorem dX0_mayHold_82 : decode cX0_mayHold 82 = .ok (.ireturn, 1) := by decide +kernel
theorem dX0_mayHold_83 : decode cX0_mayHold 83 = .ok (.aload_n 2, 1) := by decide +kernel
theorem dX0_mayHold_84 : decode cX0_mayHold 84 = .ok (.getfield 55, 3) := by decide +kernel
theorem dX0_mayHold_87 : decode cX0_mayHold 87 = .ok (.ifCond .eq 18, 3) := by decide +kernel
theorem dX0_mayHold_90 : decode cX0_mayHold 90 = .ok (.aload_n 0, 1) := by decide +kernel
theorem dX0_mayHold_91 : decode cX0_mayHold 91 = .ok (.iload_n 1, 1) := by decide +kernel
theorem dX0_mayHold_92 : decode cX0_mayHold 92 = .ok (.iload_n 3, 1) := by decide +kernel
theorem dX0_mayHold_93 : decode cX0_mayHold 93 = .ok (.iload 4, 2) := by decide +kernel
theorem dX0_mayHold_95 : decode cX0_mayHold 95 = .ok (.invokevirtual 61, 3) := by decide +kernel
theorem dX0_mayHold_98 : decode cX0_mayHold 98 = .ok (.ifCond .eq 7, 3) := by decide +kernel
theorem dX0_mayHold_101 : decode cX0_mayHold 101 = .ok (.iconst 1, 1) := by decide +kernel
theorem dX0_mayHold_102 : decode cX0_mayHold 102 = .ok (.goto 4, 3) := by decide +kernel
theorem dX0_mayHold_105 : decode cX0_mayHold 105 = .ok (.iconst 0, 1) := by decide +kernel
theorem dX0_mayHold_106 : decode cX0_mayHold 106 = .ok (.ireturn, 1) := by decide +kernel
theorem dX0_mayHold_107 : decode cX0_mayHold 107 = .ok (.aload_n 2, 1) := by decide +kernel
theorem dX0_mayHold_108 : decode cX0_mayHold 108 = .ok (.getfield 55, 3) := by decide +kernel
theorem dX0_mayHold_111 : decode cX0_mayHold 111 = .ok (.ifCond .eq 7, 3) := by decide +kernel
theorem dX0_mayHold_114 : decode cX0_mayHold 114 = .ok (.iconst 1, 1) := by decide +kernel
theorem dX0_mayHold_115 : decode cX0_mayHold 115 = .ok (.goto 4, 3) := by decide +kernel
theorem dX0_mayHold_118 : decode cX0_mayHold 118 = .ok (.iconst 0, 1) := by decide +kernel
theorem dX0_mayHold_119 : decode cX0_mayHold 119 = .ok (.ireturn, 1) := by decide +kernel
theorem dX0_sortsByList_0 : decode cX0_sortsByList 0 = .ok (.iload_n 1, 1) := by decide +kernel
theorem dX0_sortsByList_1 : decode cX0_sortsByList 1 = .ok (.ifCond .ne 10, 3) := by decide +kernel
theorem dX0_sortsByList_4 : decode cX0_sortsByList 4 = .ok (.aload_n 0, 1) := by decide +kernel
theorem dX0_sortsByList_5 : decode cX0_sortsByList 5 = .ok (.getfield 24, 3) := by decide +kernel
theorem dX0_sortsByList_8 : decode cX0_sortsByList 8 = .ok (.goto 11, 3) := by decide +kernel
theorem dX0_sortsByList_11 : decode cX0_sortsByList 11 = .ok (.sipush 1023, 3) := by decide +kernel
theorem dX0_sortsByList_14 : decode cX0_sortsByList 14 = .ok (.aload_n 0, 1) := by decide +kernel
theorem dX0_sortsByList_15 : decode cX0_sortsByList 15 = .ok (.getfield 24, 3) := by decide +kernel
theorem dX0_sortsByList_18 : decode cX0_sortsByList 18 = .ok (.isub, 1) := by decide +kernel
theorem dX0_sortsByList_19 : decode cX0_sortsByList 19 = .ok (.ireturn, 1) := by decide +kernel
set_option maxRecDepth 20000 in
theorem ggX0_hashReaches_X0_leafByHash : GoodIn wsX0_hashReaches wsX0_leafByHash := goodIn_r _ [10, 1, 11, 12, 13, 14, 15, 16] (by decide +kernel) (by decide +kernel)
set_option maxRecDepth 20000 in
theorem gX0_hashReaches_X0_leafByHash : GoodIn wsX0_hashReaches (wsV RX0 34 RX0 yX0_leafByHash wsX0_leafByHash) := goodIn_app (goodIn_of _ (by decide +kernel)) ggX0_hashReaches_X0_leafByHash
theorem dX0_hashReaches_0 : decode cX0_hashReaches 0 = .ok (.iload_n 3, 1) := by decide +kernel
theorem dX0_hashReaches_1 : decode cX0_hashReaches 1 = .ok (.iload_n 2, 1) := by decide +kernel
theorem dX0_hashReaches_2 : decode cX0_hashReaches 2 = .ok (.aload_n 0, 1) := by decide +kernel
theorem dX0_hashReaches_3 : decode cX0_hashReaches 3 = .ok (.getfield 24, 3) := by decide +kernel
theorem dX0_hashReaches_6 : decode cX0_hashReaches 6 = .ok (.iadd, 1) := by decide +kernel
theorem dX0_hashReaches_7 : decode cX0_hashReaches 7 = .ok (.iconst 1, 1) := by decide +kernel
theorem dX0_hashReaches_8 : decode cX0_hashReaches 8 = .ok (.isub, 1) := by decide +kernel
theorem dX0_hashReaches_9 : decode cX0_hashReaches 9 = .ok (.invokestatic 52, 3) := by decide +kernel
theorem dX0_hashReaches_12 : decode cX0_hashReaches 12 = .ok (.istore 4, 2) := by decide +kernel
theorem dX0_hashReaches_14 : decode cX0_hashReaches 14 = .ok (.iload_n 2, 1) := by decide +kernel
theorem dX0_hashReaches_15 : decode cX0_hashReaches 15 = .ok (.istore 5, 2) := by decide +kernel
theorem dX0_hashReaches_17 : decode cX0_hashReaches 17 = .ok (.iload 5, 2) := by decide +kernel
theorem dX0_hashReaches_19 : decode cX0_hashReaches 19 = .ok (.iload 4, 2) := by decide +kernel
theorem dX0_hashReaches_21 : decode cX0_hashReaches 21 = .ok (.if_icmp .gt 21, 3) := by decide +kernel
theorem dX0_hashReaches_24 : decode cX0_hashReaches 24 = .ok (.aload_n 0, 1) := by decide +kernel
theorem dX0_hashReaches_25 : decode cX0_hashReaches 25 = .ok (.iload 5, 2) := by decide +kernel
theorem dX0_hashReaches_27 : decode cX0_hashReaches 27 = .ok (.invokevirtual 34, 3) := by decide +kernel
theorem dX0_hashReaches_30 : decode cX0_hashReaches 30 = .ok (.iload_n 1, 1) := by decide +kernel
theorem dX0_hashReaches_31 : decode cX0_hashReaches 31 = .ok (.if_icmp .ne 5, 3) := by decide +kernel
theorem dX0_hashReaches_34 : decode cX0_hashReaches 34 = .ok (.iconst 1, 1) := by decide +kernel
theorem dX0_hashReaches_35 : decode cX0_hashReaches 35 = .ok (.ireturn, 1) := by decide +kernel
theorem dX0_hashReaches_36 : decode cX0_hashReaches 36 = .ok (.iinc 5 1, 3) := by decide +kernel
theorem dX0_hashReaches_39 : decode cX0_hashReaches 39 = .ok (.goto (-22), 3) := by decide +kernel
theorem dX0_hashReaches_42 : decode cX0_hashReaches 42 = .ok (.iconst 0, 1) := by decide +kernel
theorem dX0_hashReaches_43 : decode cX0_hashReaches 43 = .ok (.ireturn, 1) := by decide +kernel
theorem dX0_leafByHash_0 : decode cX0_leafByHash 0 = .ok (.aload_n 0, 1) := by decide +kernel
theorem dX0_leafByHash_1 : decode cX0_leafByHash 1 = .ok (.getfield 24, 3) := by decide +kernel
theorem dX0_leafByHash_4 : decode cX0_leafByHash 4 = .ok (.ifCond .le 17, 3) := by decide +kernel
theorem dX0_leafByHash_7 : decode cX0_leafByHash 7 = .ok (.bipush 7, 2) := by decide +kernel
theorem dX0_leafByHash_9 : decode cX0_leafByHash 9 = .ok (.iload_n 1, 1) := by decide +kernel
theorem dX0_leafByHash_10 : decode cX0_leafByHash 10 = .ok (.imul, 1) := by decide +kernel
theorem dX0_leafByHash_11 : decode cX0_leafByHash 11 = .ok (.iconst 3, 1) := by decide +kernel
theorem dX0_leafByHash_12 : decode cX0_leafByHash 12 = .ok (.iadd, 1) := by decide +kernel
theorem dX0_leafByHash_13 : decode cX0_leafByHash 13 = .ok (.aload_n 0, 1) := by decide +kernel
theorem dX0_leafByHash_14 : decode cX0_leafByHash 14 = .ok (.getfield 24, 3) := by decide +kernel
theorem dX0_leafByHash_17 : decode cX0_leafByHash 17 = .ok (.irem, 1) := by decide +kernel
theorem dX0_leafByHash_18 : decode cX0_leafByHash 18 = .ok (.goto 4, 3) := by decide +kernel
theorem dX0_leafByHash_21 : decode cX0_leafByHash 21 = .ok (.iconst 0, 1) := by decide +kernel
theorem dX0_leafByHash_22 : decode cX0_leafByHash 22 = .ok (.ireturn, 1) := by decide +kernel
theorem dX1_init_0 : decode cX1_init 0 = .ok (.aload_n 0, 1) := by decide +kernel
theorem dX1_init_1 : decode cX1_init 1 = .ok (.invokespecial 1, 3) := by decide +kernel
theorem dX1_init_4 : decode cX1_init 4 = .ok (.aload_n 0, 1) := by decide +kernel
theorem dX1_init_5 : decode cX1_init 5 = .ok (.iload_n 1, 1) := by decide +kernel
theorem dX1_init_6 : decode cX1_init 6 = .ok (.putfield 7, 3) := by decide +kernel
theorem dX1_init_9 : decode cX1_init 9 = .ok (.aload_n 0, 1) := by decide +kernel
theorem dX1_init_10 : decode cX1_init 10 = .ok (.iload_n 2, 1) := by decide +kernel
theorem dX1_init_11 : decode cX1_init 11 = .ok (.putfield 13, 3) := by decide +kernel
theorem dX1_init_14 : decode cX1_init 14 = .ok (.aload_n 0, 1) := by decide +kernel
theorem dX1_init_15 : decode cX1_init 15 = .ok (.iload_n 3, 1) := by decide +kernel
theorem dX1_init_16 : decode cX1_init 16 = .ok (.putfield 16, 3) := by decide +kernel
theorem dX1_init_19 : decode cX1_init 19 = .ok (.return_, 1) := by decide +kernel
theorem dX2_init_0 : decode cX2_init 0 = .ok (.aload_n 0, 1) := by decide +kernel
theorem dX2_init_1 : decode cX2_init 1 = .ok (.invokespecial 3, 3) := by decide +kernel
theorem dX2_init_4 : decode cX2_init 4 = .ok (.aload_n 0, 1) := by decide +kernel
theorem dX2_init_5 : decode cX2_init 5 = .ok (.iload_n 1, 1) := by decide +kernel
theorem dX2_init_6 : decode cX2_init 6 = .ok (.putfield 9, 3) := by decide +kernel
theorem dX2_init_9 : decode cX2_init 9 = .ok (.aload_n 0, 1) := by decide +kernel
theorem dX2_init_10 : decode cX2_init 10 = .ok (.iload_n 2, 1) := by decide +kernel
theorem dX2_init_11 : decode cX2_init 11 = .ok (.putfield 15, 3) := by decide +kernel
theorem dX2_init_14 : decode cX2_init 14 = .ok (.aload_n 0, 1) := by decide +kernel
theorem dX2_init_15 : decode cX2_init 15 = .ok (.iload_n 3, 1) := by decide +kernel
theorem dX2_init_16 : decode cX2_init 16 = .ok (.putfield 18, 3) := by decide +kernel
theorem dX2_init_19 : decode cX2_init 19 = .ok (.aload_n 0, 1) := by decide +kernel
theorem dX2_init_20 : decode cX2_init 20 = .ok (.aload 4, 2) := by decide +kernel
theorem dX2_init_22 : decode cX2_init 22 = .ok (.putfield 21, 3) := by decide +kernel
theorem dX2_init_25 : decode cX2_init 25 = .ok (.return_, 1) := by decide +kernel
theorem dX2_isInTable_0 : decode cX2_isInTable 0 = .ok (.aload_n 0, 1) := by decide +kernel
theorem dX2_isInTable_1 : decode cX2_isInTable 1 = .ok (.getfield 21, 3) := by decide +kernel
theorem dX2_isInTable_4 : decode cX2_isInTable 4 = .ok (.getfield 25, 3) := by decide +kernel
theorem dX2_isInTable_7 : decode cX2_isInTable 7 = .ok (.ifCond .ne 7, 3) := by decide +kernel
theorem dX2_isInTable_10 : decode cX2_isInTable 10 = .ok (.iconst 1, 1) := by decide +kernel
theorem dX2_isInTable_11 : decode cX2_isInTable 11 = .ok (.goto 4, 3) := by decide +kernel
theorem dX2_isInTable_14 : decode cX2_isInTable 14 = .ok (.iconst 0, 1) := by decide +kernel
theorem dX2_isInTable_15 : decode cX2_isInTable 15 = .ok (.ireturn, 1) := by decide +kernel
set_option maxRecDepth 20000 in
theorem ggX2_liesIn_X0_leafFor : GoodIn wsX2_liesIn wsX0_leafFor := goodIn_r _ [8, 9, 10, 11, 12, 13, 14, 15, 16, 7, 17, 22, 23, 24, 25, 26, 27] (by decide +kernel) (by decide +kernel)
set_option maxRecDepth 20000 in
theorem gX2_liesIn_X0_leafFor : GoodIn wsX2_liesIn (wsV RX2 30 RX0 yX0_leafFor wsX0_leafFor) := goodIn_app (goodIn_of _ (by decide +kernel)) ggX2_liesIn_X0_leafFor
theorem dX2_liesIn_0 : decode cX2_liesIn 0 = .ok (.aload_n 0, 1) := by decide +kernel
theorem dX2_liesIn_1 : decode cX2_liesIn 1 = .ok (.getfield 21, 3) := by decide +kernel
theorem dX2_liesIn_4 : decode cX2_liesIn 4 = .ok (.aload_n 1, 1) := by decide +kernel
theorem dX2_liesIn_5 : decode cX2_liesIn 5 = .ok (.if_acmp .ne 26, 3) := by decide +kernel
theorem dX2_liesIn_8 : decode cX2_liesIn 8 = .ok (.aload_n 0, 1) := by decide +kernel
theorem dX2_liesIn_9 : decode cX2_liesIn 9 = .ok (.getfield 21, 3) := by decide +kernel
theorem dX2_liesIn_12 : decode cX2_liesIn 12 = .ok (.aload_n 0, 1) := by decide +kernel
theorem dX2_liesIn_13 : decode cX2_liesIn 13 = .ok (.getfield 9, 3) := by decide +kernel
theorem dX2_liesIn_16 : decode cX2_liesIn 16 = .ok (.aload_n 0, 1) := by decide +kernel
theorem dX2_liesIn_17 : decode cX2_liesIn 17 = .ok (.getfield 15, 3) := by decide +kernel
theorem dX2_liesIn_20 : decode cX2_liesIn 20 = .ok (.invokevirtual 30, 3) := by decide +kernel
theorem dX2_liesIn_23 : decode cX2_liesIn 23 = .ok (.iload_n 2, 1) := by decide +kernel
theorem dX2_liesIn_24 : decode cX2_liesIn 24 = .ok (.if_icmp .ne 7, 3) := by decide +kernel
theorem dX2_liesIn_27 : decode cX2_liesIn 27 = .ok (.iconst 1, 1) := by decide +kernel
theorem dX2_liesIn_28 : decode cX2_liesIn 28 = .ok (.goto 4, 3) := by decide +kernel
theorem dX2_liesIn_31 : decode cX2_liesIn 31 = .ok (.iconst 0, 1) := by decide +kernel
theorem dX2_liesIn_32 : decode cX2_liesIn 32 = .ok (.ireturn, 1) := by decide +kernel
set_option maxRecDepth 20000 in
theorem ggX2_fits_X3_hasSort : GoodIn wsX2_fits wsX3_hasSort := goodIn_r _ [8] (by decide +kernel) (by decide +kernel)
set_option maxRecDepth 20000 in
theorem gX2_fits_X3_hasSort_n45 : GoodIn wsX2_fits (wsX3_hasSort) := ggX2_fits_X3_hasSort
theorem dX2_fits_0 : decode cX2_fits 0 = .ok (.aload_n 0, 1) := by decide +kernel
theorem dX2_fits_1 : decode cX2_fits 1 = .ok (.getfield 9, 3) := by decide +kernel
theorem dX2_fits_4 : decode cX2_fits 4 = .ok (.aload_n 1, 1) := by decide +kernel
theorem dX2_fits_5 : decode cX2_fits 5 = .ok (.getfield 34, 3) := by decide +kernel
theorem dX2_fits_8 : decode cX2_fits 8 = .ok (.if_icmp .lt 32, 3) := by decide +kernel
theorem dX2_fits_11 : decode cX2_fits 11 = .ok (.aload_n 0, 1) := by decide +kernel
theorem dX2_fits_12 : decode cX2_fits 12 = .ok (.getfield 9, 3) := by decide +kernel
theorem dX2_fits_15 : decode cX2_fits 15 = .ok (.aload_n 1, 1) := by decide +kernel
theorem dX2_fits_16 : decode cX2_fits 16 = .ok (.getfield 39, 3) := by decide +kernel
theorem dX2_fits_19 : decode cX2_fits 19 = .ok (.if_icmp .gt 21, 3) := by decide +kernel
theorem dX2_fits_22 : decode cX2_fits 22 = .ok (.aload_n 1, 1) := by decide +kernel
theorem dX2_fits_23 : decode cX2_fits 23 = .ok (.getfield 42, 3) := by decide +kernel
theorem dX2_fits_26 : decode cX2_fits 26 = .ok (.aload_n 0, 1) := by decide +kernel
theorem dX2_fits_27 : decode cX2_fits 27 = .ok (.getfield 15, 3) := by decide +kernel
theorem dX2_fits_30 : decode cX2_fits 30 = .ok (.invokestatic 45, 3) := by decide +kernel
theorem dX2_fits_33 : decode cX2_fits 33 = .ok (.ifCond .eq 7, 3) := by decide +kernel
theorem dX2_fits_36 : decode cX2_fits 36 = .ok (.iconst 1, 1) := by decide +kernel
theorem dX2_fits_37 : decode cX2_fits 37 = .ok (.goto 4, 3) := by decide +kernel
theorem dX2_fits_40 : decode cX2_fits 40 = .ok (.iconst 0, 1) := by decide +kernel
theorem dX2_fits_41 : decode cX2_fits 41 = .ok (.ireturn, 1) := by decide +kernel
set_option maxRecDepth 20000 in
theorem ggX2_place_X0_leafFor : GoodIn wsX2_place wsX0_leafFor := goodIn_r _ [9, 10, 11, 12, 13, 14, 15, 16, 17, 8, 18, 23, 24, 25, 26, 27, 28] (by decide +kernel) (by decide +kernel)
set_option maxRecDepth 20000 in
theorem gX2_place_X0_leafFor : GoodIn wsX2_place (wsV RX2 30 RX0 yX0_leafFor wsX0_leafFor) := goodIn_app (goodIn_of _ (by decide +kernel)) ggX2_place_X0_leafFor
theorem dX2_place_0 : decode cX2_place 0 = .ok (.bipush 10, 2) := by decide +kernel
theorem dX2_place_2 : decode cX2_place 2 = .ok (.aload_n 0, 1) := by decide +kernel
theorem dX2_place_3 : decode cX2_place 3 = .ok (.getfield 21, 3) := by decide +kernel
theorem dX2_place_6 : decode cX2_place 6 = .ok (.getfield 49, 3) := by decide +kernel
theorem dX2_place_9 : decode cX2_place 9 = .ok (.imul, 1) := by decide +kernel
theorem dX2_place_10 : decode cX2_place 10 = .ok (.aload_n 0, 1) := by decide +kernel
theorem dX2_place_11 : decode cX2_place 11 = .ok (.getfield 21, 3) := by decide +kernel
theorem dX2_place_14 : decode cX2_place 14 = .ok (.aload_n 0, 1) := by decide +kernel
theorem dX2_place_15 : decode cX2_place 15 = .ok (.getfield 9, 3) := by decide +kernel
theorem dX2_place_18 : decode cX2_place 18 = .ok (.aload_n 0, 1) := by decide +kernel
theorem dX2_place_19 : decode cX2_place 19 = .ok (.getfield 15, 3) := by decide +kernel
theorem dX2_place_22 : decode cX2_place 22 = .ok (.invokevirtual 30, 3) := by decide +kernel
theorem dX2_place_25 : decode cX2_place 25 = .ok (.iadd, 1) := by decide +kernel
theorem dX2_place_26 : decode cX2_place 26 = .ok (.ireturn, 1) := by decide +kernel
set_option maxRecDepth 20000 in
theorem ggX3_init_X0_init : GoodIn wsX3_init wsX0_init := goodIn_r _ [13, 14, 2, 3, 15, 16, 17, 18, 19, 20, 21, 22, 23, 24, 25, 26] (by decide +kernel) (by decide +kernel)
set_option maxRecDepth 20000 in
theorem gX3_init_X0_init : GoodIn wsX3_init (wsX0_init) := ggX3_init_X0_init
theorem dX3_init_0 : decode cX3_init 0 = .ok (.aload_n 0, 1) := by decide +kernel
theorem dX3_init_1 : decode cX3_init 1 = .ok (.invokespecial 1, 3) := by decide +kernel
theorem dX3_init_4 : decode cX3_init 4 = .ok (.aload_n 0, 1) := by decide +kernel
theorem dX3_init_5 : decode cX3_init 5 = .ok (.new 7, 3) := by decide +kernel
theorem dX3_init_8 : decode cX3_init 8 = .ok (.dup, 1) := by decide +kernel
theorem dX3_init_9 : decode cX3_init 9 = .ok (.iconst 0, 1) := by decide +kernel
theorem dX3_init_10 : decode cX3_init 10 = .ok (.iconst 0, 1) := by decide +kernel
theorem dX3_init_11 : decode cX3_init 11 = .ok (.iconst 0, 1) := by decide +kernel
theorem dX3_init_12 : decode cX3_init 12 = .ok (.iconst 0, 1) := by decide +kernel
theorem dX3_init_13 : decode cX3_init 13 = .ok (.iconst 0, 1) := by decide +kernel
theorem dX3_init_14 : decode cX3_init 14 = .ok (.invokespecial 11, 3) := by decide +kernel
theorem dX3_init_17 : decode cX3_init 17 = .ok (.putfield 14, 3) := by decide +kernel
theorem dX3_init_20 : decode cX3_init 20 = .ok (.aload_n 0, 1) := by decide +kernel
theorem dX3_init_21 : decode cX3_init 21 = .ok (.bipush 16, 2) := by decide +kernel
theorem dX3_init_23 : decode cX3_init 23 = .ok (.anewarray 7, 3) := by decide +kernel
theorem dX3_init_26 : decode cX3_init 26 = .ok (.putfield 18, 3) := by decide +kernel
theorem dX3_init_29 : decode cX3_init 29 = .ok (.aload_n 0, 1) := by decide +kernel
theorem dX3_init_30 : decode cX3_init 30 = .ok (.getfield 18, 3) := by decide +kernel
theorem dX3_init_33 : decode cX3_init 33 = .ok (.iconst 0, 1) := by decide +kernel
theorem dX3_init_34 : decode cX3_init 34 = .ok (.aload_n 0, 1) := by decide +kernel
theorem dX3_init_35 : decode cX3_init 35 = .ok (.getfield 14, 3) := by decide +kernel
theorem dX3_init_38 : decode cX3_init 38 = .ok (.aastore, 1) := by decide +kernel
theorem dX3_init_39 : decode cX3_init 39 = .ok (.aload_n 0, 1) := by decide +kernel
theorem dX3_init_40 : decode cX3_init 40 = .ok (.sipush 200, 3) := by decide +kernel
theorem dX3_init_43 : decode cX3_init 43 = .ok (.anewarray 22, 3) := by decide +kernel
theorem dX3_init_46 : decode cX3_init 46 = .ok (.putfield 24, 3) := by decide +kernel
theorem dX3_init_49 : decode cX3_init 49 = .ok (.return_, 1) := by decide +kernel
set_option maxRecDepth 20000 in
theorem ggX3_makePart_X3_plannedPart : GoodIn wsX3_makePart wsX3_plannedPart := goodIn_ca (goodIn_r _ [6, 7, 8, 9, 10, 11, 12, 5, 13, 14, 15, 16, 17, 18, 19, 20, 21, 22, 23, 24, 25, 26, 27, 28, 29, 30, 31, 32, 33, 34, 35, 36, 37, 38, 39, 68, 69, 70, 71, 72, 73, 74, 75, 76, 77, 78, 79] (by decide +kernel) (by decide +kernel)) (goodIn_sub (fun _ h => List.mem_cons_of_mem _ (List.mem_append_left _ (List.mem_append_right _ h))) (by decide +kernel))
set_option maxRecDepth 20000 in
theorem gX3_makePart_X3_plannedPart : GoodIn wsX3_makePart (wsV RX3 28 RX3 yX3_plannedPart wsX3_plannedPart) := goodIn_app (goodIn_of _ (by decide +kernel)) ggX3_makePart_X3_plannedPart
set_option maxRecDepth 20000 in
theorem ggX3_makePart_X3_refuseOverlap : GoodIn wsX3_makePart wsX3_refuseOverlap := goodIn_ca (goodIn_r _ [43, 44, 45, 46, 47, 48, 49, 50, 9, 51, 35, 36, 74, 75, 76, 77, 78, 79, 68, 69, 70, 71, 72, 73] (by decide +kernel) (by decide +kernel)) (goodIn_sub (fun _ h => List.mem_cons_of_mem _ (List.mem_append_right _ h)) (by decide +kernel))
set_option maxRecDepth 20000 in
theorem gX3_makePart_X3_refuseOverlap : GoodIn wsX3_makePart (wsV RX3 32 RX3 yX3_refuseOverlap wsX3_refuseOverlap) := goodIn_app (goodIn_of _ (by decide +kernel)) ggX3_makePart_X3_refuseOverlap
set_option maxRecDepth 20000 in
theorem ggX3_makePart_X3_refuseRowsOfRest : GoodIn wsX3_makePart wsX3_refuseRowsOfRest := goodIn_ca (goodIn_r _ [55, 44, 45, 56, 57, 58, 59, 60, 61, 62, 9, 63, 35, 36, 74, 75, 76, 77, 78, 79, 80, 81, 82, 83, 68, 69, 70, 71, 72, 73] (by decide +kernel) (by decide +kernel)) (goodIn_sub (fun _ h => List.mem_cons_of_mem _ (List.mem_append_right _ h)) (by decide +kernel))
set_option maxRecDepth 20000 in
theorem gX3_makePart_X3_refuseRowsOfRest : GoodIn wsX3_makePart (wsV RX3 36 RX3 yX3_refuseRowsOfRest wsX3_refuseRowsOfRest) := goodIn_app (goodIn_of _ (by decide +kernel)) ggX3_makePart_X3_refuseRowsOfRest
set_option maxRecDepth 20000 in
theorem ggX3_makePart_X3_keepPart : GoodIn wsX3_makePart wsX3_keepPart := goodIn_ca (goodIn_r _ [67, 44, 45, 1, 46, 10, 68, 69, 70, 71, 72, 73, 74, 75, 76, 77, 78, 79] (by decide +kernel) (by decide +kernel)) (goodIn_sub (fun _ h => List.mem_cons_of_mem _ (List.mem_append_right _ h)) (by decide +kernel))
set_option maxRecDepth 20000 in
theorem gX3_makePart_X3_keepPart : GoodIn wsX3_makePart (wsV RX3 39 RX3 yX3_keepPart wsX3_keepPart) := goodIn_app (goodIn_of _ (by decide +kernel)) ggX3_makePart_X3_keepPart
theorem dX3_makePart_0 : decode cX3_makePart 0 = .ok (.aload_n 0, 1) := by decide +kernel
theorem dX3_makePart_1 : decode cX3_makePart 1 = .ok (.iload_n 1, 1) := by decide +kernel
theorem dX3_makePart_2 : decode cX3_makePart 2 = .ok (.iload_n 2, 1) := by decide +kernel
theorem dX3_makePart_3 : decode cX3_makePart 3 = .ok (.iload_n 3, 1) := by decide +kernel
theorem dX3_makePart_4 : decode cX3_makePart 4 = .ok (.iload 4, 2) := by decide +kernel
theorem dX3_makePart_6 : decode cX3_makePart 6 = .ok (.invokevirtual 28, 3) := by decide +kernel
theorem dX3_makePart_9 : decode cX3_makePart 9 = .ok (.astore 5, 2) := by decide +kernel
theorem dX3_makePart_11 : decode cX3_makePart 11 = .ok (.aload_n 0, 1) := by decide +kernel
theorem dX3_makePart_12 : decode cX3_makePart 12 = .ok (.aload 5, 2) := by decide +kernel
theorem dX3_makePart_14 : decode cX3_makePart 14 = .ok (.invokevirtual 32, 3) := by decide +kernel
theorem dX3_makePart_17 : decode cX3_makePart 17 = .ok (.aload_n 0, 1) := by decide +kernel
theorem dX3_makePart_18 : decode cX3_makePart 18 = .ok (.aload 5, 2) := by decide +kernel
theorem dX3_makePart_20 : decode cX3_makePart 20 = .ok (.invokevirtual 36, 3) := by decide +kernel
theorem dX3_makePart_23 : decode cX3_makePart 23 = .ok (.aload_n 0, 1) := by decide +kernel
theorem dX3_makePart_24 : decode cX3_makePart 24 = .ok (.aload 5, 2) := by decide +kernel
theorem dX3_makePart_26 : decode cX3_makePart 26 = .ok (.invokevirtual 39, 3) := by decide +kernel
theorem dX3_makePart_29 : decode cX3_makePart 29 = .ok (.aload 5, 2) := by decide +kernel
theorem dX3_makePart_31 : decode cX3_makePart 31 = .ok (.getfield 42, 3) := by decide +kernel
theorem dX3_makePart_34 : decode cX3_makePart 34 = .ok (.ireturn, 1) := by decide +kernel
set_option maxRecDepth 20000 in
theorem ggX3_carveOut_X3_plannedPart : GoodIn wsX3_carveOut wsX3_plannedPart := goodIn_ca (goodIn_r _ [6, 7, 8, 9, 10, 11, 12, 5, 13, 14, 15, 16, 17, 18, 19, 20, 21, 22, 23, 24, 25, 26, 27, 28, 29, 30, 31, 32, 33, 34, 35, 36, 37, 38, 39, 78, 79, 80, 81, 82, 83, 72, 73, 74, 75, 76, 77] (by decide +kernel) (by decide +kernel)) (goodIn_sub (fun _ h => List.mem_cons_of_mem _ (List.mem_append_left _ (List.mem_append_right _ h))) (by decide +kernel))
set_option maxRecDepth 20000 in
theorem gX3_carveOut_X3_plannedPart : GoodIn wsX3_carveOut (wsV RX3 28 RX3 yX3_plannedPart wsX3_plannedPart) := goodIn_app (goodIn_of _ (by decide +kernel)) ggX3_carveOut_X3_plannedPart
set_option maxRecDepth 20000 in
theorem ggX3_carveOut_X3_refuseOverlap : GoodIn wsX3_carveOut wsX3_refuseOverlap := goodIn_ca (goodIn_r _ [43, 44, 45, 46, 47, 48, 49, 50, 9, 51, 35, 36, 72, 73, 74, 75, 76, 77, 78, 79, 80, 81, 82, 83] (by decide +kernel) (by decide +kernel)) (goodIn_sub (fun _ h => List.mem_cons_of_mem _ (List.mem_append_right _ h)) (by decide +kernel))
set_option maxRecDepth 20000 in
theorem gX3_carveOut_X3_refuseOverlap : GoodIn wsX3_carveOut (wsV RX3 32 RX3 yX3_refuseOverlap wsX3_refuseOverlap) := goodIn_app (goodIn_of _ (by decide +kernel)) ggX3_carveOut_X3_refuseOverlap
set_option maxRecDepth 20000 in
theorem ggX3_carveOut_X3_keepPart : GoodIn wsX3_carveOut wsX3_keepPart := goodIn_ca (goodIn_r _ [55, 44, 45, 56, 46, 10, 78, 79, 80, 81, 82, 83, 72, 73, 74, 75, 76, 77] (by decide +kernel) (by decide +kernel)) (goodIn_sub (fun _ h => List.mem_cons_of_mem _ (List.mem_append_right _ h)) (by decide +kernel))
set_option maxRecDepth 20000 in
theorem gX3_carveOut_X3_keepPart : GoodIn wsX3_carveOut (wsV RX3 39 RX3 yX3_keepPart wsX3_keepPart) := goodIn_app (goodIn_of _ (by decide +kernel)) ggX3_carveOut_X3_keepPart
set_option maxRecDepth 20000 in
theorem ggX3_carveOut_X3_moveRows : GoodIn wsX3_carveOut wsX3_moveRows := goodIn_r _ [60, 61, 62, 63, 64, 65, 66, 9, 67, 35, 36, 72, 73, 74, 75, 76, 77, 84, 85, 86, 87, 78, 79, 80, 81, 82, 83] (by decide +kernel) (by decide +kernel)
set_option maxRecDepth 20000 in
theorem gX3_carveOut_X3_moveRows : GoodIn wsX3_carveOut (wsV RX3 46 RX3 yX3_moveRows wsX3_moveRows) := goodIn_app (goodIn_of _ (by decide +kernel)) ggX3_carveOut_X3_moveRows
set_option maxRecDepth 20000 in
theorem ggX3_carveOut_X3_rowsOf : GoodIn wsX3_carveOut wsX3_rowsOf := goodIn_r _ [71, 61, 62, 72, 73, 74, 75, 76, 77, 84, 85, 86, 87] (by decide +kernel) (by decide +kernel)
set_option maxRecDepth 20000 in
theorem gX3_carveOut_X3_rowsOf : GoodIn wsX3_carveOut (wsV RX3 50 RX3 yX3_rowsOf wsX3_rowsOf) := goodIn_app (goodIn_of _ (by decide +kernel)) ggX3_carveOut_X3_rowsOf
theorem dX3_carveOut_0 : decode cX3_carveOut 0 = .ok (.aload_n 0, 1) := by decide +kernel
theorem dX3_carveOut_1 : decode cX3_carveOut 1 = .ok (.iload_n 1, 1) := by decide +kernel
theorem dX3_carveOut_2 : decode cX3_carveOut 2 = .ok (.iload_n 2, 1) := by decide +kernel
theorem dX3_carveOut_3 : decode cX3_carveOut 3 = .ok (.iload_n 3, 1) := by decide +kernel
theorem dX3_carveOut_4 : decode cX3_carveOut 4 = .ok (.iload 4, 2) := by decide +kernel
theorem dX3_carveOut_6 : decode cX3_carveOut 6 = .ok (.invokevirtual 28, 3) := by decide +kernel
theorem dX3_carveOut_9 : decode cX3_carveOut 9 = .ok (.astore 5, 2) := by decide +kernel
theorem dX3_carveOut_11 : decode cX3_carveOut 11 = .ok (.aload_n 0, 1) := by decide +kernel
theorem dX3_carveOut_12 : decode cX3_carveOut 12 = .ok (.aload 5, 2) := by decide +kernel
theorem dX3_carveOut_14 : decode cX3_carveOut 14 = .ok (.invokevirtual 32, 3) := by decide +kernel
theorem dX3_carveOut_17 : decode cX3_carveOut 17 = .ok (.aload_n 0, 1) := by decide +kernel
theorem dX3_carveOut_18 : decode cX3_carveOut 18 = .ok (.aload 5, 2) := by decide +kernel
theorem dX3_carveOut_20 : decode cX3_carveOut 20 = .ok (.invokevirtual 39, 3) := by decide +kernel
theorem dX3_carveOut_23 : decode cX3_carveOut 23 = .ok (.aload_n 0, 1) := by decide +kernel
theorem dX3_carveOut_24 : decode cX3_carveOut 24 = .ok (.aload_n 0, 1) := by decide +kernel
theorem dX3_carveOut_25 : decode cX3_carveOut 25 = .ok (.getfield 14, 3) := by decide +kernel
theorem dX3_carveOut_28 : decode cX3_carveOut 28 = .ok (.aload 5, 2) := by decide +kernel
theorem dX3_carveOut_30 : decode cX3_carveOut 30 = .ok (.invokevirtual 46, 3) := by decide +kernel
theorem dX3_carveOut_33 : decode cX3_carveOut 33 = .ok (.aload_n 0, 1) := by decide +kernel
theorem dX3_carveOut_34 : decode cX3_carveOut 34 = .ok (.aload 5, 2) := by decide +kernel
theorem dX3_carveOut_36 : decode cX3_carveOut 36 = .ok (.invokevirtual 50, 3) := by decide +kernel
theorem dX3_carveOut_39 : decode cX3_carveOut 39 = .ok (.ireturn, 1) := by decide +kernel
set_option maxRecDepth 20000 in
theorem ggX3_split_X3_livingPartWithRange : GoodIn wsX3_split wsX3_livingPartWithRange := goodIn_ca (goodIn_r _ [12, 13, 14, 15, 16, 17, 18, 11, 19, 20, 21, 22, 23, 24, 25, 87, 88, 89, 90, 91, 92, 81, 82, 83, 84, 85, 86] (by decide +kernel) (by decide +kernel)) (goodIn_sub (fun _ h => List.mem_cons_of_mem _ (List.mem_append_left _ (List.mem_append_right _ h))) (by decide +kernel))
set_option maxRecDepth 20000 in
theorem gX3_split_X3_livingPartWithRange : GoodIn wsX3_split (wsV RX3 54 RX3 yX3_livingPartWithRange wsX3_livingPartWithRange) := goodIn_app (goodIn_of _ (by decide +kernel)) ggX3_split_X3_livingPartWithRange
set_option maxRecDepth 20000 in
theorem ggX3_split_X3_refuseUnlessAttached : GoodIn wsX3_split wsX3_refuseUnlessAttached := goodIn_ca (goodIn_r _ [28, 29, 30, 20, 81, 82, 83, 84, 85, 86] (by decide +kernel) (by decide +kernel)) (goodIn_sub (fun _ h => List.mem_cons_of_mem _ (List.mem_append_right _ h)) (by decide +kernel))
set_option maxRecDepth 20000 in
theorem gX3_split_X3_refuseUnlessAttached : GoodIn wsX3_split (va_wsS RX3 71 yX3_refuseUnlessAttached wsX3_refuseUnlessAttached) := goodIn_app (goodIn_of _ (by decide +kernel)) ggX3_split_X3_refuseUnlessAttached
set_option maxRecDepth 20000 in
theorem ggX3_split_X3_plannedPart : GoodIn wsX3_split wsX3_plannedPart := goodIn_ca (goodIn_r _ [34, 35, 36, 37, 38, 39, 40, 11, 41, 1, 2, 42, 43, 44, 45, 46, 47, 48, 49, 50, 51, 52, 53, 54, 55, 56, 57, 58, 59, 60, 61, 62, 63, 64, 65, 81, 82, 83, 84, 85, 86, 87, 88, 89, 90, 91, 92] (by decide +kernel) (by decide +kernel)) (goodIn_sub (fun _ h => List.mem_cons_of_mem _ (List.mem_append_left _ (List.mem_append_left _ (List.mem_append_right _ h)))) (by decide +kernel))
set_option maxRecDepth 20000 in
theorem gX3_split_X3_plannedPart : GoodIn wsX3_split (wsV RX3 28 RX3 yX3_plannedPart wsX3_plannedPart) := goodIn_app (goodIn_of _ (by decide +kernel)) ggX3_split_X3_plannedPart
set_option maxRecDepth 20000 in
theorem ggX3_split_X3_keepPart : GoodIn wsX3_split wsX3_keepPart := goodIn_ca (goodIn_r _ [69, 29, 30, 7, 25, 38, 81, 82, 83, 84, 85, 86, 87, 88, 89, 90, 91, 92] (by decide +kernel) (by decide +kernel)) (goodIn_sub (fun _ h => List.mem_cons_of_mem _ (List.mem_append_right _ h)) (by decide +kernel))
set_option maxRecDepth 20000 in
theorem gX3_split_X3_keepPart : GoodIn wsX3_split (wsV RX3 39 RX3 yX3_keepPart wsX3_keepPart) := goodIn_app (goodIn_of _ (by decide +kernel)) ggX3_split_X3_keepPart
set_option maxRecDepth 20000 in
theorem ggX3_split_X3_moveRows : GoodIn wsX3_split wsX3_moveRows := goodIn_r _ [73, 74, 75, 76, 77, 78, 79, 37, 80, 61, 62, 87, 88, 89, 90, 91, 92, 93, 94, 95, 96, 81, 82, 83, 84, 85, 86] (by decide +kernel) (by decide +kernel)
set_option maxRecDepth 20000 in
theorem gX3_split_X3_moveRows : GoodIn wsX3_split (wsV RX3 46 RX3 yX3_moveRows wsX3_moveRows) := goodIn_app (goodIn_of _ (by decide +kernel)) ggX3_split_X3_moveRows
theorem dX3_split_0 : decode cX3_split 0 = .ok (.aload_n 0, 1) := by decide +kernel
theorem dX3_split_1 : decode cX3_split 1 = .ok (.iload_n 1, 1) := by decide +kernel
theorem dX3_split_2 : decode cX3_split 2 = .ok (.invokevirtual 54, 3) := by decide +kernel
theorem dX3_split_5 : decode cX3_split 5 = .ok (.astore_n 3, 1) := by decide +kernel
theorem dX3_split_6 : decode cX3_split 6 = .ok (.iload_n 2, 1) := by decide +kernel
theorem dX3_split_7 : decode cX3_split 7 = .ok (.aload_n 3, 1) := by decide +kernel
theorem dX3_split_8 : decode cX3_split 8 = .ok (.getfield 58, 3) := by decide +kernel
theorem dX3_split_11 : decode cX3_split 11 = .ok (.if_icmp .le 11, 3) := by decide +kernel
theorem dX3_split_14 : decode cX3_split 14 = .ok (.iload_n 2, 1) := by decide +kernel
theorem dX3_split_15 : decode cX3_split 15 = .ok (.aload_n 3, 1) := by decide +kernel
theorem dX3_split_16 : decode cX3_split 16 = .ok (.getfield 61, 3) := by decide +kernel
theorem dX3_split_19 : decode cX3_split 19 = .ok (.if_icmp .lt 13, 3) := by decide +kernel
theorem dX3_split_22 : decode cX3_split 22 = .ok (.new 64, 3) := by decide +kernel
theorem dX3_split_25 : decode cX3_split 25 = .ok (.dup, 1) := by decide +kernel
theorem dX3_split_26 : decode cX3_split 26 = .ok (.ldc 66, 2) := by decide +kernel
theorem dX3_split_28 : decode cX3_split 28 = .ok (.invokespecial 68, 3) := by decide +kernel
theorem dX3_split_31 : decode cX3_split 31 = .ok (.athrow, 1) := by decide +kernel
theorem dX3_split_32 : decode cX3_split 32 = .ok (.aload_n 3, 1) := by decide +kernel
theorem dX3_split_33 : decode cX3_split 33 = .ok (.invokestatic 71, 3) := by decide +kernel
theorem dX3_split_36 : decode cX3_split 36 = .ok (.aload_n 0, 1) := by decide +kernel
theorem dX3_split_37 : decode cX3_split 37 = .ok (.iload_n 2, 1) := by decide +kernel
theorem dX3_split_38 : decode cX3_split 38 = .ok (.aload_n 3, 1) := by decide +kernel
theorem dX3_split_39 : decode cX3_split 39 = .ok (.getfield 61, 3) := by decide +kernel
theorem dX3_split_42 : decode cX3_split 42 = .ok (.aload_n 3, 1) := by decide +kernel
theorem dX3_split_43 : decode cX3_split 43 = .ok (.getfield 74, 3) := by decide +kernel
theorem dX3_split_46 : decode cX3_split 46 = .ok (.aload_n 3, 1) := by decide +kernel
theorem dX3_split_47 : decode cX3_split 47 = .ok (.getfield 77, 3) := by decide +kernel
theorem dX3_split_50 : decode cX3_split 50 = .ok (.invokevirtual 28, 3) := by decide +kernel
theorem dX3_split_53 : decode cX3_split 53 = .ok (.astore 4, 2) := by decide +kernel
theorem dX3_split_55 : decode cX3_split 55 = .ok (.aload_n 0, 1) := by decide +kernel
theorem dX3_split_56 : decode cX3_split 56 = .ok (.aload 4, 2) := by decide +kernel
theorem dX3_split_58 : decode cX3_split 58 = .ok (.invokevirtual 39, 3) := by decide +kernel
theorem dX3_split_61 : decode cX3_split 61 = .ok (.aload_n 3, 1) := by decide +kernel
theorem dX3_split_62 : decode cX3_split 62 = .ok (.iload_n 2, 1) := by decide +kernel
theorem dX3_split_63 : decode cX3_split 63 = .ok (.putfield 61, 3) := by decide +kernel
theorem dX3_split_66 : decode cX3_split 66 = .ok (.aload_n 0, 1) := by decide +kernel
theorem dX3_split_67 : decode cX3_split 67 = .ok (.aload_n 3, 1) := by decide +kernel
theorem dX3_split_68 : decode cX3_split 68 = .ok (.aload 4, 2) := by decide +kernel
theorem dX3_split_70 : decode cX3_split 70 = .ok (.invokevirtual 46, 3) := by decide +kernel
theorem dX3_split_73 : decode cX3_split 73 = .ok (.aload 4, 2) := by decide +kernel
theorem dX3_split_75 : decode cX3_split 75 = .ok (.getfield 42, 3) := by decide +kernel
theorem dX3_split_78 : decode cX3_split 78 = .ok (.ireturn, 1) := by decide +kernel
set_option maxRecDepth 20000 in
theorem ggX3_merge_X3_livingPartWithRange : GoodIn wsX3_merge wsX3_livingPartWithRange := goodIn_ca (goodIn_r _ [12, 13, 14, 15, 16, 17, 18, 11, 19, 7, 20, 21, 22, 23, 24, 52, 53, 54, 55, 56, 57, 46, 47, 48, 49, 50, 51] (by decide +kernel) (by decide +kernel)) (goodIn_sub (fun _ h => List.mem_cons_of_mem _ (List.mem_append_right _ h)) (by decide +kernel))
set_option maxRecDepth 20000 in
theorem gX3_merge_X3_livingPartWithRange : GoodIn wsX3_merge (wsV RX3 54 RX3 yX3_livingPartWithRange wsX3_livingPartWithRange) := goodIn_app (goodIn_of _ (by decide +kernel)) ggX3_merge_X3_livingPartWithRange
set_option maxRecDepth 20000 in
theorem ggX3_merge_X3_refuseUnlessAttached : GoodIn wsX3_merge wsX3_refuseUnlessAttached := goodIn_ca (goodIn_r _ [27, 1, 2, 7, 46, 47, 48, 49, 50, 51] (by decide +kernel) (by decide +kernel)) (goodIn_sub (fun _ h => List.mem_cons_of_mem _ (List.mem_append_left _ (List.mem_append_right _ h))) (by decide +kernel))
set_option maxRecDepth 20000 in
theorem gX3_merge_X3_refuseUnlessAttached : GoodIn wsX3_merge (va_wsS RX3 71 yX3_refuseUnlessAttached wsX3_refuseUnlessAttached) := goodIn_app (goodIn_of _ (by decide +kernel)) ggX3_merge_X3_refuseUnlessAttached
set_option maxRecDepth 20000 in
theorem ggX3_merge_X3_moveRows : GoodIn wsX3_merge wsX3_moveRows := goodIn_r _ [31, 32, 33, 34, 35, 36, 37, 38, 39, 40, 41, 52, 53, 54, 55, 56, 57, 58, 59, 60, 61, 46, 47, 48, 49, 50, 51] (by decide +kernel) (by decide +kernel)
set_option maxRecDepth 20000 in
theorem gX3_merge_X3_moveRows : GoodIn wsX3_merge (wsV RX3 46 RX3 yX3_moveRows wsX3_moveRows) := goodIn_app (goodIn_of _ (by decide +kernel)) ggX3_merge_X3_moveRows
set_option maxRecDepth 20000 in
theorem ggX3_merge_X3_rowsOf : GoodIn wsX3_merge wsX3_rowsOf := goodIn_r _ [45, 32, 33, 52, 53, 54, 55, 56, 57, 58, 59, 60, 61] (by decide +kernel) (by decide +kernel)
set_option maxRecDepth 20000 in
theorem gX3_merge_X3_rowsOf : GoodIn wsX3_merge (wsV RX3 50 RX3 yX3_rowsOf wsX3_rowsOf) := goodIn_app (goodIn_of _ (by decide +kernel)) ggX3_merge_X3_rowsOf
theorem dX3_merge_0 : decode cX3_merge 0 = .ok (.aload_n 0, 1) := by decide +kernel
theorem dX3_merge_1 : decode cX3_merge 1 = .ok (.iload_n 1, 1) := by decide +kernel
theorem dX3_merge_2 : decode cX3_merge 2 = .ok (.invokevirtual 54, 3) := by decide +kernel
theorem dX3_merge_5 : decode cX3_merge 5 = .ok (.astore_n 3, 1) := by decide +kernel
theorem dX3_merge_6 : decode cX3_merge 6 = .ok (.aload_n 0, 1) := by decide +kernel
theorem dX3_merge_7 : decode cX3_merge 7 = .ok (.iload_n 2, 1) := by decide +kernel
theorem dX3_merge_8 : decode cX3_merge 8 = .ok (.invokevirtual 54, 3) := by decide +kernel
theorem dX3_merge_11 : decode cX3_merge 11 = .ok (.astore 4, 2) := by decide +kernel
theorem dX3_merge_13 : decode cX3_merge 13 = .ok (.aload_n 3, 1) := by decide +kernel
theorem dX3_merge_14 : decode cX3_merge 14 = .ok (.invokestatic 71, 3) := by decide +kernel
theorem dX3_merge_17 : decode cX3_merge 17 = .ok (.aload 4, 2) := by decide +kernel
theorem dX3_merge_19 : decode cX3_merge 19 = .ok (.invokestatic 71, 3) := by decide +kernel
theorem dX3_merge_22 : decode cX3_merge 22 = .ok (.aload 4, 2) := by decide +kernel
theorem dX3_merge_24 : decode cX3_merge 24 = .ok (.getfield 58, 3) := by decide +kernel
theorem dX3_merge_27 : decode cX3_merge 27 = .ok (.aload_n 3, 1) := by decide +kernel
theorem dX3_merge_28 : decode cX3_merge 28 = .ok (.getfield 61, 3) := by decide +kernel
theorem dX3_merge_31 : decode cX3_merge 31 = .ok (.if_icmp .eq 13, 3) := by decide +kernel
theorem dX3_merge_34 : decode cX3_merge 34 = .ok (.new 80, 3) := by decide +kernel
theorem dX3_merge_37 : decode cX3_merge 37 = .ok (.dup, 1) := by decide +kernel
theorem dX3_merge_38 : decode cX3_merge 38 = .ok (.ldc 82, 2) := by decide +kernel
theorem dX3_merge_40 : decode cX3_merge 40 = .ok (.invokespecial 84, 3) := by decide +kernel
theorem dX3_merge_43 : decode cX3_merge 43 = .ok (.athrow, 1) := by decide +kernel
theorem dX3_merge_44 : decode cX3_merge 44 = .ok (.aload 4, 2) := by decide +kernel
theorem dX3_merge_46 : decode cX3_merge 46 = .ok (.getfield 74, 3) := by decide +kernel
theorem dX3_merge_49 : decode cX3_merge 49 = .ok (.aload_n 3, 1) := by decide +kernel
theorem dX3_merge_50 : decode cX3_merge 50 = .ok (.getfield 74, 3) := by decide +kernel
theorem dX3_merge_53 : decode cX3_merge 53 = .ok (.if_icmp .ne 15, 3) := by decide +kernel
theorem dX3_merge_56 : decode cX3_merge 56 = .ok (.aload 4, 2) := by decide +kernel
theorem dX3_merge_58 : decode cX3_merge 58 = .ok (.getfield 77, 3) := by decide +kernel
theorem dX3_merge_61 : decode cX3_merge 61 = .ok (.aload_n 3, 1) := by decide +kernel
theorem dX3_merge_62 : decode cX3_merge 62 = .ok (.getfield 77, 3) := by decide +kernel
theorem dX3_merge_65 : decode cX3_merge 65 = .ok (.if_icmp .eq 13, 3) := by decide +kernel
theorem dX3_merge_68 : decode cX3_merge 68 = .ok (.new 80, 3) := by decide +kernel
theorem dX3_merge_71 : decode cX3_merge 71 = .ok (.dup, 1) := by decide +kernel
theorem dX3_merge_72 : decode cX3_merge 72 = .ok (.ldc 85, 2) := by decide +kernel
theorem dX3_merge_74 : decode cX3_merge 74 = .ok (.invokespecial 84, 3) := by decide +kernel
theorem dX3_merge_77 : decode cX3_merge 77 = .ok (.athrow, 1) := by decide +kernel
theorem dX3_merge_78 : decode cX3_merge 78 = .ok (.aload_n 3, 1) := by decide +kernel
theorem dX3_merge_79 : decode cX3_merge 79 = .ok (.aload 4, 2) := by decide +kernel
theorem dX3_merge_81 : decode cX3_merge 81 = .ok (.getfield 61, 3) := by decide +kernel
theorem dX3_merge_84 : decode cX3_merge 84 = .ok (.putfield 61, 3) := by decide +kernel
theorem dX3_merge_87 : decode cX3_merge 87 = .ok (.aload_n 0, 1) := by decide +kernel
theorem dX3_merge_88 : decode cX3_merge 88 = .ok (.aload 4, 2) := by decide +kernel
theorem dX3_merge_90 : decode cX3_merge 90 = .ok (.aload_n 3, 1) := by decide +kernel
theorem dX3_merge_91 : decode cX3_merge 91 = .ok (.invokevirtual 46, 3) := by decide +kernel
theorem dX3_merge_94 : decode cX3_merge 94 = .ok (.aload 4, 2) := by decide +kernel
theorem dX3_merge_96 : decode cX3_merge 96 = .ok (.iconst 2, 1) := by decide +kernel
theorem dX3_merge_97 : decode cX3_merge 97 = .ok (.putfield 87, 3) := by decide +kernel
theorem dX3_merge_100 : decode cX3_merge 100 = .ok (.aload_n 0, 1) := by decide +kernel
theorem dX3_merge_101 : decode cX3_merge 101 = .ok (.aload_n 3, 1) := by decide +kernel
theorem dX3_merge_102 : decode cX3_merge 102 = .ok (.invokevirtual 50, 3) := by decide +kernel
theorem dX3_merge_105 : decode cX3_merge 105 = .ok (.ireturn, 1) := by decide +kernel
set_option maxRecDepth 20000 in
theorem ggX3_detach_X3_livingPartWithRange : GoodIn wsX3_detach wsX3_livingPartWithRange := goodIn_ca (goodIn_r _ [7, 8, 9, 10, 11, 12, 13, 6, 14, 1, 15, 16, 17, 18, 19, 37, 38, 39, 40, 41, 42, 31, 32, 33, 34, 35, 36] (by decide +kernel) (by decide +kernel)) (goodIn_sub (fun _ h => List.mem_cons_of_mem _ (List.mem_append_left _ (List.mem_append_right _ h))) (by decide +kernel))
set_option maxRecDepth 20000 in
theorem gX3_detach_X3_livingPartWithRange : GoodIn wsX3_detach (wsV RX3 54 RX3 yX3_livingPartWithRange wsX3_livingPartWithRange) := goodIn_app (goodIn_of _ (by decide +kernel)) ggX3_detach_X3_livingPartWithRange
set_option maxRecDepth 20000 in
theorem ggX3_detach_X3_refuseUnlessAttached : GoodIn wsX3_detach wsX3_refuseUnlessAttached := goodIn_ca (goodIn_r _ [22, 23, 24, 1, 31, 32, 33, 34, 35, 36] (by decide +kernel) (by decide +kernel)) (goodIn_sub (fun _ h => List.mem_cons_of_mem _ (List.mem_append_right _ h)) (by decide +kernel))
set_option maxRecDepth 20000 in
theorem gX3_detach_X3_refuseUnlessAttached : GoodIn wsX3_detach (va_wsS RX3 71 yX3_refuseUnlessAttached wsX3_refuseUnlessAttached) := goodIn_app (goodIn_of _ (by decide +kernel)) ggX3_detach_X3_refuseUnlessAttached
set_option maxRecDepth 20000 in
theorem ggX3_detach_X3_rowsOf : GoodIn wsX3_detach wsX3_rowsOf := goodIn_r _ [28, 29, 30, 37, 38, 39, 40, 41, 42, 43, 44, 45, 46] (by decide +kernel) (by decide +kernel)
set_option maxRecDepth 20000 in
theorem gX3_detach_X3_rowsOf : GoodIn wsX3_detach (wsV RX3 50 RX3 yX3_rowsOf wsX3_rowsOf) := goodIn_app (goodIn_of _ (by decide +kernel)) ggX3_detach_X3_rowsOf
theorem dX3_detach_0 : decode cX3_detach 0 = .ok (.aload_n 0, 1) := by decide +kernel
theorem dX3_detach_1 : decode cX3_detach 1 = .ok (.iload_n 1, 1) := by decide +kernel
theorem dX3_detach_2 : decode cX3_detach 2 = .ok (.invokevirtual 54, 3) := by decide +kernel
theorem dX3_detach_5 : decode cX3_detach 5 = .ok (.astore_n 2, 1) := by decide +kernel
theorem dX3_detach_6 : decode cX3_detach 6 = .ok (.aload_n 2, 1) := by decide +kernel
theorem dX3_detach_7 : decode cX3_detach 7 = .ok (.invokestatic 71, 3) := by decide +kernel
theorem dX3_detach_10 : decode cX3_detach 10 = .ok (.aload_n 2, 1) := by decide +kernel
theorem dX3_detach_11 : decode cX3_detach 11 = .ok (.iconst 1, 1) := by decide +kernel
theorem dX3_detach_12 : decode cX3_detach 12 = .ok (.putfield 87, 3) := by decide +kernel
theorem dX3_detach_15 : decode cX3_detach 15 = .ok (.aload_n 0, 1) := by decide +kernel
theorem dX3_detach_16 : decode cX3_detach 16 = .ok (.iconst 1, 1) := by decide +kernel
theorem dX3_detach_17 : decode cX3_detach 17 = .ok (.putfield 90, 3) := by decide +kernel
theorem dX3_detach_20 : decode cX3_detach 20 = .ok (.aload_n 0, 1) := by decide +kernel
theorem dX3_detach_21 : decode cX3_detach 21 = .ok (.aload_n 2, 1) := by decide +kernel
theorem dX3_detach_22 : decode cX3_detach 22 = .ok (.invokevirtual 50, 3) := by decide +kernel
theorem dX3_detach_25 : decode cX3_detach 25 = .ok (.ireturn, 1) := by decide +kernel
set_option maxRecDepth 20000 in
theorem ggX3_attach_X3_livingPartWithRange : GoodIn wsX3_attach wsX3_livingPartWithRange := goodIn_ca (goodIn_r _ [7, 8, 9, 10, 11, 12, 13, 6, 14, 1, 15, 16, 17, 18, 19, 57, 58, 59, 60, 61, 62, 51, 52, 53, 54, 55, 56] (by decide +kernel) (by decide +kernel)) (goodIn_sub (fun _ h => List.mem_cons_of_mem _ (List.mem_append_left _ (List.mem_append_right _ h))) (by decide +kernel))
set_option maxRecDepth 20000 in
theorem gX3_attach_X3_livingPartWithRange : GoodIn wsX3_attach (wsV RX3 54 RX3 yX3_livingPartWithRange wsX3_livingPartWithRange) := goodIn_app (goodIn_of _ (by decide +kernel)) ggX3_attach_X3_livingPartWithRange
set_option maxRecDepth 20000 in
theorem ggX3_attach_X3_refuseUnlessDetached : GoodIn wsX3_attach wsX3_refuseUnlessDetached := goodIn_ca (goodIn_r _ [22, 23, 24, 1, 51, 52, 53, 54, 55, 56] (by decide +kernel) (by decide +kernel)) (goodIn_sub (fun _ h => List.mem_cons_of_mem _ (List.mem_append_right _ h)) (by decide +kernel))
set_option maxRecDepth 20000 in
theorem gX3_attach_X3_refuseUnlessDetached : GoodIn wsX3_attach (va_wsS RX3 94 yX3_refuseUnlessDetached wsX3_refuseUnlessDetached) := goodIn_app (goodIn_of _ (by decide +kernel)) ggX3_attach_X3_refuseUnlessDetached
set_option maxRecDepth 20000 in
theorem ggX3_attach_X3_refuseOverlap : GoodIn wsX3_attach wsX3_refuseOverlap := goodIn_ca (goodIn_r _ [28, 23, 24, 19, 1, 29, 30, 31, 32, 33, 34, 35, 57, 58, 59, 60, 61, 62, 51, 52, 53, 54, 55, 56] (by decide +kernel) (by decide +kernel)) (goodIn_sub (fun _ h => List.mem_cons_of_mem _ (List.mem_append_right _ h)) (by decide +kernel))
set_option maxRecDepth 20000 in
theorem gX3_attach_X3_refuseOverlap : GoodIn wsX3_attach (wsV RX3 32 RX3 yX3_refuseOverlap wsX3_refuseOverlap) := goodIn_app (goodIn_of _ (by decide +kernel)) ggX3_attach_X3_refuseOverlap
set_option maxRecDepth 20000 in
theorem ggX3_attach_X3_refuseRowsOfRest : GoodIn wsX3_attach wsX3_refuseRowsOfRest := goodIn_ca (goodIn_r _ [39, 23, 24, 40, 41, 10, 42, 43, 44, 45, 32, 46, 34, 35, 57, 58, 59, 60, 61, 62, 63, 64, 65, 66, 51, 52, 53, 54, 55, 56] (by decide +kernel) (by decide +kernel)) (goodIn_sub (fun _ h => List.mem_cons_of_mem _ (List.mem_append_right _ h)) (by decide +kernel))
set_option maxRecDepth 20000 in
theorem gX3_attach_X3_refuseRowsOfRest : GoodIn wsX3_attach (wsV RX3 36 RX3 yX3_refuseRowsOfRest wsX3_refuseRowsOfRest) := goodIn_app (goodIn_of _ (by decide +kernel)) ggX3_attach_X3_refuseRowsOfRest
set_option maxRecDepth 20000 in
theorem ggX3_attach_X3_rowsOf : GoodIn wsX3_attach wsX3_rowsOf := goodIn_r _ [50, 40, 41, 57, 58, 59, 60, 61, 62, 63, 64, 65, 66] (by decide +kernel) (by decide +kernel)
set_option maxRecDepth 20000 in
theorem gX3_attach_X3_rowsOf : GoodIn wsX3_attach (wsV RX3 50 RX3 yX3_rowsOf wsX3_rowsOf) := goodIn_app (goodIn_of _ (by decide +kernel)) ggX3_attach_X3_rowsOf
theorem dX3_attach_0 : decode cX3_attach 0 = .ok (.aload_n 0, 1) := by decide +kernel
theorem dX3_attach_1 : decode cX3_attach 1 = .ok (.iload_n 1, 1) := by decide +kernel
theorem dX3_attach_2 : decode cX3_attach 2 = .ok (.invokevirtual 54, 3) := by decide +kernel
theorem dX3_attach_5 : decode cX3_attach 5 = .ok (.astore_n 2, 1) := by decide +kernel
theorem dX3_attach_6 : decode cX3_attach 6 = .ok (.aload_n 2, 1) := by decide +kernel
theorem dX3_attach_7 : decode cX3_attach 7 = .ok (.invokestatic 94, 3) := by decide +kernel
theorem dX3_attach_10 : decode cX3_attach 10 = .ok (.aload_n 0, 1) := by decide +kernel
theorem dX3_attach_11 : decode cX3_attach 11 = .ok (.aload_n 2, 1) := by decide +kernel
theorem dX3_attach_12 : decode cX3_attach 12 = .ok (.invokevirtual 32, 3) := by decide +kernel
theorem dX3_attach_15 : decode cX3_attach 15 = .ok (.aload_n 0, 1) := by decide +kernel
theorem dX3_attach_16 : decode cX3_attach 16 = .ok (.aload_n 2, 1) := by decide +kernel
theorem dX3_attach_17 : decode cX3_attach 17 = .ok (.invokevirtual 36, 3) := by decide +kernel
theorem dX3_attach_20 : decode cX3_attach 20 = .ok (.aload_n 2, 1) := by decide +kernel
theorem dX3_attach_21 : decode cX3_attach 21 = .ok (.iconst 0, 1) := by decide +kernel
theorem dX3_attach_22 : decode cX3_attach 22 = .ok (.putfield 87, 3) := by decide +kernel
theorem dX3_attach_25 : decode cX3_attach 25 = .ok (.aload_n 0, 1) := by decide +kernel
theorem dX3_attach_26 : decode cX3_attach 26 = .ok (.iconst 1, 1) := by decide +kernel
theorem dX3_attach_27 : decode cX3_attach 27 = .ok (.putfield 90, 3) := by decide +kernel
theorem dX3_attach_30 : decode cX3_attach 30 = .ok (.aload_n 0, 1) := by decide +kernel
theorem dX3_attach_31 : decode cX3_attach 31 = .ok (.aload_n 2, 1) := by decide +kernel
theorem dX3_attach_32 : decode cX3_attach 32 = .ok (.invokevirtual 50, 3) := by decide +kernel
theorem dX3_attach_35 : decode cX3_attach 35 = .ok (.ireturn, 1) := by decide +kernel
set_option maxRecDepth 20000 in
theorem ggX3_exchange_X3_livingPartWithRange : GoodIn wsX3_exchange wsX3_livingPartWithRange := goodIn_ca (goodIn_r _ [6, 7, 8, 9, 10, 11, 12, 5, 13, 14, 15, 16, 17, 18, 19, 50, 51, 52, 53, 54, 55, 56, 57, 58, 59, 60, 61] (by decide +kernel) (by decide +kernel)) (goodIn_sub (fun _ h => List.mem_cons_of_mem _ (List.mem_append_left _ (List.mem_append_right _ h))) (by decide +kernel))
set_option maxRecDepth 20000 in
theorem gX3_exchange_X3_livingPartWithRange : GoodIn wsX3_exchange (wsV RX3 54 RX3 yX3_livingPartWithRange wsX3_livingPartWithRange) := goodIn_app (goodIn_of _ (by decide +kernel)) ggX3_exchange_X3_livingPartWithRange
set_option maxRecDepth 20000 in
theorem ggX3_exchange_X3_refuseUnlessAttached : GoodIn wsX3_exchange wsX3_refuseUnlessAttached := goodIn_ca (goodIn_r _ [22, 23, 24, 14, 56, 57, 58, 59, 60, 61] (by decide +kernel) (by decide +kernel)) (goodIn_sub (fun _ h => List.mem_cons_of_mem _ (List.mem_append_right _ h)) (by decide +kernel))
set_option maxRecDepth 20000 in
theorem gX3_exchange_X3_refuseUnlessAttached : GoodIn wsX3_exchange (va_wsS RX3 71 yX3_refuseUnlessAttached wsX3_refuseUnlessAttached) := goodIn_app (goodIn_of _ (by decide +kernel)) ggX3_exchange_X3_refuseUnlessAttached
set_option maxRecDepth 20000 in
theorem ggX3_exchange_X3_refuseUnlessDetached : GoodIn wsX3_exchange wsX3_refuseUnlessDetached := goodIn_ca (goodIn_r _ [27, 23, 24, 14, 56, 57, 58, 59, 60, 61] (by decide +kernel) (by decide +kernel)) (goodIn_sub (fun _ h => List.mem_cons_of_mem _ (List.mem_append_right _ h)) (by decide +kernel))
set_option maxRecDepth 20000 in
theorem gX3_exchange_X3_refuseUnlessDetached : GoodIn wsX3_exchange (va_wsS RX3 94 yX3_refuseUnlessDetached wsX3_refuseUnlessDetached) := goodIn_app (goodIn_of _ (by decide +kernel)) ggX3_exchange_X3_refuseUnlessDetached
set_option maxRecDepth 20000 in
theorem ggX3_exchange_X3_refuseForeignRows : GoodIn wsX3_exchange wsX3_refuseForeignRows := goodIn_ca (goodIn_r _ [31, 23, 24, 32, 33, 34, 35, 36, 37, 38, 39, 40, 41, 50, 51, 52, 53, 54, 55, 62, 63, 64, 65, 56, 57, 58, 59, 60, 61] (by decide +kernel) (by decide +kernel)) (goodIn_sub (fun _ h => List.mem_cons_of_mem _ (List.mem_append_right _ h)) (by decide +kernel))
set_option maxRecDepth 20000 in
theorem gX3_exchange_X3_refuseForeignRows : GoodIn wsX3_exchange (wsV RX3 97 RX3 yX3_refuseForeignRows wsX3_refuseForeignRows) := goodIn_app (goodIn_of _ (by decide +kernel)) ggX3_exchange_X3_refuseForeignRows
set_option maxRecDepth 20000 in
theorem ggX3_exchange_X3_swapRows : GoodIn wsX3_exchange wsX3_swapRows := goodIn_r _ [45, 32, 33, 50, 51, 52, 53, 54, 55, 62, 63, 64, 65] (by decide +kernel) (by decide +kernel)
set_option maxRecDepth 20000 in
theorem gX3_exchange_X3_swapRows : GoodIn wsX3_exchange (wsV RX3 100 RX3 yX3_swapRows wsX3_swapRows) := goodIn_app (goodIn_of _ (by decide +kernel)) ggX3_exchange_X3_swapRows
set_option maxRecDepth 20000 in
theorem ggX3_exchange_X3_rowsOf : GoodIn wsX3_exchange wsX3_rowsOf := goodIn_r _ [49, 32, 33, 50, 51, 52, 53, 54, 55, 62, 63, 64, 65] (by decide +kernel) (by decide +kernel)
set_option maxRecDepth 20000 in
theorem gX3_exchange_X3_rowsOf : GoodIn wsX3_exchange (wsV RX3 50 RX3 yX3_rowsOf wsX3_rowsOf) := goodIn_app (goodIn_of _ (by decide +kernel)) ggX3_exchange_X3_rowsOf
theorem dX3_exchange_0 : decode cX3_exchange 0 = .ok (.aload_n 0, 1) := by decide +kernel
theorem dX3_exchange_1 : decode cX3_exchange 1 = .ok (.iload_n 1, 1) := by decide +kernel
theorem dX3_exchange_2 : decode cX3_exchange 2 = .ok (.invokevirtual 54, 3) := by decide +kernel
theorem dX3_exchange_5 : decode cX3_exchange 5 = .ok (.astore_n 3, 1) := by decide +kernel
theorem dX3_exchange_6 : decode cX3_exchange 6 = .ok (.aload_n 0, 1) := by decide +kernel
theorem dX3_exchange_7 : decode cX3_exchange 7 = .ok (.iload_n 2, 1) := by decide +kernel
theorem dX3_exchange_8 : decode cX3_exchange 8 = .ok (.invokevirtual 54, 3) := by decide +kernel
theorem dX3_exchange_11 : decode cX3_exchange 11 = .ok (.astore 4, 2) := by decide +kernel
theorem dX3_exchange_13 : decode cX3_exchange 13 = .ok (.aload_n 3, 1) := by decide +kernel
theorem dX3_exchange_14 : decode cX3_exchange 14 = .ok (.invokestatic 71, 3) := by decide +kernel
theorem dX3_exchange_17 : decode cX3_exchange 17 = .ok (.aload 4, 2) := by decide +kernel
theorem dX3_exchange_19 : decode cX3_exchange 19 = .ok (.invokestatic 94, 3) := by decide +kernel
theorem dX3_exchange_22 : decode cX3_exchange 22 = .ok (.aload_n 0, 1) := by decide +kernel
theorem dX3_exchange_23 : decode cX3_exchange 23 = .ok (.aload_n 3, 1) := by decide +kernel
theorem dX3_exchange_24 : decode cX3_exchange 24 = .ok (.aload 4, 2) := by decide +kernel
theorem dX3_exchange_26 : decode cX3_exchange 26 = .ok (.invokevirtual 97, 3) := by decide +kernel
theorem dX3_exchange_29 : decode cX3_exchange 29 = .ok (.aload_n 0, 1) := by decide +kernel
theorem dX3_exchange_30 : decode cX3_exchange 30 = .ok (.aload 4, 2) := by decide +kernel
theorem dX3_exchange_32 : decode cX3_exchange 32 = .ok (.aload_n 3, 1) := by decide +kernel
theorem dX3_exchange_33 : decode cX3_exchange 33 = .ok (.invokevirtual 97, 3) := by decide +kernel
theorem dX3_exchange_36 : decode cX3_exchange 36 = .ok (.aload_n 0, 1) := by decide +kernel
theorem dX3_exchange_37 : decode cX3_exchange 37 = .ok (.aload_n 3, 1) := by decide +kernel
theorem dX3_exchange_38 : decode cX3_exchange 38 = .ok (.aload 4, 2) := by decide +kernel
theorem dX3_exchange_40 : decode cX3_exchange 40 = .ok (.invokevirtual 100, 3) := by decide +kernel
theorem dX3_exchange_43 : decode cX3_exchange 43 = .ok (.aload_n 0, 1) := by decide +kernel
theorem dX3_exchange_44 : decode cX3_exchange 44 = .ok (.iconst 1, 1) := by decide +kernel
theorem dX3_exchange_45 : decode cX3_exchange 45 = .ok (.putfield 90, 3) := by decide +kernel
theorem dX3_exchange_48 : decode cX3_exchange 48 = .ok (.aload_n 0, 1) := by decide +kernel
theorem dX3_exchange_49 : decode cX3_exchange 49 = .ok (.aload_n 3, 1) := by decide +kernel
theorem dX3_exchange_50 : decode cX3_exchange 50 = .ok (.invokevirtual 50, 3) := by decide +kernel
theorem dX3_exchange_53 : decode cX3_exchange 53 = .ok (.ireturn, 1) := by decide +kernel
set_option maxRecDepth 20000 in
theorem ggX3_insert_X3_checkKey : GoodIn wsX3_insert wsX3_checkKey := goodIn_ca (goodIn_r _ [11, 12, 13] (by decide +kernel) (by decide +kernel)) (goodIn_sub (fun _ h => List.mem_cons_of_mem _ (List.mem_append_right _ h)) (by decide +kernel))
set_option maxRecDepth 20000 in
theorem gX3_insert_X3_checkKey : GoodIn wsX3_insert (va_wsS RX3 103 yX3_checkKey wsX3_checkKey) := goodIn_app (goodIn_of _ (by decide +kernel)) ggX3_insert_X3_checkKey
set_option maxRecDepth 20000 in
theorem ggX3_insert_X3_checkSort : GoodIn wsX3_insert wsX3_checkSort := goodIn_ca (goodIn_r _ [16, 12, 13] (by decide +kernel) (by decide +kernel)) (goodIn_sub (fun _ h => List.mem_cons_of_mem _ (List.mem_append_right _ h)) (by decide +kernel))
set_option maxRecDepth 20000 in
theorem gX3_insert_X3_checkSort : GoodIn wsX3_insert (va_wsS RX3 107 yX3_checkSort wsX3_checkSort) := goodIn_app (goodIn_of _ (by decide +kernel)) ggX3_insert_X3_checkSort
set_option maxRecDepth 20000 in
theorem ggX3_insert_X3_checkValue : GoodIn wsX3_insert wsX3_checkValue := goodIn_ca (goodIn_r _ [19, 12, 13] (by decide +kernel) (by decide +kernel)) (goodIn_sub (fun _ h => List.mem_cons_of_mem _ (List.mem_append_right _ h)) (by decide +kernel))
set_option maxRecDepth 20000 in
theorem gX3_insert_X3_checkValue : GoodIn wsX3_insert (va_wsS RX3 110 yX3_checkValue wsX3_checkValue) := goodIn_app (goodIn_of _ (by decide +kernel)) ggX3_insert_X3_checkValue
set_option maxRecDepth 20000 in
theorem ggX3_insert_X3_holderOf : GoodIn wsX3_insert wsX3_holderOf := goodIn_r _ [23, 24, 25, 26, 27, 28, 29, 30, 31, 32, 33, 44, 45, 46, 47, 48, 49, 54, 55, 56, 57, 58, 59] (by decide +kernel) (by decide +kernel)
set_option maxRecDepth 20000 in
theorem gX3_insert_X3_holderOf : GoodIn wsX3_insert (wsV RX3 118 RX3 yX3_holderOf wsX3_holderOf) := goodIn_app (goodIn_of _ (by decide +kernel)) ggX3_insert_X3_holderOf
set_option maxRecDepth 20000 in
theorem ggX3_insert_X2_init : GoodIn wsX3_insert wsX2_init := goodIn_r _ [36, 37, 38, 39, 40, 41, 42, 43, 50, 51, 52, 53] (by decide +kernel) (by decide +kernel)
set_option maxRecDepth 20000 in
theorem gX3_insert_X2_init : GoodIn wsX3_insert (wsX2_init) := ggX3_insert_X2_init
theorem dX3_insert_0 : decode cX3_insert 0 = .ok (.iload_n 1, 1) := by decide +kernel
theorem dX3_insert_1 : decode cX3_insert 1 = .ok (.invokestatic 103, 3) := by decide +kernel
theorem dX3_insert_4 : decode cX3_insert 4 = .ok (.iload_n 2, 1) := by decide +kernel
theorem dX3_insert_5 : decode cX3_insert 5 = .ok (.invokestatic 107, 3) := by decide +kernel
theorem dX3_insert_8 : decode cX3_insert 8 = .ok (.iload_n 3, 1) := by decide +kernel
theorem dX3_insert_9 : decode cX3_insert 9 = .ok (.invokestatic 110, 3) := by decide +kernel
theorem dX3_insert_12 : decode cX3_insert 12 = .ok (.aload_n 0, 1) := by decide +kernel
theorem dX3_insert_13 : decode cX3_insert 13 = .ok (.getfield 113, 3) := by decide +kernel
theorem dX3_insert_16 : decode cX3_insert 16 = .ok (.istore 4, 2) := by decide +kernel
theorem dX3_insert_18 : decode cX3_insert 18 = .ok (.iload 4, 2) := by decide +kernel
theorem dX3_insert_20 : decode cX3_insert 20 = .ok (.aload_n 0, 1) := by decide +kernel
theorem dX3_insert_21 : decode cX3_insert 21 = .ok (.getfield 24, 3) := by decide +kernel
theorem dX3_insert_24 : decode cX3_insert 24 = .ok (.arraylength, 1) := by decide +kernel
theorem dX3_insert_25 : decode cX3_insert 25 = .ok (.if_icmp .lt 13, 3) := by decide +kernel
theorem dX3_insert_28 : decode cX3_insert 28 = .ok (.new 80, 3) := by decide +kernel
theorem dX3_insert_31 : decode cX3_insert 31 = .ok (.dup, 1) := by decide +kernel
theorem dX3_insert_32 : decode cX3_insert 32 = .ok (.ldc 116, 2) := by decide +kernel
theorem dX3_insert_34 : decode cX3_insert 34 = .ok (.invokespecial 84, 3) := by decide +kernel
theorem dX3_insert_37 : decode cX3_insert 37 = .ok (.athrow, 1) := by decide +kernel
theorem dX3_insert_38 : decode cX3_insert 38 = .ok (.aload_n 0, 1) := by decide +kernel
theorem dX3_insert_39 : decode cX3_insert 39 = .ok (.getfield 24, 3) := by decide +kernel
theorem dX3_insert_42 : decode cX3_insert 42 = .ok (.iload 4, 2) := by decide +kernel
theorem dX3_insert_44 : decode cX3_insert 44 = .ok (.new 22, 3) := by decide +kernel
theorem dX3_insert_47 : decode cX3_insert 47 = .ok (.dup, 1) := by decide +kernel
theorem dX3_insert_48 : decode cX3_insert 48 = .ok (.iload_n 1, 1) := by decide +kernel
theorem dX3_insert_49 : decode cX3_insert 49 = .ok (.iload_n 2, 1) := by decide +kernel
theorem dX3_insert_50 : decode cX3_insert 50 = .ok (.iload_n 3, 1) := by decide +kernel
theorem dX3_insert_51 : decode cX3_insert 51 = .ok (.aload_n 0, 1) := by decide +kernel
theorem dX3_insert_52 : decode cX3_insert 52 = .ok (.iload_n 1, 1) := by decide +kernel
theorem dX3_insert_53 : decode cX3_insert 53 = .ok (.invokevirtual 118, 3) := by decide +kernel
theorem dX3_insert_56 : decode cX3_insert 56 = .ok (.invokespecial 121, 3) := by decide +kernel
theorem dX3_insert_59 : decode cX3_insert 59 = .ok (.aastore, 1) := by decide +kernel
theorem dX3_insert_60 : decode cX3_insert 60 = .ok (.aload_n 0, 1) := by decide +kernel
theorem dX3_insert_61 : decode cX3_insert 61 = .ok (.iload 4, 2) := by decide +kernel
theorem dX3_insert_63 : decode cX3_insert 63 = .ok (.iconst 1, 1) := by decide +kernel
theorem dX3_insert_64 : decode cX3_insert 64 = .ok (.iadd, 1) := by decide +kernel
theorem dX3_insert_65 : decode cX3_insert 65 = .ok (.putfield 113, 3) := by decide +kernel
theorem dX3_insert_68 : decode cX3_insert 68 = .ok (.iload 4, 2) := by decide +kernel
theorem dX3_insert_70 : decode cX3_insert 70 = .ok (.ireturn, 1) := by decide +kernel
set_option maxRecDepth 20000 in
theorem ggX3_change_X3_presentRow : GoodIn wsX3_change wsX3_presentRow := goodIn_ca (goodIn_r _ [8, 9, 10, 11, 64, 65, 66, 67, 68, 69] (by decide +kernel) (by decide +kernel)) (goodIn_sub (fun _ h => List.mem_cons_of_mem _ (List.mem_append_left _ (List.mem_append_left _ (List.mem_append_right _ h)))) (by decide +kernel))
set_option maxRecDepth 20000 in
theorem gX3_change_X3_presentRow : GoodIn wsX3_change (wsV RX3 124 RX3 yX3_presentRow wsX3_presentRow) := goodIn_app (goodIn_of _ (by decide +kernel)) ggX3_change_X3_presentRow
set_option maxRecDepth 20000 in
theorem ggX3_change_X3_checkKey : GoodIn wsX3_change wsX3_checkKey := goodIn_ca (goodIn_r _ [14, 15, 16] (by decide +kernel) (by decide +kernel)) (goodIn_sub (fun _ h => List.mem_cons_of_mem _ (List.mem_append_left _ (List.mem_append_right _ h))) (by decide +kernel))
set_option maxRecDepth 20000 in
theorem gX3_change_X3_checkKey : GoodIn wsX3_change (va_wsS RX3 103 yX3_checkKey wsX3_checkKey) := goodIn_app (goodIn_of _ (by decide +kernel)) ggX3_change_X3_checkKey
set_option maxRecDepth 20000 in
theorem ggX3_change_X3_checkSort : GoodIn wsX3_change wsX3_checkSort := goodIn_ca (goodIn_r _ [19, 15, 16] (by decide +kernel) (by decide +kernel)) (goodIn_sub (fun _ h => List.mem_cons_of_mem _ (List.mem_append_left _ (List.mem_append_right _ h))) (by decide +kernel))
set_option maxRecDepth 20000 in
theorem gX3_change_X3_checkSort : GoodIn wsX3_change (va_wsS RX3 107 yX3_checkSort wsX3_checkSort) := goodIn_app (goodIn_of _ (by decide +kernel)) ggX3_change_X3_checkSort
set_option maxRecDepth 20000 in
theorem ggX3_change_X3_refuseUnlessAttached : GoodIn wsX3_change wsX3_refuseUnlessAttached := goodIn_ca (goodIn_r _ [22, 23, 24, 25, 70, 71, 72, 73, 74, 75] (by decide +kernel) (by decide +kernel)) (goodIn_sub (fun _ h => List.mem_cons_of_mem _ (List.mem_append_right _ h)) (by decide +kernel))
set_option maxRecDepth 20000 in
theorem gX3_change_X3_refuseUnlessAttached : GoodIn wsX3_change (va_wsS RX3 71 yX3_refuseUnlessAttached wsX3_refuseUnlessAttached) := goodIn_app (goodIn_of _ (by decide +kernel)) ggX3_change_X3_refuseUnlessAttached
set_option maxRecDepth 20000 in
theorem ggX3_change_X2_place : GoodIn wsX3_change wsX2_place := goodIn_r _ [30, 31, 32, 33, 34, 35, 36, 37, 38, 39, 40, 41, 42, 7, 43, 44, 45, 46, 47, 60, 61, 62, 63, 70, 71, 72, 73, 74, 75] (by decide +kernel) (by decide +kernel)
set_option maxRecDepth 20000 in
theorem gX3_change_X2_place : GoodIn wsX3_change (wsV RX3 131 RX2 yX2_place wsX2_place) := goodIn_app (goodIn_of _ (by decide +kernel)) ggX3_change_X2_place
set_option maxRecDepth 20000 in
theorem ggX3_change_X3_holderOf : GoodIn wsX3_change wsX3_holderOf := goodIn_r _ [51, 52, 25, 53, 54, 55, 56, 38, 57, 58, 59, 64, 65, 66, 67, 68, 69, 70, 71, 72, 73, 74, 75] (by decide +kernel) (by decide +kernel)
set_option maxRecDepth 20000 in
theorem gX3_change_X3_holderOf : GoodIn wsX3_change (wsV RX3 118 RX3 yX3_holderOf wsX3_holderOf) := goodIn_app (goodIn_of _ (by decide +kernel)) ggX3_change_X3_holderOf
theorem dX3_change_0 : decode cX3_change 0 = .ok (.aload_n 0, 1) := by decide +kernel
theorem dX3_change_1 : decode cX3_change 1 = .ok (.iload_n 1, 1) := by decide +kernel
theorem dX3_change_2 : decode cX3_change 2 = .ok (.invokevirtual 124, 3) := by decide +kernel
theorem dX3_change_5 : decode cX3_change 5 = .ok (.astore 4, 2) := by decide +kernel
theorem dX3_change_7 : decode cX3_change 7 = .ok (.iload_n 2, 1) := by decide +kernel
theorem dX3_change_8 : decode cX3_change 8 = .ok (.invokestatic 103, 3) := by decide +kernel
theorem dX3_change_11 : decode cX3_change 11 = .ok (.iload_n 3, 1) := by decide +kernel
theorem dX3_change_12 : decode cX3_change 12 = .ok (.invokestatic 107, 3) := by decide +kernel
theorem dX3_change_15 : decode cX3_change 15 = .ok (.aload 4, 2) := by decide +kernel
theorem dX3_change_17 : decode cX3_change 17 = .ok (.getfield 128, 3) := by decide +kernel
theorem dX3_change_20 : decode cX3_change 20 = .ok (.invokestatic 71, 3) := by decide +kernel
theorem dX3_change_23 : decode cX3_change 23 = .ok (.aload 4, 2) := by decide +kernel
theorem dX3_change_25 : decode cX3_change 25 = .ok (.invokevirtual 131, 3) := by decide +kernel
theorem dX3_change_28 : decode cX3_change 28 = .ok (.istore 5, 2) := by decide +kernel
theorem dX3_change_30 : decode cX3_change 30 = .ok (.aload 4, 2) := by decide +kernel
theorem dX3_change_32 : decode cX3_change 32 = .ok (.iload_n 2, 1) := by decide +kernel
theorem dX3_change_33 : decode cX3_change 33 = .ok (.putfield 135, 3) := by decide +kernel
theorem dX3_change_36 : decode cX3_change 36 = .ok (.aload 4, 2) := by decide +kernel
theorem dX3_change_38 : decode cX3_change 38 = .ok (.iload_n 3, 1) := by decide +kernel
theorem dX3_change_39 : decode cX3_change 39 = .ok (.putfield 138, 3) := by decide +kernel
theorem dX3_change_42 : decode cX3_change 42 = .ok (.aload 4, 2) := by decide +kernel
theorem dX3_change_44 : decode cX3_change 44 = .ok (.aload_n 0, 1) := by decide +kernel
theorem dX3_change_45 : decode cX3_change 45 = .ok (.iload_n 2, 1) := by decide +kernel
theorem dX3_change_46 : decode cX3_change 46 = .ok (.invokevirtual 118, 3) := by decide +kernel
theorem dX3_change_49 : decode cX3_change 49 = .ok (.putfield 128, 3) := by decide +kernel
theorem dX3_change_52 : decode cX3_change 52 = .ok (.aload 4, 2) := by decide +kernel
theorem dX3_change_54 : decode cX3_change 54 = .ok (.invokevirtual 131, 3) := by decide +kernel
theorem dX3_change_57 : decode cX3_change 57 = .ok (.iload 5, 2) := by decide +kernel
theorem dX3_change_59 : decode cX3_change 59 = .ok (.if_icmp .eq 7, 3) := by decide +kernel
theorem dX3_change_62 : decode cX3_change 62 = .ok (.iconst 1, 1) := by decide +kernel
theorem dX3_change_63 : decode cX3_change 63 = .ok (.goto 4, 3) := by decide +kernel
theorem dX3_change_66 : decode cX3_change 66 = .ok (.iconst 0, 1) := by decide +kernel
theorem dX3_change_67 : decode cX3_change 67 = .ok (.ireturn, 1) := by decide +kernel
set_option maxRecDepth 20000 in
theorem ggX3_remove_X3_presentRow : GoodIn wsX3_remove wsX3_presentRow := goodIn_ca (goodIn_r _ [7, 8, 9, 1, 10, 11, 12, 13, 14, 15] (by decide +kernel) (by decide +kernel)) (goodIn_sub (fun _ h => List.mem_cons_of_mem _ (List.mem_append_right _ h)) (by decide +kernel))
set_option maxRecDepth 20000 in
theorem gX3_remove_X3_presentRow : GoodIn wsX3_remove (wsV RX3 124 RX3 yX3_presentRow wsX3_presentRow) := goodIn_app (goodIn_of _ (by decide +kernel)) ggX3_remove_X3_presentRow
theorem dX3_remove_0 : decode cX3_remove 0 = .ok (.aload_n 0, 1) := by decide +kernel
theorem dX3_remove_1 : decode cX3_remove 1 = .ok (.iload_n 1, 1) := by decide +kernel
theorem dX3_remove_2 : decode cX3_remove 2 = .ok (.invokevirtual 124, 3) := by decide +kernel
theorem dX3_remove_5 : decode cX3_remove 5 = .ok (.astore_n 2, 1) := by decide +kernel
theorem dX3_remove_6 : decode cX3_remove 6 = .ok (.aload_n 0, 1) := by decide +kernel
theorem dX3_remove_7 : decode cX3_remove 7 = .ok (.getfield 24, 3) := by decide +kernel
theorem dX3_remove_10 : decode cX3_remove 10 = .ok (.iload_n 1, 1) := by decide +kernel
theorem dX3_remove_11 : decode cX3_remove 11 = .ok (.aconst_null, 1) := by decide +kernel
theorem dX3_remove_12 : decode cX3_remove 12 = .ok (.aastore, 1) := by decide +kernel
theorem dX3_remove_13 : decode cX3_remove 13 = .ok (.aload_n 2, 1) := by decide +kernel
theorem dX3_remove_14 : decode cX3_remove 14 = .ok (.getfield 141, 3) := by decide +kernel
theorem dX3_remove_17 : decode cX3_remove 17 = .ok (.ireturn, 1) := by decide +kernel
theorem dX3_parts_0 : decode cX3_parts 0 = .ok (.aload_n 0, 1) := by decide +kernel
theorem dX3_parts_1 : decode cX3_parts 1 = .ok (.getfield 144, 3) := by decide +kernel
theorem dX3_parts_4 : decode cX3_parts 4 = .ok (.ireturn, 1) := by decide +kernel
set_option maxRecDepth 20000 in
theorem ggX3_stateOf_X3_knownPart : GoodIn wsX3_stateOf wsX3_knownPart := goodIn_ca (goodIn_r _ [6, 7, 8, 9, 16, 17, 18, 19, 20, 21] (by decide +kernel) (by decide +kernel)) (goodIn_sub (fun _ h => List.mem_cons_of_mem _ (List.mem_append_right _ h)) (by decide +kernel))
set_option maxRecDepth 20000 in
theorem gX3_stateOf_X3_knownPart : GoodIn wsX3_stateOf (wsV RX3 147 RX3 yX3_knownPart wsX3_knownPart) := goodIn_app (goodIn_of _ (by decide +kernel)) ggX3_stateOf_X3_knownPart
theorem dX3_stateOf_0 : decode cX3_stateOf 0 = .ok (.aload_n 0, 1) := by decide +kernel
theorem dX3_stateOf_1 : decode cX3_stateOf 1 = .ok (.iload_n 1, 1) := by decide +kernel
theorem dX3_stateOf_2 : decode cX3_stateOf 2 = .ok (.invokevirtual 147, 3) := by decide +kernel
theorem dX3_stateOf_5 : decode cX3_stateOf 5 = .ok (.getfield 87, 3) := by decide +kernel
theorem dX3_stateOf_8 : decode cX3_stateOf 8 = .ok (.ireturn, 1) := by decide +kernel
set_option maxRecDepth 20000 in
theorem ggX3_partOf_X3_checkKey : GoodIn wsX3_partOf wsX3_checkKey := goodIn_ca (goodIn_r _ [5, 6, 7] (by decide +kernel) (by decide +kernel)) (goodIn_sub (fun _ h => List.mem_cons_of_mem _ (List.mem_append_right _ h)) (by decide +kernel))
set_option maxRecDepth 20000 in
theorem gX3_partOf_X3_checkKey : GoodIn wsX3_partOf (va_wsS RX3 103 yX3_checkKey wsX3_checkKey) := goodIn_app (goodIn_of _ (by decide +kernel)) ggX3_partOf_X3_checkKey
set_option maxRecDepth 20000 in
theorem ggX3_partOf_X3_holderOf : GoodIn wsX3_partOf wsX3_holderOf := goodIn_r _ [11, 12, 13, 14, 15, 16, 17, 18, 19, 20, 21, 28, 29, 30, 31, 32, 33, 22, 23, 24, 25, 26, 27] (by decide +kernel) (by decide +kernel)
set_option maxRecDepth 20000 in
theorem gX3_partOf_X3_holderOf : GoodIn wsX3_partOf (wsV RX3 118 RX3 yX3_holderOf wsX3_holderOf) := goodIn_app (goodIn_of _ (by decide +kernel)) ggX3_partOf_X3_holderOf
theorem dX3_partOf_0 : decode cX3_partOf 0 = .ok (.iload_n 1, 1) := by decide +kernel
theorem dX3_partOf_1 : decode cX3_partOf 1 = .ok (.invokestatic 103, 3) := by decide +kernel
theorem dX3_partOf_4 : decode cX3_partOf 4 = .ok (.aload_n 0, 1) := by decide +kernel
theorem dX3_partOf_5 : decode cX3_partOf 5 = .ok (.iload_n 1, 1) := by decide +kernel
theorem dX3_partOf_6 : decode cX3_partOf 6 = .ok (.invokevirtual 118, 3) := by decide +kernel
theorem dX3_partOf_9 : decode cX3_partOf 9 = .ok (.getfield 42, 3) := by decide +kernel
theorem dX3_partOf_12 : decode cX3_partOf 12 = .ok (.ireturn, 1) := by decide +kernel
set_option maxRecDepth 20000 in
theorem ggX3_leafOf_X3_presentRow : GoodIn wsX3_leafOf wsX3_presentRow := goodIn_ca (goodIn_r _ [5, 6, 7, 8, 31, 32, 33, 34, 35, 36] (by decide +kernel) (by decide +kernel)) (goodIn_sub (fun _ h => List.mem_cons_of_mem _ (List.mem_append_right _ h)) (by decide +kernel))
set_option maxRecDepth 20000 in
theorem gX3_leafOf_X3_presentRow : GoodIn wsX3_leafOf (wsV RX3 124 RX3 yX3_presentRow wsX3_presentRow) := goodIn_app (goodIn_of _ (by decide +kernel)) ggX3_leafOf_X3_presentRow
set_option maxRecDepth 20000 in
theorem ggX3_leafOf_X2_place : GoodIn wsX3_leafOf wsX2_place := goodIn_r _ [13, 14, 15, 16, 17, 18, 19, 20, 21, 22, 23, 24, 25, 4, 26, 27, 28, 29, 30, 37, 38, 39, 40, 41, 42, 43, 44, 45, 46] (by decide +kernel) (by decide +kernel)
set_option maxRecDepth 20000 in
theorem gX3_leafOf_X2_place : GoodIn wsX3_leafOf (wsV RX3 131 RX2 yX2_place wsX2_place) := goodIn_app (goodIn_of _ (by decide +kernel)) ggX3_leafOf_X2_place
theorem dX3_leafOf_0 : decode cX3_leafOf 0 = .ok (.aload_n 0, 1) := by decide +kernel
theorem dX3_leafOf_1 : decode cX3_leafOf 1 = .ok (.iload_n 1, 1) := by decide +kernel
theorem dX3_leafOf_2 : decode cX3_leafOf 2 = .ok (.invokevirtual 124, 3) := by decide +kernel
theorem dX3_leafOf_5 : decode cX3_leafOf 5 = .ok (.invokevirtual 131, 3) := by decide +kernel
theorem dX3_leafOf_8 : decode cX3_leafOf 8 = .ok (.ireturn, 1) := by decide +kernel
set_option maxRecDepth 20000 in
theorem ggX3_rowsIn_X3_livingPartWithLeaf : GoodIn wsX3_rowsIn wsX3_livingPartWithLeaf := goodIn_ca (goodIn_r _ [6, 7, 8, 9, 10, 11, 5, 12, 13, 14, 15, 16, 17, 18, 19, 20, 21, 22, 23, 24, 25, 50, 51, 52, 53, 54, 55, 44, 45, 46, 47, 48, 49] (by decide +kernel) (by decide +kernel)) (goodIn_sub (fun _ h => List.mem_cons_of_mem _ (List.mem_append_right _ h)) (by decide +kernel))
set_option maxRecDepth 20000 in
theorem gX3_rowsIn_X3_livingPartWithLeaf : GoodIn wsX3_rowsIn (wsV RX3 150 RX3 yX3_livingPartWithLeaf wsX3_livingPartWithLeaf) := goodIn_app (goodIn_of _ (by decide +kernel)) ggX3_rowsIn_X3_livingPartWithLeaf
set_option maxRecDepth 20000 in
theorem ggX3_rowsIn_X2_liesIn : GoodIn wsX3_rowsIn wsX2_liesIn := goodIn_r _ [30, 31, 32, 33, 34, 35, 36, 22, 37, 24, 25, 38, 5, 39, 40, 41, 42, 43, 56, 57, 58, 59, 50, 51, 52, 53, 54, 55] (by decide +kernel) (by decide +kernel)
set_option maxRecDepth 20000 in
theorem gX3_rowsIn_X2_liesIn : GoodIn wsX3_rowsIn (wsV RX3 154 RX2 yX2_liesIn wsX2_liesIn) := goodIn_app (goodIn_of _ (by decide +kernel)) ggX3_rowsIn_X2_liesIn
theorem dX3_rowsIn_0 : decode cX3_rowsIn 0 = .ok (.aload_n 0, 1) := by decide +kernel
theorem dX3_rowsIn_1 : decode cX3_rowsIn 1 = .ok (.iload_n 1, 1) := by decide +kernel
theorem dX3_rowsIn_2 : decode cX3_rowsIn 2 = .ok (.iload_n 2, 1) := by decide +kernel
theorem dX3_rowsIn_3 : decode cX3_rowsIn 3 = .ok (.invokevirtual 150, 3) := by decide +kernel
theorem dX3_rowsIn_6 : decode cX3_rowsIn 6 = .ok (.astore_n 3, 1) := by decide +kernel
theorem dX3_rowsIn_7 : decode cX3_rowsIn 7 = .ok (.iconst 0, 1) := by decide +kernel
theorem dX3_rowsIn_8 : decode cX3_rowsIn 8 = .ok (.istore 4, 2) := by decide +kernel
theorem dX3_rowsIn_10 : decode cX3_rowsIn 10 = .ok (.aload_n 0, 1) := by decide +kernel
theorem dX3_rowsIn_11 : decode cX3_rowsIn 11 = .ok (.getfield 24, 3) := by decide +kernel
theorem dX3_rowsIn_14 : decode cX3_rowsIn 14 = .ok (.astore 5, 2) := by decide +kernel
theorem dX3_rowsIn_16 : decode cX3_rowsIn 16 = .ok (.aload 5, 2) := by decide +kernel
theorem dX3_rowsIn_18 : decode cX3_rowsIn 18 = .ok (.arraylength, 1) := by decide +kernel
theorem dX3_rowsIn_19 : decode cX3_rowsIn 19 = .ok (.istore 6, 2) := by decide +kernel
theorem dX3_rowsIn_21 : decode cX3_rowsIn 21 = .ok (.iconst 0, 1) := by decide +kernel
theorem dX3_rowsIn_22 : decode cX3_rowsIn 22 = .ok (.istore 7, 2) := by decide +kernel
theorem dX3_rowsIn_24 : decode cX3_rowsIn 24 = .ok (.iload 7, 2) := by decide +kernel
theorem dX3_rowsIn_26 : decode cX3_rowsIn 26 = .ok (.iload 6, 2) := by decide +kernel
theorem dX3_rowsIn_28 : decode cX3_rowsIn 28 = .ok (.if_icmp .ge 34, 3) := by decide +kernel
theorem dX3_rowsIn_31 : decode cX3_rowsIn 31 = .ok (.aload 5, 2) := by decide +kernel
theorem dX3_rowsIn_33 : decode cX3_rowsIn 33 = .ok (.iload 7, 2) := by decide +kernel
theorem dX3_rowsIn_35 : decode cX3_rowsIn 35 = .ok (.aaload, 1) := by decide +kernel
theorem dX3_rowsIn_36 : decode cX3_rowsIn 36 = .ok (.astore 8, 2) := by decide +kernel
theorem dX3_rowsIn_38 : decode cX3_rowsIn 38 = .ok (.aload 8, 2) := by decide +kernel
theorem dX3_rowsIn_40 : decode cX3_rowsIn 40 = .ok (.ifnull 16, 3) := by decide +kernel
theorem dX3_rowsIn_43 : decode cX3_rowsIn 43 = .ok (.aload 8, 2) := by decide +kernel
theorem dX3_rowsIn_45 : decode cX3_rowsIn 45 = .ok (.aload_n 3, 1) := by decide +kernel
theorem dX3_rowsIn_46 : decode cX3_rowsIn 46 = .ok (.iload_n 2, 1) := by decide +kernel
theorem dX3_rowsIn_47 : decode cX3_rowsIn 47 = .ok (.invokevirtual 154, 3) := by decide +kernel
theorem dX3_rowsIn_50 : decode cX3_rowsIn 50 = .ok (.ifCond .eq 6, 3) := by decide +kernel
theorem dX3_rowsIn_53 : decode cX3_rowsIn 53 = .ok (.iinc 4 1, 3) := by decide +kernel
theorem dX3_rowsIn_56 : decode cX3_rowsIn 56 = .ok (.iinc 7 1, 3) := by decide +kernel
theorem dX3_rowsIn_59 : decode cX3_rowsIn 59 = .ok (.goto (-35), 3) := by decide +kernel
theorem dX3_rowsIn_62 : decode cX3_rowsIn 62 = .ok (.iload 4, 2) := by decide +kernel
theorem dX3_rowsIn_64 : decode cX3_rowsIn 64 = .ok (.ireturn, 1) := by decide +kernel
set_option maxRecDepth 20000 in
theorem ggX3_rows_X2_isInTable : GoodIn wsX3_rows wsX2_isInTable := goodIn_r _ [6, 7, 8, 15, 16, 17, 18, 19, 20, 21, 22, 23, 24] (by decide +kernel) (by decide +kernel)
set_option maxRecDepth 20000 in
theorem gX3_rows_X2_isInTable : GoodIn wsX3_rows (wsV RX3 158 RX2 yX2_isInTable wsX2_isInTable) := goodIn_app (goodIn_of _ (by decide +kernel)) ggX3_rows_X2_isInTable
theorem dX3_rows_0 : decode cX3_rows 0 = .ok (.iconst 0, 1) := by decide +kernel
theorem dX3_rows_1 : decode cX3_rows 1 = .ok (.istore_n 1, 1) := by decide +kernel
theorem dX3_rows_2 : decode cX3_rows 2 = .ok (.aload_n 0, 1) := by decide +kernel
theorem dX3_rows_3 : decode cX3_rows 3 = .ok (.getfield 24, 3) := by decide +kernel
theorem dX3_rows_6 : decode cX3_rows 6 = .ok (.astore_n 2, 1) := by decide +kernel
theorem dX3_rows_7 : decode cX3_rows 7 = .ok (.aload_n 2, 1) := by decide +kernel
theorem dX3_rows_8 : decode cX3_rows 8 = .ok (.arraylength, 1) := by decide +kernel
theorem dX3_rows_9 : decode cX3_rows 9 = .ok (.istore_n 3, 1) := by decide +kernel
theorem dX3_rows_10 : decode cX3_rows 10 = .ok (.iconst 0, 1) := by decide +kernel
theorem dX3_rows_11 : decode cX3_rows 11 = .ok (.istore 4, 2) := by decide +kernel
theorem dX3_rows_13 : decode cX3_rows 13 = .ok (.iload 4, 2) := by decide +kernel
theorem dX3_rows_15 : decode cX3_rows 15 = .ok (.iload_n 3, 1) := by decide +kernel
theorem dX3_rows_16 : decode cX3_rows 16 = .ok (.if_icmp .ge 31, 3) := by decide +kernel
theorem dX3_rows_19 : decode cX3_rows 19 = .ok (.aload_n 2, 1) := by decide +kernel
theorem dX3_rows_20 : decode cX3_rows 20 = .ok (.iload 4, 2) := by decide +kernel
theorem dX3_rows_22 : decode cX3_rows 22 = .ok (.aaload, 1) := by decide +kernel
theorem dX3_rows_23 : decode cX3_rows 23 = .ok (.astore 5, 2) := by decide +kernel
theorem dX3_rows_25 : decode cX3_rows 25 = .ok (.aload 5, 2) := by decide +kernel
theorem dX3_rows_27 : decode cX3_rows 27 = .ok (.ifnull 14, 3) := by decide +kernel
theorem dX3_rows_30 : decode cX3_rows 30 = .ok (.aload 5, 2) := by decide +kernel
theorem dX3_rows_32 : decode cX3_rows 32 = .ok (.invokevirtual 158, 3) := by decide +kernel
theorem dX3_rows_35 : decode cX3_rows 35 = .ok (.ifCond .eq 6, 3) := by decide +kernel
theorem dX3_rows_38 : decode cX3_rows 38 = .ok (.iinc 1 1, 3) := by decide +kernel
theorem dX3_rows_41 : decode cX3_rows 41 = .ok (.iinc 4 1, 3) := by decide +kernel
theorem dX3_rows_44 : decode cX3_rows 44 = .ok (.goto (-31), 3) := by decide +kernel
theorem dX3_rows_47 : decode cX3_rows 47 = .ok (.iload_n 1, 1) := by decide +kernel
theorem dX3_rows_48 : decode cX3_rows 48 = .ok (.ireturn, 1) := by decide +kernel
set_option maxRecDepth 20000 in
theorem ggX3_count_X3_checkedQuestion : GoodIn wsX3_count wsX3_checkedQuestion := goodIn_ca (goodIn_r _ [5, 6, 7, 8, 9, 10, 11, 12, 4, 13, 14, 15, 16, 17, 18, 19, 20, 21, 22, 116, 117, 118] (by decide +kernel) (by decide +kernel)) (goodIn_sub (fun _ h => List.mem_cons_of_mem _ (List.mem_append_right _ h)) (by decide +kernel))
set_option maxRecDepth 20000 in
theorem gX3_count_X3_checkedQuestion : GoodIn wsX3_count (va_wsS RX3 162 yX3_checkedQuestion wsX3_checkedQuestion) := goodIn_app (goodIn_of _ (by decide +kernel)) ggX3_count_X3_checkedQuestion
set_option maxRecDepth 20000 in
theorem ggX3_count_X3_countInPart : GoodIn wsX3_count wsX3_countInPart := goodIn_r _ [26, 27, 28, 29, 30, 31, 32, 33, 34, 35, 36, 4, 37, 38, 39, 40, 41, 42, 43, 44, 45, 46, 47, 48, 49, 50, 51, 1, 52, 53, 54, 55, 56, 57, 58, 59, 60, 61, 62, 63, 64, 65, 66, 67, 68, 69, 70, 71, 72, 73, 74, 75, 76, 77, 78, 79, 80, 81, 82, 83, 84, 85, 86, 87, 88, 89, 90, 91, 92, 93, 94, 95, 96, 97, 98, 99, 100, 101, 102, 103, 104, 105, 106, 107, 108, 109, 119, 120, 121, 122, 123, 124, 116, 117, 118, 110, 111, 112, 113, 114, 115, 125, 126, 127, 128] (by decide +kernel) (by decide +kernel)
set_option maxRecDepth 20000 in
theorem gX3_count_X3_countInPart : GoodIn wsX3_count (wsV RX3 166 RX3 yX3_countInPart wsX3_countInPart) := goodIn_app (goodIn_of _ (by decide +kernel)) ggX3_count_X3_countInPart
theorem dX3_count_0 : decode cX3_count 0 = .ok (.iload_n 1, 1) := by decide +kernel
theorem dX3_count_1 : decode cX3_count 1 = .ok (.iload_n 2, 1) := by decide +kernel
theorem dX3_count_2 : decode cX3_count 2 = .ok (.iload_n 3, 1) := by decide +kernel
theorem dX3_count_3 : decode cX3_count 3 = .ok (.invokestatic 162, 3) := by decide +kernel
theorem dX3_count_6 : decode cX3_count 6 = .ok (.astore 4, 2) := by decide +kernel
theorem dX3_count_8 : decode cX3_count 8 = .ok (.iconst 0, 1) := by decide +kernel
theorem dX3_count_9 : decode cX3_count 9 = .ok (.istore 5, 2) := by decide +kernel
theorem dX3_count_11 : decode cX3_count 11 = .ok (.aload_n 0, 1) := by decide +kernel
theorem dX3_count_12 : decode cX3_count 12 = .ok (.getfield 18, 3) := by decide +kernel
theorem dX3_count_15 : decode cX3_count 15 = .ok (.astore 6, 2) := by decide +kernel
theorem dX3_count_17 : decode cX3_count 17 = .ok (.aload 6, 2) := by decide +kernel
theorem dX3_count_19 : decode cX3_count 19 = .ok (.arraylength, 1) := by decide +kernel
theorem dX3_count_20 : decode cX3_count 20 = .ok (.istore 7, 2) := by decide +kernel
theorem dX3_count_22 : decode cX3_count 22 = .ok (.iconst 0, 1) := by decide +kernel
theorem dX3_count_23 : decode cX3_count 23 = .ok (.istore 8, 2) := by decide +kernel
theorem dX3_count_25 : decode cX3_count 25 = .ok (.iload 8, 2) := by decide +kernel
theorem dX3_count_27 : decode cX3_count 27 = .ok (.iload 7, 2) := by decide +kernel
theorem dX3_count_29 : decode cX3_count 29 = .ok (.if_icmp .ge 34, 3) := by decide +kernel
theorem dX3_count_32 : decode cX3_count 32 = .ok (.aload 6, 2) := by decide +kernel
theorem dX3_count_34 : decode cX3_count 34 = .ok (.iload 8, 2) := by decide +kernel
theorem dX3_count_36 : decode cX3_count 36 = .ok (.aaload, 1) := by decide +kernel
theorem dX3_count_37 : decode cX3_count 37 = .ok (.astore 9, 2) := by decide +kernel
theorem dX3_count_39 : decode cX3_count 39 = .ok (.aload 9, 2) := by decide +kernel
theorem dX3_count_41 : decode cX3_count 41 = .ok (.ifnull 16, 3) := by decide +kernel
theorem dX3_count_44 : decode cX3_count 44 = .ok (.iload 5, 2) := by decide +kernel
theorem dX3_count_46 : decode cX3_count 46 = .ok (.aload_n 0, 1) := by decide +kernel
theorem dX3_count_47 : decode cX3_count 47 = .ok (.aload 9, 2) := by decide +kernel
theorem dX3_count_49 : decode cX3_count 49 = .ok (.aload 4, 2) := by decide +kernel
theorem dX3_count_51 : decode cX3_count 51 = .ok (.invokevirtual 166, 3) := by decide +kernel
theorem dX3_count_54 : decode cX3_count 54 = .ok (.iadd, 1) := by decide +kernel
theorem dX3_count_55 : decode cX3_count 55 = .ok (.istore 5, 2) := by decide +kernel
theorem dX3_count_57 : decode cX3_count 57 = .ok (.iinc 8 1, 3) := by decide +kernel
theorem dX3_count_60 : decode cX3_count 60 = .ok (.goto (-35), 3) := by decide +kernel
theorem dX3_count_63 : decode cX3_count 63 = .ok (.iload 5, 2) := by decide +kernel
theorem dX3_count_65 : decode cX3_count 65 = .ok (.ireturn, 1) := by decide +kernel
set_option maxRecDepth 20000 in
theorem ggX3_countPlain_X3_checkedQuestion : GoodIn wsX3_countPlain wsX3_checkedQuestion := goodIn_ca (goodIn_r _ [5, 6, 7, 8, 9, 10, 11, 12, 4, 13, 14, 15, 16, 17, 18, 19, 20, 21, 22, 47, 48, 49] (by decide +kernel) (by decide +kernel)) (goodIn_sub (fun _ h => List.mem_cons_of_mem _ (List.mem_append_right _ h)) (by decide +kernel))
set_option maxRecDepth 20000 in
theorem gX3_countPlain_X3_checkedQuestion : GoodIn wsX3_countPlain (va_wsS RX3 162 yX3_checkedQuestion wsX3_checkedQuestion) := goodIn_app (goodIn_of _ (by decide +kernel)) ggX3_countPlain_X3_checkedQuestion
set_option maxRecDepth 20000 in
theorem ggX3_countPlain_X2_isInTable : GoodIn wsX3_countPlain wsX2_isInTable := goodIn_r _ [27, 28, 29, 50, 51, 52, 53, 54, 55, 56, 57, 58, 59] (by decide +kernel) (by decide +kernel)
set_option maxRecDepth 20000 in
theorem gX3_countPlain_X2_isInTable : GoodIn wsX3_countPlain (wsV RX3 158 RX2 yX2_isInTable wsX2_isInTable) := goodIn_app (goodIn_of _ (by decide +kernel)) ggX3_countPlain_X2_isInTable
set_option maxRecDepth 20000 in
theorem ggX3_countPlain_X2_fits : GoodIn wsX3_countPlain wsX2_fits := goodIn_r _ [33, 34, 35, 36, 37, 38, 39, 4, 40, 50, 51, 52, 53, 47, 48, 49] (by decide +kernel) (by decide +kernel)
set_option maxRecDepth 20000 in
theorem gX3_countPlain_X2_fits : GoodIn wsX3_countPlain (wsV RX3 170 RX2 yX2_fits wsX2_fits) := goodIn_app (goodIn_of _ (by decide +kernel)) ggX3_countPlain_X2_fits
theorem dX3_countPlain_0 : decode cX3_countPlain 0 = .ok (.iload_n 1, 1) := by decide +kernel
theorem dX3_countPlain_1 : decode cX3_countPlain 1 = .ok (.iload_n 2, 1) := by decide +kernel
theorem dX3_countPlain_2 : decode cX3_countPlain 2 = .ok (.iload_n 3, 1) := by decide +kernel
theorem dX3_countPlain_3 : decode cX3_countPlain 3 = .ok (.invokestatic 162, 3) := by decide +kernel
theorem dX3_countPlain_6 : decode cX3_countPlain 6 = .ok (.astore 4, 2) := by decide +kernel
theorem dX3_countPlain_8 : decode cX3_countPlain 8 = .ok (.iconst 0, 1) := by decide +kernel
theorem dX3_countPlain_9 : decode cX3_countPlain 9 = .ok (.istore 5, 2) := by decide +kernel
theorem dX3_countPlain_11 : decode cX3_countPlain 11 = .ok (.aload_n 0, 1) := by decide +kernel
theorem dX3_countPlain_12 : decode cX3_countPlain 12 = .ok (.getfield 24, 3) := by decide +kernel
theorem dX3_countPlain_15 : decode cX3_countPlain 15 = .ok (.astore 6, 2) := by decide +kernel
theorem dX3_countPlain_17 : decode cX3_countPlain 17 = .ok (.aload 6, 2) := by decide +kernel
theorem dX3_countPlain_19 : decode cX3_countPlain 19 = .ok (.arraylength, 1) := by decide +kernel
theorem dX3_countPlain_20 : decode cX3_countPlain 20 = .ok (.istore 7, 2) := by decide +kernel
theorem dX3_countPlain_22 : decode cX3_countPlain 22 = .ok (.iconst 0, 1) := by decide +kernel
theorem dX3_countPlain_23 : decode cX3_countPlain 23 = .ok (.istore 8, 2) := by decide +kernel
theorem dX3_countPlain_25 : decode cX3_countPlain 25 = .ok (.iload 8, 2) := by decide +kernel
theorem dX3_countPlain_27 : decode cX3_countPlain 27 = .ok (.iload 7, 2) := by decide +kernel
theorem dX3_countPlain_29 : decode cX3_countPlain 29 = .ok (.if_icmp .ge 42, 3) := by decide +kernel
theorem dX3_countPlain_32 : decode cX3_countPlain 32 = .ok (.aload 6, 2) := by decide +kernel
theorem dX3_countPlain_34 : decode cX3_countPlain 34 = .ok (.iload 8, 2) := by decide +kernel
theorem dX3_countPlain_36 : decode cX3_countPlain 36 = .ok (.aaload, 1) := by decide +kernel
theorem dX3_countPlain_37 : decode cX3_countPlain 37 = .ok (.astore 9, 2) := by decide +kernel
theorem dX3_countPlain_39 : decode cX3_countPlain 39 = .ok (.aload 9, 2) := by decide +kernel
theorem dX3_countPlain_41 : decode cX3_countPlain 41 = .ok (.ifnull 24, 3) := by decide +kernel
theorem dX3_countPlain_44 : decode cX3_countPlain 44 = .ok (.aload 9, 2) := by decide +kernel
theorem dX3_countPlain_46 : decode cX3_countPlain 46 = .ok (.invokevirtual 158, 3) := by decide +kernel
theorem dX3_countPlain_49 : decode cX3_countPlain 49 = .ok (.ifCond .eq 16, 3) := by decide +kernel
theorem dX3_countPlain_52 : decode cX3_countPlain 52 = .ok (.aload 9, 2) := by decide +kernel
theorem dX3_countPlain_54 : decode cX3_countPlain 54 = .ok (.aload 4, 2) := by decide +kernel
theorem dX3_countPlain_56 : decode cX3_countPlain 56 = .ok (.invokevirtual 170, 3) := by decide +kernel
theorem dX3_countPlain_59 : decode cX3_countPlain 59 = .ok (.ifCond .eq 6, 3) := by decide +kernel
theorem dX3_countPlain_62 : decode cX3_countPlain 62 = .ok (.iinc 5 1, 3) := by decide +kernel
theorem dX3_countPlain_65 : decode cX3_countPlain 65 = .ok (.iinc 8 1, 3) := by decide +kernel
theorem dX3_countPlain_68 : decode cX3_countPlain 68 = .ok (.goto (-43), 3) := by decide +kernel
theorem dX3_countPlain_71 : decode cX3_countPlain 71 = .ok (.iload 5, 2) := by decide +kernel
theorem dX3_countPlain_73 : decode cX3_countPlain 73 = .ok (.ireturn, 1) := by decide +kernel
set_option maxRecDepth 20000 in
theorem ggX3_read_X3_checkedQuestion : GoodIn wsX3_read wsX3_checkedQuestion := goodIn_ca (goodIn_r _ [5, 6, 7, 8, 9, 10, 11, 12, 4, 13, 14, 15, 16, 17, 18, 19, 20, 21, 22, 90, 91, 92] (by decide +kernel) (by decide +kernel)) (goodIn_sub (fun _ h => List.mem_cons_of_mem _ (List.mem_append_right _ h)) (by decide +kernel))
set_option maxRecDepth 20000 in
theorem gX3_read_X3_checkedQuestion : GoodIn wsX3_read (va_wsS RX3 162 yX3_checkedQuestion wsX3_checkedQuestion) := goodIn_app (goodIn_of _ (by decide +kernel)) ggX3_read_X3_checkedQuestion
set_option maxRecDepth 20000 in
theorem ggX3_read_X3_leavesThatMayMatter : GoodIn wsX3_read wsX3_leavesThatMayMatter := goodIn_r _ [26, 27, 28, 29, 30, 31, 32, 33, 34, 35, 36, 4, 37, 38, 39, 40, 41, 42, 43, 44, 45, 46, 47, 48, 49, 50, 51, 1, 52, 53, 54, 55, 56, 57, 58, 59, 60, 61, 62, 63, 64, 65, 66, 67, 68, 69, 70, 71, 72, 73, 74, 75, 76, 77, 78, 79, 80, 81, 82, 83, 93, 94, 95, 96, 97, 98, 90, 91, 92, 84, 85, 86, 87, 88, 89] (by decide +kernel) (by decide +kernel)
set_option maxRecDepth 20000 in
theorem gX3_read_X3_leavesThatMayMatter : GoodIn wsX3_read (wsV RX3 174 RX3 yX3_leavesThatMayMatter wsX3_leavesThatMayMatter) := goodIn_app (goodIn_of _ (by decide +kernel)) ggX3_read_X3_leavesThatMayMatter
theorem dX3_read_0 : decode cX3_read 0 = .ok (.iload_n 1, 1) := by decide +kernel
theorem dX3_read_1 : decode cX3_read 1 = .ok (.iload_n 2, 1) := by decide +kernel
theorem dX3_read_2 : decode cX3_read 2 = .ok (.iload_n 3, 1) := by decide +kernel
theorem dX3_read_3 : decode cX3_read 3 = .ok (.invokestatic 162, 3) := by decide +kernel
theorem dX3_read_6 : decode cX3_read 6 = .ok (.astore 4, 2) := by decide +kernel
theorem dX3_read_8 : decode cX3_read 8 = .ok (.iconst 0, 1) := by decide +kernel
theorem dX3_read_9 : decode cX3_read 9 = .ok (.istore 5, 2) := by decide +kernel
theorem dX3_read_11 : decode cX3_read 11 = .ok (.aload_n 0, 1) := by decide +kernel
theorem dX3_read_12 : decode cX3_read 12 = .ok (.getfield 18, 3) := by decide +kernel
theorem dX3_read_15 : decode cX3_read 15 = .ok (.astore 6, 2) := by decide +kernel
theorem dX3_read_17 : decode cX3_read 17 = .ok (.aload 6, 2) := by decide +kernel
theorem dX3_read_19 : decode cX3_read 19 = .ok (.arraylength, 1) := by decide +kernel
theorem dX3_read_20 : decode cX3_read 20 = .ok (.istore 7, 2) := by decide +kernel
theorem dX3_read_22 : decode cX3_read 22 = .ok (.iconst 0, 1) := by decide +kernel
theorem dX3_read_23 : decode cX3_read 23 = .ok (.istore 8, 2) := by decide +kernel
theorem dX3_read_25 : decode cX3_read 25 = .ok (.iload 8, 2) := by decide +kernel
theorem dX3_read_27 : decode cX3_read 27 = .ok (.iload 7, 2) := by decide +kernel
theorem dX3_read_29 : decode cX3_read 29 = .ok (.if_icmp .ge 34, 3) := by decide +kernel
theorem dX3_read_32 : decode cX3_read 32 = .ok (.aload 6, 2) := by decide +kernel
theorem dX3_read_34 : decode cX3_read 34 = .ok (.iload 8, 2) := by decide +kernel
theorem dX3_read_36 : decode cX3_read 36 = .ok (.aaload, 1) := by decide +kernel
theorem dX3_read_37 : decode cX3_read 37 = .ok (.astore 9, 2) := by decide +kernel
theorem dX3_read_39 : decode cX3_read 39 = .ok (.aload 9, 2) := by decide +kernel
theorem dX3_read_41 : decode cX3_read 41 = .ok (.ifnull 16, 3) := by decide +kernel
theorem dX3_read_44 : decode cX3_read 44 = .ok (.iload 5, 2) := by decide +kernel
theorem dX3_read_46 : decode cX3_read 46 = .ok (.aload_n 0, 1) := by decide +kernel
theorem dX3_read_47 : decode cX3_read 47 = .ok (.aload 9, 2) := by decide +kernel
theorem dX3_read_49 : decode cX3_read 49 = .ok (.aload 4, 2) := by decide +kernel
theorem dX3_read_51 : decode cX3_read 51 = .ok (.invokevirtual 174, 3) := by decide +kernel
theorem dX3_read_54 : decode cX3_read 54 = .ok (.iadd, 1) := by decide +kernel
theorem dX3_read_55 : decode cX3_read 55 = .ok (.istore 5, 2) := by decide +kernel
theorem dX3_read_57 : decode cX3_read 57 = .ok (.iinc 8 1, 3) := by decide +kernel
theorem dX3_read_60 : decode cX3_read 60 = .ok (.goto (-35), 3) := by decide +kernel
theorem dX3_read_63 : decode cX3_read 63 = .ok (.iload 5, 2) := by decide +kernel
theorem dX3_read_65 : decode cX3_read 65 = .ok (.ireturn, 1) := by decide +kernel
set_option maxRecDepth 20000 in
theorem ggX3_matters_X3_livingPartWithLeaf : GoodIn wsX3_matters wsX3_livingPartWithLeaf := goodIn_ca (goodIn_r _ [5, 6, 7, 8, 9, 10, 4, 11, 12, 13, 14, 15, 16, 17, 18, 19, 20, 21, 22, 23, 24, 94, 95, 96, 97, 98, 99, 100, 101, 102, 103, 104, 105] (by decide +kernel) (by decide +kernel)) (goodIn_sub (fun _ h => List.mem_cons_of_mem _ (List.mem_append_left _ (List.mem_append_right _ h))) (by decide +kernel))
set_option maxRecDepth 20000 in
theorem gX3_matters_X3_livingPartWithLeaf : GoodIn wsX3_matters (wsV RX3 150 RX3 yX3_livingPartWithLeaf wsX3_livingPartWithLeaf) := goodIn_app (goodIn_of _ (by decide +kernel)) ggX3_matters_X3_livingPartWithLeaf
set_option maxRecDepth 20000 in
theorem ggX3_matters_X3_checkedQuestion : GoodIn wsX3_matters wsX3_checkedQuestion := goodIn_ca (goodIn_r _ [27, 28, 29, 30, 31, 32, 33, 34, 4, 35, 36, 37, 38, 39, 40, 41, 42, 43, 44, 106, 107, 108] (by decide +kernel) (by decide +kernel)) (goodIn_sub (fun _ h => List.mem_cons_of_mem _ (List.mem_append_right _ h)) (by decide +kernel))
set_option maxRecDepth 20000 in
theorem gX3_matters_X3_checkedQuestion : GoodIn wsX3_matters (va_wsS RX3 162 yX3_checkedQuestion wsX3_checkedQuestion) := goodIn_app (goodIn_of _ (by decide +kernel)) ggX3_matters_X3_checkedQuestion
set_option maxRecDepth 20000 in
theorem ggX3_matters_X3_mayMatter : GoodIn wsX3_matters wsX3_mayMatter := goodIn_r _ [48, 12, 49, 50, 51, 52, 53, 54, 55, 4, 56, 57, 58, 59, 60, 61, 17, 62, 63, 64, 21, 65, 66, 67, 68, 69, 70, 71, 72, 73, 74, 75, 76, 77, 78, 79, 80, 23, 81, 82, 83, 84, 85, 24, 86, 87, 88, 89, 90, 91, 92, 93, 94, 95, 96, 97, 98, 99, 106, 107, 108, 100, 101, 102, 103, 104, 105] (by decide +kernel) (by decide +kernel)
set_option maxRecDepth 20000 in
theorem gX3_matters_X3_mayMatter : GoodIn wsX3_matters (wsV RX3 177 RX3 yX3_mayMatter wsX3_mayMatter) := goodIn_app (goodIn_of _ (by decide +kernel)) ggX3_matters_X3_mayMatter
theorem dX3_matters_0 : decode cX3_matters 0 = .ok (.aload_n 0, 1) := by decide +kernel
theorem dX3_matters_1 : decode cX3_matters 1 = .ok (.iload_n 1, 1) := by decide +kernel
theorem dX3_matters_2 : decode cX3_matters 2 = .ok (.iload_n 2, 1) := by decide +kernel
theorem dX3_matters_3 : decode cX3_matters 3 = .ok (.invokevirtual 150, 3) := by decide +kernel
theorem dX3_matters_6 : decode cX3_matters 6 = .ok (.astore 6, 2) := by decide +kernel
theorem dX3_matters_8 : decode cX3_matters 8 = .ok (.aload_n 0, 1) := by decide +kernel
theorem dX3_matters_9 : decode cX3_matters 9 = .ok (.aload 6, 2) := by decide +kernel
theorem dX3_matters_11 : decode cX3_matters 11 = .ok (.iload_n 2, 1) := by decide +kernel
theorem dX3_matters_12 : decode cX3_matters 12 = .ok (.iload_n 3, 1) := by decide +kernel
theorem dX3_matters_13 : decode cX3_matters 13 = .ok (.iload 4, 2) := by decide +kernel
theorem dX3_matters_15 : decode cX3_matters 15 = .ok (.iload 5, 2) := by decide +kernel
theorem dX3_matters_17 : decode cX3_matters 17 = .ok (.invokestatic 162, 3) := by decide +kernel
theorem dX3_matters_20 : decode cX3_matters 20 = .ok (.invokevirtual 177, 3) := by decide +kernel
theorem dX3_matters_23 : decode cX3_matters 23 = .ok (.ireturn, 1) := by decide +kernel
theorem dX3_isStale_0 : decode cX3_isStale 0 = .ok (.aload_n 0, 1) := by decide +kernel
theorem dX3_isStale_1 : decode cX3_isStale 1 = .ok (.getfield 90, 3) := by decide +kernel
theorem dX3_isStale_4 : decode cX3_isStale 4 = .ok (.ireturn, 1) := by decide +kernel
set_option maxRecDepth 20000 in
theorem ggX3_buildIndex_X3_rows : GoodIn wsX3_buildIndex wsX3_rows := goodIn_r _ [6, 7, 8, 9, 10, 11, 12, 13, 14, 15, 16, 17, 18, 19, 20, 21, 22, 23, 24, 25, 26, 27, 28, 29, 30] (by decide +kernel) (by decide +kernel)
set_option maxRecDepth 20000 in
theorem gX3_buildIndex_X3_rows : GoodIn wsX3_buildIndex (wsV RX3 181 RX3 yX3_rows wsX3_rows) := goodIn_app (goodIn_of _ (by decide +kernel)) ggX3_buildIndex_X3_rows
theorem dX3_buildIndex_0 : decode cX3_buildIndex 0 = .ok (.aload_n 0, 1) := by decide +kernel
theorem dX3_buildIndex_1 : decode cX3_buildIndex 1 = .ok (.iconst 0, 1) := by decide +kernel
theorem dX3_buildIndex_2 : decode cX3_buildIndex 2 = .ok (.putfield 90, 3) := by decide +kernel
theorem dX3_buildIndex_5 : decode cX3_buildIndex 5 = .ok (.aload_n 0, 1) := by decide +kernel
theorem dX3_buildIndex_6 : decode cX3_buildIndex 6 = .ok (.invokevirtual 181, 3) := by decide +kernel
theorem dX3_buildIndex_9 : decode cX3_buildIndex 9 = .ok (.ireturn, 1) := by decide +kernel
set_option maxRecDepth 20000 in
theorem ggX3_find_X3_checkValue : GoodIn wsX3_find wsX3_checkValue := goodIn_ca (goodIn_r _ [9, 10, 11] (by decide +kernel) (by decide +kernel)) (goodIn_sub (fun _ h => List.mem_cons_of_mem _ (List.mem_append_right _ h)) (by decide +kernel))
set_option maxRecDepth 20000 in
theorem gX3_find_X3_checkValue : GoodIn wsX3_find (va_wsS RX3 110 yX3_checkValue wsX3_checkValue) := goodIn_app (goodIn_of _ (by decide +kernel)) ggX3_find_X3_checkValue
set_option maxRecDepth 20000 in
theorem ggX3_find_X2_isInTable : GoodIn wsX3_find wsX2_isInTable := goodIn_r _ [16, 17, 18, 25, 26, 27, 28, 29, 30, 31, 32, 33, 34] (by decide +kernel) (by decide +kernel)
set_option maxRecDepth 20000 in
theorem gX3_find_X2_isInTable : GoodIn wsX3_find (wsV RX3 158 RX2 yX2_isInTable wsX2_isInTable) := goodIn_app (goodIn_of _ (by decide +kernel)) ggX3_find_X2_isInTable
theorem dX3_find_0 : decode cX3_find 0 = .ok (.iload_n 1, 1) := by decide +kernel
theorem dX3_find_1 : decode cX3_find 1 = .ok (.invokestatic 110, 3) := by decide +kernel
theorem dX3_find_4 : decode cX3_find 4 = .ok (.aload_n 0, 1) := by decide +kernel
theorem dX3_find_5 : decode cX3_find 5 = .ok (.getfield 90, 3) := by decide +kernel
theorem dX3_find_8 : decode cX3_find 8 = .ok (.ifCond .eq 13, 3) := by decide +kernel
theorem dX3_find_11 : decode cX3_find 11 = .ok (.new 80, 3) := by decide +kernel
theorem dX3_find_14 : decode cX3_find 14 = .ok (.dup, 1) := by decide +kernel
theorem dX3_find_15 : decode cX3_find 15 = .ok (.ldc 184, 2) := by decide +kernel
theorem dX3_find_17 : decode cX3_find 17 = .ok (.invokespecial 84, 3) := by decide +kernel
theorem dX3_find_20 : decode cX3_find 20 = .ok (.athrow, 1) := by decide +kernel
theorem dX3_find_21 : decode cX3_find 21 = .ok (.iconst 0, 1) := by decide +kernel
theorem dX3_find_22 : decode cX3_find 22 = .ok (.istore_n 2, 1) := by decide +kernel
theorem dX3_find_23 : decode cX3_find 23 = .ok (.aload_n 0, 1) := by decide +kernel
theorem dX3_find_24 : decode cX3_find 24 = .ok (.getfield 24, 3) := by decide +kernel
theorem dX3_find_27 : decode cX3_find 27 = .ok (.astore_n 3, 1) := by decide +kernel
theorem dX3_find_28 : decode cX3_find 28 = .ok (.aload_n 3, 1) := by decide +kernel
theorem dX3_find_29 : decode cX3_find 29 = .ok (.arraylength, 1) := by decide +kernel
theorem dX3_find_30 : decode cX3_find 30 = .ok (.istore 4, 2) := by decide +kernel
theorem dX3_find_32 : decode cX3_find 32 = .ok (.iconst 0, 1) := by decide +kernel
theorem dX3_find_33 : decode cX3_find 33 = .ok (.istore 5, 2) := by decide +kernel
theorem dX3_find_35 : decode cX3_find 35 = .ok (.iload 5, 2) := by decide +kernel
theorem dX3_find_37 : decode cX3_find 37 = .ok (.iload 4, 2) := by decide +kernel
theorem dX3_find_39 : decode cX3_find 39 = .ok (.if_icmp .ge 40, 3) := by decide +kernel
theorem dX3_find_42 : decode cX3_find 42 = .ok (.aload_n 3, 1) := by decide +kernel
theorem dX3_find_43 : decode cX3_find 43 = .ok (.iload 5, 2) := by decide +kernel
theorem dX3_find_45 : decode cX3_find 45 = .ok (.aaload, 1) := by decide +kernel
theorem dX3_find_46 : decode cX3_find 46 = .ok (.astore 6, 2) := by decide +kernel
theorem dX3_find_48 : decode cX3_find 48 = .ok (.aload 6, 2) := by decide +kernel
theorem dX3_find_50 : decode cX3_find 50 = .ok (.ifnull 23, 3) := by decide +kernel
theorem dX3_find_53 : decode cX3_find 53 = .ok (.aload 6, 2) := by decide +kernel
theorem dX3_find_55 : decode cX3_find 55 = .ok (.invokevirtual 158, 3) := by decide +kernel
theorem dX3_find_58 : decode cX3_find 58 = .ok (.ifCond .eq 15, 3) := by decide +kernel
theorem dX3_find_61 : decode cX3_find 61 = .ok (.aload 6, 2) := by decide +kernel
theorem dX3_find_63 : decode cX3_find 63 = .ok (.getfield 141, 3) := by decide +kernel
theorem dX3_find_66 : decode cX3_find 66 = .ok (.iload_n 1, 1) := by decide +kernel
theorem dX3_find_67 : decode cX3_find 67 = .ok (.if_icmp .ne 6, 3) := by decide +kernel
theorem dX3_find_70 : decode cX3_find 70 = .ok (.iinc 2 1, 3) := by decide +kernel
theorem dX3_find_73 : decode cX3_find 73 = .ok (.iinc 5 1, 3) := by decide +kernel
theorem dX3_find_76 : decode cX3_find 76 = .ok (.goto (-41), 3) := by decide +kernel
theorem dX3_find_79 : decode cX3_find 79 = .ok (.iload_n 2, 1) := by decide +kernel
theorem dX3_find_80 : decode cX3_find 80 = .ok (.ireturn, 1) := by decide +kernel
