theorem dX4_init_0 : decode cX4_init 0 = .ok (.aload_n 0, 1) := by decide +kernel
theorem dX4_init_1 : decode cX4_init 1 = .ok (.invokespecial 1, 3) := by decide +kernel
theorem dX4_init_4 : decode cX4_init 4 = .ok (.aload_n 0, 1) := by decide +kernel
theorem dX4_init_5 : decode cX4_init 5 = .ok (.bipush 16, 2) := by decide +kernel
theorem dX4_init_7 : decode cX4_init 7 = .ok (.newarray .int, 2) := by decide +kernel
theorem dX4_init_9 : decode cX4_init 9 = .ok (.putfield 7, 3) := by decide +kernel
theorem dX4_init_12 : decode cX4_init 12 = .ok (.aload_n 0, 1) := by decide +kernel
theorem dX4_init_13 : decode cX4_init 13 = .ok (.bipush 16, 2) := by decide +kernel
theorem dX4_init_15 : decode cX4_init 15 = .ok (.newarray .int, 2) := by decide +kernel
theorem dX4_init_17 : decode cX4_init 17 = .ok (.putfield 13, 3) := by decide +kernel
theorem dX4_init_20 : decode cX4_init 20 = .ok (.aload_n 0, 1) := by decide +kernel
theorem dX4_init_21 : decode cX4_init 21 = .ok (.bipush 16, 2) := by decide +kernel
theorem dX4_init_23 : decode cX4_init 23 = .ok (.newarray .int, 2) := by decide +kernel
theorem dX4_init_25 : decode cX4_init 25 = .ok (.putfield 16, 3) := by decide +kernel
theorem dX4_init_28 : decode cX4_init 28 = .ok (.aload_n 0, 1) := by decide +kernel
theorem dX4_init_29 : decode cX4_init 29 = .ok (.bipush 16, 2) := by decide +kernel
theorem dX4_init_31 : decode cX4_init 31 = .ok (.newarray .int, 2) := by decide +kernel
theorem dX4_init_33 : decode cX4_init 33 = .ok (.putfield 19, 3) := by decide +kernel
theorem dX4_init_36 : decode cX4_init 36 = .ok (.aload_n 0, 1) := by decide +kernel
theorem dX4_init_37 : decode cX4_init 37 = .ok (.bipush 16, 2) := by decide +kernel
theorem dX4_init_39 : decode cX4_init 39 = .ok (.newarray .int, 2) := by decide +kernel
theorem dX4_init_41 : decode cX4_init 41 = .ok (.putfield 22, 3) := by decide +kernel
theorem dX4_init_44 : decode cX4_init 44 = .ok (.aload_n 0, 1) := by decide +kernel
theorem dX4_init_45 : decode cX4_init 45 = .ok (.sipush 200, 3) := by decide +kernel
theorem dX4_init_48 : decode cX4_init 48 = .ok (.newarray .int, 2) := by decide +kernel
theorem dX4_init_50 : decode cX4_init 50 = .ok (.putfield 25, 3) := by decide +kernel
theorem dX4_init_53 : decode cX4_init 53 = .ok (.aload_n 0, 1) := by decide +kernel
theorem dX4_init_54 : decode cX4_init 54 = .ok (.sipush 200, 3) := by decide +kernel
theorem dX4_init_57 : decode cX4_init 57 = .ok (.newarray .int, 2) := by decide +kernel
theorem dX4_init_59 : decode cX4_init 59 = .ok (.putfield 28, 3) := by decide +kernel
theorem dX4_init_62 : decode cX4_init 62 = .ok (.aload_n 0, 1) := by decide +kernel
theorem dX4_init_63 : decode cX4_init 63 = .ok (.sipush 200, 3) := by decide +kernel
theorem dX4_init_66 : decode cX4_init 66 = .ok (.newarray .int, 2) := by decide +kernel
theorem dX4_init_68 : decode cX4_init 68 = .ok (.putfield 31, 3) := by decide +kernel
theorem dX4_init_71 : decode cX4_init 71 = .ok (.aload_n 0, 1) := by decide +kernel
theorem dX4_init_72 : decode cX4_init 72 = .ok (.sipush 200, 3) := by decide +kernel
theorem dX4_init_75 : decode cX4_init 75 = .ok (.newarray .int, 2) := by decide +kernel
theorem dX4_init_77 : decode cX4_init 77 = .ok (.putfield 34, 3) := by decide +kernel
theorem dX4_init_80 : decode cX4_init 80 = .ok (.return_, 1) := by decide +kernel
theorem dX4_thrown_0 : decode cX4_thrown 0 = .ok (.aload_n 0, 1) := by decide +kernel
theorem dX4_thrown_1 : decode cX4_thrown 1 = .ok (.getfield 37, 3) := by decide +kernel
theorem dX4_thrown_4 : decode cX4_thrown 4 = .ok (.ireturn, 1) := by decide +kernel
theorem dX4_isFine_0 : decode cX4_isFine 0 = .ok (.aload_n 0, 1) := by decide +kernel
theorem dX4_isFine_1 : decode cX4_isFine 1 = .ok (.iload_n 1, 1) := by decide +kernel
theorem dX4_isFine_2 : decode cX4_isFine 2 = .ok (.putfield 37, 3) := by decide +kernel
theorem dX4_isFine_5 : decode cX4_isFine 5 = .ok (.iload_n 1, 1) := by decide +kernel
theorem dX4_isFine_6 : decode cX4_isFine 6 = .ok (.ifCond .ne 7, 3) := by decide +kernel
theorem dX4_isFine_9 : decode cX4_isFine 9 = .ok (.iconst 1, 1) := by decide +kernel
theorem dX4_isFine_10 : decode cX4_isFine 10 = .ok (.goto 4, 3) := by decide +kernel
theorem dX4_isFine_13 : decode cX4_isFine 13 = .ok (.iconst 0, 1) := by decide +kernel
theorem dX4_isFine_14 : decode cX4_isFine 14 = .ok (.ireturn, 1) := by decide +kernel
theorem dX4_isIn_0 : decode cX4_isIn 0 = .ok (.iload_n 0, 1) := by decide +kernel
theorem dX4_isIn_1 : decode cX4_isIn 1 = .ok (.iload_n 1, 1) := by decide +kernel
theorem dX4_isIn_2 : decode cX4_isIn 2 = .ok (.if_icmp .lt 12, 3) := by decide +kernel
theorem dX4_isIn_5 : decode cX4_isIn 5 = .ok (.iload_n 0, 1) := by decide +kernel
theorem dX4_isIn_6 : decode cX4_isIn 6 = .ok (.iload_n 2, 1) := by decide +kernel
theorem dX4_isIn_7 : decode cX4_isIn 7 = .ok (.if_icmp .gt 7, 3) := by decide +kernel
theorem dX4_isIn_10 : decode cX4_isIn 10 = .ok (.iconst 1, 1) := by decide +kernel
theorem dX4_isIn_11 : decode cX4_isIn 11 = .ok (.goto 4, 3) := by decide +kernel
theorem dX4_isIn_14 : decode cX4_isIn 14 = .ok (.iconst 0, 1) := by decide +kernel
theorem dX4_isIn_15 : decode cX4_isIn 15 = .ok (.ireturn, 1) := by decide +kernel
set_option maxRecDepth 20000 in
theorem ggX4_isKey_X4_isIn : GoodIn wsX4_isKey wsX4_isIn := goodIn_r _ [4] (by decide +kernel) (by decide +kernel)
set_option maxRecDepth 20000 in
theorem gX4_isKey_X4_isIn : GoodIn wsX4_isKey (va_wsS RX4 41 yX4_isIn wsX4_isIn) := goodIn_app (goodIn_of _ (by decide +kernel)) ggX4_isKey_X4_isIn
theorem dX4_isKey_0 : decode cX4_isKey 0 = .ok (.iload_n 0, 1) := by decide +kernel
theorem dX4_isKey_1 : decode cX4_isKey 1 = .ok (.iconst 0, 1) := by decide +kernel
theorem dX4_isKey_2 : decode cX4_isKey 2 = .ok (.sipush 999, 3) := by decide +kernel
theorem dX4_isKey_5 : decode cX4_isKey 5 = .ok (.invokestatic 41, 3) := by decide +kernel
theorem dX4_isKey_8 : decode cX4_isKey 8 = .ok (.ireturn, 1) := by decide +kernel
set_option maxRecDepth 20000 in
theorem ggX4_isPart_X4_isIn : GoodIn wsX4_isPart wsX4_isIn := goodIn_r _ [6] (by decide +kernel) (by decide +kernel)
set_option maxRecDepth 20000 in
theorem gX4_isPart_X4_isIn : GoodIn wsX4_isPart (va_wsS RX4 41 yX4_isIn wsX4_isIn) := goodIn_app (goodIn_of _ (by decide +kernel)) ggX4_isPart_X4_isIn
theorem dX4_isPart_0 : decode cX4_isPart 0 = .ok (.iload_n 1, 1) := by decide +kernel
theorem dX4_isPart_1 : decode cX4_isPart 1 = .ok (.iconst 1, 1) := by decide +kernel
theorem dX4_isPart_2 : decode cX4_isPart 2 = .ok (.aload_n 0, 1) := by decide +kernel
theorem dX4_isPart_3 : decode cX4_isPart 3 = .ok (.getfield 45, 3) := by decide +kernel
theorem dX4_isPart_6 : decode cX4_isPart 6 = .ok (.invokestatic 41, 3) := by decide +kernel
theorem dX4_isPart_9 : decode cX4_isPart 9 = .ok (.ifCond .eq 17, 3) := by decide +kernel
theorem dX4_isPart_12 : decode cX4_isPart 12 = .ok (.aload_n 0, 1) := by decide +kernel
theorem dX4_isPart_13 : decode cX4_isPart 13 = .ok (.getfield 22, 3) := by decide +kernel
theorem dX4_isPart_16 : decode cX4_isPart 16 = .ok (.iload_n 1, 1) := by decide +kernel
theorem dX4_isPart_17 : decode cX4_isPart 17 = .ok (.iaload, 1) := by decide +kernel
theorem dX4_isPart_18 : decode cX4_isPart 18 = .ok (.iconst 2, 1) := by decide +kernel
theorem dX4_isPart_19 : decode cX4_isPart 19 = .ok (.if_icmp .eq 7, 3) := by decide +kernel
theorem dX4_isPart_22 : decode cX4_isPart 22 = .ok (.iconst 1, 1) := by decide +kernel
theorem dX4_isPart_23 : decode cX4_isPart 23 = .ok (.goto 4, 3) := by decide +kernel
theorem dX4_isPart_26 : decode cX4_isPart 26 = .ok (.iconst 0, 1) := by decide +kernel
theorem dX4_isPart_27 : decode cX4_isPart 27 = .ok (.ireturn, 1) := by decide +kernel
set_option maxRecDepth 20000 in
theorem ggX4_isAny_X4_isPart : GoodIn wsX4_isAny wsX4_isPart := goodIn_r _ [5, 6, 7, 8, 9, 4, 10, 11, 12, 13, 14, 15, 16, 17, 18, 19, 20, 21, 22, 23] (by decide +kernel) (by decide +kernel)
set_option maxRecDepth 20000 in
theorem gX4_isAny_X4_isPart : GoodIn wsX4_isAny (wsV RX4 48 RX4 yX4_isPart wsX4_isPart) := goodIn_app (goodIn_of _ (by decide +kernel)) ggX4_isAny_X4_isPart
theorem dX4_isAny_0 : decode cX4_isAny 0 = .ok (.iload_n 1, 1) := by decide +kernel
theorem dX4_isAny_1 : decode cX4_isAny 1 = .ok (.ifCond .eq 11, 3) := by decide +kernel
theorem dX4_isAny_4 : decode cX4_isAny 4 = .ok (.aload_n 0, 1) := by decide +kernel
theorem dX4_isAny_5 : decode cX4_isAny 5 = .ok (.iload_n 1, 1) := by decide +kernel
theorem dX4_isAny_6 : decode cX4_isAny 6 = .ok (.invokevirtual 48, 3) := by decide +kernel
theorem dX4_isAny_9 : decode cX4_isAny 9 = .ok (.ifCond .eq 7, 3) := by decide +kernel
theorem dX4_isAny_12 : decode cX4_isAny 12 = .ok (.iconst 1, 1) := by decide +kernel
theorem dX4_isAny_13 : decode cX4_isAny 13 = .ok (.goto 4, 3) := by decide +kernel
theorem dX4_isAny_16 : decode cX4_isAny 16 = .ok (.iconst 0, 1) := by decide +kernel
theorem dX4_isAny_17 : decode cX4_isAny 17 = .ok (.ireturn, 1) := by decide +kernel
set_option maxRecDepth 20000 in
theorem ggX4_isRow_X4_isIn : GoodIn wsX4_isRow wsX4_isIn := goodIn_r _ [6] (by decide +kernel) (by decide +kernel)
set_option maxRecDepth 20000 in
theorem gX4_isRow_X4_isIn : GoodIn wsX4_isRow (va_wsS RX4 41 yX4_isIn wsX4_isIn) := goodIn_app (goodIn_of _ (by decide +kernel)) ggX4_isRow_X4_isIn
theorem dX4_isRow_0 : decode cX4_isRow 0 = .ok (.iload_n 1, 1) := by decide +kernel
theorem dX4_isRow_1 : decode cX4_isRow 1 = .ok (.iconst 0, 1) := by decide +kernel
theorem dX4_isRow_2 : decode cX4_isRow 2 = .ok (.aload_n 0, 1) := by decide +kernel
theorem dX4_isRow_3 : decode cX4_isRow 3 = .ok (.getfield 52, 3) := by decide +kernel
theorem dX4_isRow_6 : decode cX4_isRow 6 = .ok (.iconst 1, 1) := by decide +kernel
theorem dX4_isRow_7 : decode cX4_isRow 7 = .ok (.isub, 1) := by decide +kernel
theorem dX4_isRow_8 : decode cX4_isRow 8 = .ok (.invokestatic 41, 3) := by decide +kernel
theorem dX4_isRow_11 : decode cX4_isRow 11 = .ok (.ifCond .eq 17, 3) := by decide +kernel
theorem dX4_isRow_14 : decode cX4_isRow 14 = .ok (.aload_n 0, 1) := by decide +kernel
theorem dX4_isRow_15 : decode cX4_isRow 15 = .ok (.getfield 25, 3) := by decide +kernel
theorem dX4_isRow_18 : decode cX4_isRow 18 = .ok (.iload_n 1, 1) := by decide +kernel
theorem dX4_isRow_19 : decode cX4_isRow 19 = .ok (.iaload, 1) := by decide +kernel
theorem dX4_isRow_20 : decode cX4_isRow 20 = .ok (.iconst (-1), 1) := by decide +kernel
theorem dX4_isRow_21 : decode cX4_isRow 21 = .ok (.if_icmp .eq 7, 3) := by decide +kernel
theorem dX4_isRow_24 : decode cX4_isRow 24 = .ok (.iconst 1, 1) := by decide +kernel
theorem dX4_isRow_25 : decode cX4_isRow 25 = .ok (.goto 4, 3) := by decide +kernel
theorem dX4_isRow_28 : decode cX4_isRow 28 = .ok (.iconst 0, 1) := by decide +kernel
theorem dX4_isRow_29 : decode cX4_isRow 29 = .ok (.ireturn, 1) := by decide +kernel
theorem dX4_isAttached_0 : decode cX4_isAttached 0 = .ok (.iload_n 1, 1) := by decide +kernel
theorem dX4_isAttached_1 : decode cX4_isAttached 1 = .ok (.ifCond .le 16, 3) := by decide +kernel
theorem dX4_isAttached_4 : decode cX4_isAttached 4 = .ok (.aload_n 0, 1) := by decide +kernel
theorem dX4_isAttached_5 : decode cX4_isAttached 5 = .ok (.getfield 22, 3) := by decide +kernel
theorem dX4_isAttached_8 : decode cX4_isAttached 8 = .ok (.iload_n 1, 1) := by decide +kernel
theorem dX4_isAttached_9 : decode cX4_isAttached 9 = .ok (.iaload, 1) := by decide +kernel
theorem dX4_isAttached_10 : decode cX4_isAttached 10 = .ok (.ifCond .ne 7, 3) := by decide +kernel
theorem dX4_isAttached_13 : decode cX4_isAttached 13 = .ok (.iconst 1, 1) := by decide +kernel
theorem dX4_isAttached_14 : decode cX4_isAttached 14 = .ok (.goto 4, 3) := by decide +kernel
theorem dX4_isAttached_17 : decode cX4_isAttached 17 = .ok (.iconst 0, 1) := by decide +kernel
theorem dX4_isAttached_18 : decode cX4_isAttached 18 = .ok (.ireturn, 1) := by decide +kernel
set_option maxRecDepth 20000 in
theorem ggX4_hasKey_X4_isIn : GoodIn wsX4_hasKey wsX4_isIn := goodIn_r _ [6] (by decide +kernel) (by decide +kernel)
set_option maxRecDepth 20000 in
theorem gX4_hasKey_X4_isIn : GoodIn wsX4_hasKey (va_wsS RX4 41 yX4_isIn wsX4_isIn) := goodIn_app (goodIn_of _ (by decide +kernel)) ggX4_hasKey_X4_isIn
theorem dX4_hasKey_0 : decode cX4_hasKey 0 = .ok (.iload_n 2, 1) := by decide +kernel
theorem dX4_hasKey_1 : decode cX4_hasKey 1 = .ok (.aload_n 0, 1) := by decide +kernel
theorem dX4_hasKey_2 : decode cX4_hasKey 2 = .ok (.getfield 7, 3) := by decide +kernel
theorem dX4_hasKey_5 : decode cX4_hasKey 5 = .ok (.iload_n 1, 1) := by decide +kernel
theorem dX4_hasKey_6 : decode cX4_hasKey 6 = .ok (.iaload, 1) := by decide +kernel
theorem dX4_hasKey_7 : decode cX4_hasKey 7 = .ok (.aload_n 0, 1) := by decide +kernel
theorem dX4_hasKey_8 : decode cX4_hasKey 8 = .ok (.getfield 13, 3) := by decide +kernel
theorem dX4_hasKey_11 : decode cX4_hasKey 11 = .ok (.iload_n 1, 1) := by decide +kernel
theorem dX4_hasKey_12 : decode cX4_hasKey 12 = .ok (.iaload, 1) := by decide +kernel
theorem dX4_hasKey_13 : decode cX4_hasKey 13 = .ok (.iconst 1, 1) := by decide +kernel
theorem dX4_hasKey_14 : decode cX4_hasKey 14 = .ok (.isub, 1) := by decide +kernel
theorem dX4_hasKey_15 : decode cX4_hasKey 15 = .ok (.invokestatic 41, 3) := by decide +kernel
theorem dX4_hasKey_18 : decode cX4_hasKey 18 = .ok (.ireturn, 1) := by decide +kernel
set_option maxRecDepth 20000 in
theorem ggX4_partWith_X4_isAttached : GoodIn wsX4_partWith wsX4_isAttached := goodIn_r _ [6, 7, 17, 18, 19, 20, 21, 22, 23, 24, 25, 26, 27, 28, 29] (by decide +kernel) (by decide +kernel)
set_option maxRecDepth 20000 in
theorem gX4_partWith_X4_isAttached : GoodIn wsX4_partWith (wsV RX4 55 RX4 yX4_isAttached wsX4_isAttached) := goodIn_app (goodIn_of _ (by decide +kernel)) ggX4_partWith_X4_isAttached
set_option maxRecDepth 20000 in
theorem ggX4_partWith_X4_hasKey : GoodIn wsX4_partWith wsX4_hasKey := goodIn_r _ [11, 12, 13, 14, 15, 5, 16, 17, 18, 19, 20, 21, 22, 23, 24, 25, 26, 27, 28, 29] (by decide +kernel) (by decide +kernel)
set_option maxRecDepth 20000 in
theorem gX4_partWith_X4_hasKey : GoodIn wsX4_partWith (wsV RX4 58 RX4 yX4_hasKey wsX4_hasKey) := goodIn_app (goodIn_of _ (by decide +kernel)) ggX4_partWith_X4_hasKey
theorem dX4_partWith_0 : decode cX4_partWith 0 = .ok (.iconst 1, 1) := by decide +kernel
theorem dX4_partWith_1 : decode cX4_partWith 1 = .ok (.istore_n 2, 1) := by decide +kernel
theorem dX4_partWith_2 : decode cX4_partWith 2 = .ok (.iload_n 2, 1) := by decide +kernel
theorem dX4_partWith_3 : decode cX4_partWith 3 = .ok (.aload_n 0, 1) := by decide +kernel
theorem dX4_partWith_4 : decode cX4_partWith 4 = .ok (.getfield 45, 3) := by decide +kernel
theorem dX4_partWith_7 : decode cX4_partWith 7 = .ok (.if_icmp .gt 28, 3) := by decide +kernel
theorem dX4_partWith_10 : decode cX4_partWith 10 = .ok (.aload_n 0, 1) := by decide +kernel
theorem dX4_partWith_11 : decode cX4_partWith 11 = .ok (.iload_n 2, 1) := by decide +kernel
theorem dX4_partWith_12 : decode cX4_partWith 12 = .ok (.invokevirtual 55, 3) := by decide +kernel
theorem dX4_partWith_15 : decode cX4_partWith 15 = .ok (.ifCond .eq 14, 3) := by decide +kernel
theorem dX4_partWith_18 : decode cX4_partWith 18 = .ok (.aload_n 0, 1) := by decide +kernel
theorem dX4_partWith_19 : decode cX4_partWith 19 = .ok (.iload_n 2, 1) := by decide +kernel
theorem dX4_partWith_20 : decode cX4_partWith 20 = .ok (.iload_n 1, 1) := by decide +kernel
theorem dX4_partWith_21 : decode cX4_partWith 21 = .ok (.invokevirtual 58, 3) := by decide +kernel
theorem dX4_partWith_24 : decode cX4_partWith 24 = .ok (.ifCond .eq 5, 3) := by decide +kernel
theorem dX4_partWith_27 : decode cX4_partWith 27 = .ok (.iload_n 2, 1) := by decide +kernel
theorem dX4_partWith_28 : decode cX4_partWith 28 = .ok (.ireturn, 1) := by decide +kernel
theorem dX4_partWith_29 : decode cX4_partWith 29 = .ok (.iinc 2 1, 3) := by decide +kernel
theorem dX4_partWith_32 : decode cX4_partWith 32 = .ok (.goto (-30), 3) := by decide +kernel
theorem dX4_partWith_35 : decode cX4_partWith 35 = .ok (.iconst 0, 1) := by decide +kernel
theorem dX4_partWith_36 : decode cX4_partWith 36 = .ok (.ireturn, 1) := by decide +kernel
theorem dX4_leaves_0 : decode cX4_leaves 0 = .ok (.iload_n 1, 1) := by decide +kernel
theorem dX4_leaves_1 : decode cX4_leaves 1 = .ok (.ifCond .eq 12, 3) := by decide +kernel
theorem dX4_leaves_4 : decode cX4_leaves 4 = .ok (.aload_n 0, 1) := by decide +kernel
theorem dX4_leaves_5 : decode cX4_leaves 5 = .ok (.getfield 16, 3) := by decide +kernel
theorem dX4_leaves_8 : decode cX4_leaves 8 = .ok (.iload_n 1, 1) := by decide +kernel
theorem dX4_leaves_9 : decode cX4_leaves 9 = .ok (.iaload, 1) := by decide +kernel
theorem dX4_leaves_10 : decode cX4_leaves 10 = .ok (.ifCond .ne 7, 3) := by decide +kernel
theorem dX4_leaves_13 : decode cX4_leaves 13 = .ok (.iconst 1, 1) := by decide +kernel
theorem dX4_leaves_14 : decode cX4_leaves 14 = .ok (.goto 23, 3) := by decide +kernel
theorem dX4_leaves_17 : decode cX4_leaves 17 = .ok (.aload_n 0, 1) := by decide +kernel
theorem dX4_leaves_18 : decode cX4_leaves 18 = .ok (.getfield 16, 3) := by decide +kernel
theorem dX4_leaves_21 : decode cX4_leaves 21 = .ok (.iload_n 1, 1) := by decide +kernel
theorem dX4_leaves_22 : decode cX4_leaves 22 = .ok (.iaload, 1) := by decide +kernel
theorem dX4_leaves_23 : decode cX4_leaves 23 = .ok (.iconst 1, 1) := by decide +kernel
theorem dX4_leaves_24 : decode cX4_leaves 24 = .ok (.if_icmp .ne 7, 3) := by decide +kernel
theorem dX4_leaves_27 : decode cX4_leaves 27 = .ok (.iconst 2, 1) := by decide +kernel
theorem dX4_leaves_28 : decode cX4_leaves 28 = .ok (.goto 9, 3) := by decide +kernel
theorem dX4_leaves_31 : decode cX4_leaves 31 = .ok (.aload_n 0, 1) := by decide +kernel
theorem dX4_leaves_32 : decode cX4_leaves 32 = .ok (.getfield 19, 3) := by decide +kernel
theorem dX4_leaves_35 : decode cX4_leaves 35 = .ok (.iload_n 1, 1) := by decide +kernel
theorem dX4_leaves_36 : decode cX4_leaves 36 = .ok (.iaload, 1) := by decide +kernel
theorem dX4_leaves_37 : decode cX4_leaves 37 = .ok (.ireturn, 1) := by decide +kernel
theorem dX4_leaf_0 : decode cX4_leaf 0 = .ok (.iload_n 1, 1) := by decide +kernel
theorem dX4_leaf_1 : decode cX4_leaf 1 = .ok (.ifCond .eq 12, 3) := by decide +kernel
theorem dX4_leaf_4 : decode cX4_leaf 4 = .ok (.aload_n 0, 1) := by decide +kernel
theorem dX4_leaf_5 : decode cX4_leaf 5 = .ok (.getfield 16, 3) := by decide +kernel
theorem dX4_leaf_8 : decode cX4_leaf 8 = .ok (.iload_n 1, 1) := by decide +kernel
theorem dX4_leaf_9 : decode cX4_leaf 9 = .ok (.iaload, 1) := by decide +kernel
theorem dX4_leaf_10 : decode cX4_leaf 10 = .ok (.ifCond .ne 5, 3) := by decide +kernel
theorem dX4_leaf_13 : decode cX4_leaf 13 = .ok (.iconst 0, 1) := by decide +kernel
theorem dX4_leaf_14 : decode cX4_leaf 14 = .ok (.ireturn, 1) := by decide +kernel
theorem dX4_leaf_15 : decode cX4_leaf 15 = .ok (.aload_n 0, 1) := by decide +kernel
theorem dX4_leaf_16 : decode cX4_leaf 16 = .ok (.getfield 16, 3) := by decide +kernel
theorem dX4_leaf_19 : decode cX4_leaf 19 = .ok (.iload_n 1, 1) := by decide +kernel
theorem dX4_leaf_20 : decode cX4_leaf 20 = .ok (.iaload, 1) := by decide +kernel
theorem dX4_leaf_21 : decode cX4_leaf 21 = .ok (.iconst 1, 1) := by decide +kernel
theorem dX4_leaf_22 : decode cX4_leaf 22 = .ok (.if_icmp .ne 18, 3) := by decide +kernel
theorem dX4_leaf_25 : decode cX4_leaf 25 = .ok (.iconst 1, 1) := by decide +kernel
theorem dX4_leaf_26 : decode cX4_leaf 26 = .ok (.aload_n 0, 1) := by decide +kernel
theorem dX4_leaf_27 : decode cX4_leaf 27 = .ok (.getfield 19, 3) := by decide +kernel
theorem dX4_leaf_30 : decode cX4_leaf 30 = .ok (.iload_n 1, 1) := by decide +kernel
theorem dX4_leaf_31 : decode cX4_leaf 31 = .ok (.iaload, 1) := by decide +kernel
theorem dX4_leaf_32 : decode cX4_leaf 32 = .ok (.iload_n 3, 1) := by decide +kernel
theorem dX4_leaf_33 : decode cX4_leaf 33 = .ok (.ishr, 1) := by decide +kernel
theorem dX4_leaf_34 : decode cX4_leaf 34 = .ok (.iconst 1, 1) := by decide +kernel
theorem dX4_leaf_35 : decode cX4_leaf 35 = .ok (.iand, 1) := by decide +kernel
theorem dX4_leaf_36 : decode cX4_leaf 36 = .ok (.isub, 1) := by decide +kernel
theorem dX4_leaf_37 : decode cX4_leaf 37 = .ok (.goto 16, 3) := by decide +kernel
theorem dX4_leaf_40 : decode cX4_leaf 40 = .ok (.bipush 7, 2) := by decide +kernel
theorem dX4_leaf_42 : decode cX4_leaf 42 = .ok (.iload_n 2, 1) := by decide +kernel
theorem dX4_leaf_43 : decode cX4_leaf 43 = .ok (.imul, 1) := by decide +kernel
theorem dX4_leaf_44 : decode cX4_leaf 44 = .ok (.iconst 3, 1) := by decide +kernel
theorem dX4_leaf_45 : decode cX4_leaf 45 = .ok (.iadd, 1) := by decide +kernel
theorem dX4_leaf_46 : decode cX4_leaf 46 = .ok (.aload_n 0, 1) := by decide +kernel
theorem dX4_leaf_47 : decode cX4_leaf 47 = .ok (.getfield 19, 3) := by decide +kernel
theorem dX4_leaf_50 : decode cX4_leaf 50 = .ok (.iload_n 1, 1) := by decide +kernel
theorem dX4_leaf_51 : decode cX4_leaf 51 = .ok (.iaload, 1) := by decide +kernel
theorem dX4_leaf_52 : decode cX4_leaf 52 = .ok (.irem, 1) := by decide +kernel
theorem dX4_leaf_53 : decode cX4_leaf 53 = .ok (.ireturn, 1) := by decide +kernel
theorem dX4_rowsOf_0 : decode cX4_rowsOf 0 = .ok (.iconst 0, 1) := by decide +kernel
theorem dX4_rowsOf_1 : decode cX4_rowsOf 1 = .ok (.istore_n 2, 1) := by decide +kernel
theorem dX4_rowsOf_2 : decode cX4_rowsOf 2 = .ok (.iconst 0, 1) := by decide +kernel
theorem dX4_rowsOf_3 : decode cX4_rowsOf 3 = .ok (.istore_n 3, 1) := by decide +kernel
theorem dX4_rowsOf_4 : decode cX4_rowsOf 4 = .ok (.iload_n 3, 1) := by decide +kernel
theorem dX4_rowsOf_5 : decode cX4_rowsOf 5 = .ok (.aload_n 0, 1) := by decide +kernel
theorem dX4_rowsOf_6 : decode cX4_rowsOf 6 = .ok (.getfield 52, 3) := by decide +kernel
theorem dX4_rowsOf_9 : decode cX4_rowsOf 9 = .ok (.if_icmp .ge 27, 3) := by decide +kernel
theorem dX4_rowsOf_12 : decode cX4_rowsOf 12 = .ok (.iload_n 2, 1) := by decide +kernel
theorem dX4_rowsOf_13 : decode cX4_rowsOf 13 = .ok (.aload_n 0, 1) := by decide +kernel
theorem dX4_rowsOf_14 : decode cX4_rowsOf 14 = .ok (.getfield 25, 3) := by decide +kernel
theorem dX4_rowsOf_17 : decode cX4_rowsOf 17 = .ok (.iload_n 3, 1) := by decide +kernel
theorem dX4_rowsOf_18 : decode cX4_rowsOf 18 = .ok (.iaload, 1) := by decide +kernel
theorem dX4_rowsOf_19 : decode cX4_rowsOf 19 = .ok (.iload_n 1, 1) := by decide +kernel
theorem dX4_rowsOf_20 : decode cX4_rowsOf 20 = .ok (.if_icmp .ne 7, 3) := by decide +kernel
theorem dX4_rowsOf_23 : decode cX4_rowsOf 23 = .ok (.iconst 1, 1) := by decide +kernel
theorem dX4_rowsOf_24 : decode cX4_rowsOf 24 = .ok (.goto 4, 3) := by decide +kernel
theorem dX4_rowsOf_27 : decode cX4_rowsOf 27 = .ok (.iconst 0, 1) := by decide +kernel
theorem dX4_rowsOf_28 : decode cX4_rowsOf 28 = .ok (.iadd, 1) := by decide +kernel
theorem dX4_rowsOf_29 : decode cX4_rowsOf 29 = .ok (.istore_n 2, 1) := by decide +kernel
theorem dX4_rowsOf_30 : decode cX4_rowsOf 30 = .ok (.iinc 3 1, 3) := by decide +kernel
theorem dX4_rowsOf_33 : decode cX4_rowsOf 33 = .ok (.goto (-29), 3) := by decide +kernel
theorem dX4_rowsOf_36 : decode cX4_rowsOf 36 = .ok (.iload_n 2, 1) := by decide +kernel
theorem dX4_rowsOf_37 : decode cX4_rowsOf 37 = .ok (.ireturn, 1) := by decide +kernel
set_option maxRecDepth 20000 in
theorem ggX4_isInRest_X4_isIn : GoodIn wsX4_isInRest wsX4_isIn := goodIn_r _ [7] (by decide +kernel) (by decide +kernel)
set_option maxRecDepth 20000 in
theorem gX4_isInRest_X4_isIn : GoodIn wsX4_isInRest (va_wsS RX4 41 yX4_isIn wsX4_isIn) := goodIn_app (goodIn_of _ (by decide +kernel)) ggX4_isInRest_X4_isIn
theorem dX4_isInRest_0 : decode cX4_isInRest 0 = .ok (.iconst 0, 1) := by decide +kernel
theorem dX4_isInRest_1 : decode cX4_isInRest 1 = .ok (.istore_n 3, 1) := by decide +kernel
theorem dX4_isInRest_2 : decode cX4_isInRest 2 = .ok (.iconst 0, 1) := by decide +kernel
theorem dX4_isInRest_3 : decode cX4_isInRest 3 = .ok (.istore 4, 2) := by decide +kernel
theorem dX4_isInRest_5 : decode cX4_isInRest 5 = .ok (.iload 4, 2) := by decide +kernel
theorem dX4_isInRest_7 : decode cX4_isInRest 7 = .ok (.aload_n 0, 1) := by decide +kernel
theorem dX4_isInRest_8 : decode cX4_isInRest 8 = .ok (.getfield 52, 3) := by decide +kernel
theorem dX4_isInRest_11 : decode cX4_isInRest 11 = .ok (.if_icmp .ge 46, 3) := by decide +kernel
theorem dX4_isInRest_14 : decode cX4_isInRest 14 = .ok (.iload_n 3, 1) := by decide +kernel
theorem dX4_isInRest_15 : decode cX4_isInRest 15 = .ok (.ifCond .ne 30, 3) := by decide +kernel
theorem dX4_isInRest_18 : decode cX4_isInRest 18 = .ok (.aload_n 0, 1) := by decide +kernel
theorem dX4_isInRest_19 : decode cX4_isInRest 19 = .ok (.getfield 25, 3) := by decide +kernel
theorem dX4_isInRest_22 : decode cX4_isInRest 22 = .ok (.iload 4, 2) := by decide +kernel
theorem dX4_isInRest_24 : decode cX4_isInRest 24 = .ok (.iaload, 1) := by decide +kernel
theorem dX4_isInRest_25 : decode cX4_isInRest 25 = .ok (.ifCond .ne 24, 3) := by decide +kernel
theorem dX4_isInRest_28 : decode cX4_isInRest 28 = .ok (.aload_n 0, 1) := by decide +kernel
theorem dX4_isInRest_29 : decode cX4_isInRest 29 = .ok (.getfield 28, 3) := by decide +kernel
theorem dX4_isInRest_32 : decode cX4_isInRest 32 = .ok (.iload 4, 2) := by decide +kernel
theorem dX4_isInRest_34 : decode cX4_isInRest 34 = .ok (.iaload, 1) := by decide +kernel
theorem dX4_isInRest_35 : decode cX4_isInRest 35 = .ok (.iload_n 1, 1) := by decide +kernel
theorem dX4_isInRest_36 : decode cX4_isInRest 36 = .ok (.iload_n 2, 1) := by decide +kernel
theorem dX4_isInRest_37 : decode cX4_isInRest 37 = .ok (.iconst 1, 1) := by decide +kernel
theorem dX4_isInRest_38 : decode cX4_isInRest 38 = .ok (.isub, 1) := by decide +kernel
theorem dX4_isInRest_39 : decode cX4_isInRest 39 = .ok (.invokestatic 41, 3) := by decide +kernel
theorem dX4_isInRest_42 : decode cX4_isInRest 42 = .ok (.ifCond .eq 7, 3) := by decide +kernel
theorem dX4_isInRest_45 : decode cX4_isInRest 45 = .ok (.iconst 1, 1) := by decide +kernel
theorem dX4_isInRest_46 : decode cX4_isInRest 46 = .ok (.goto 4, 3) := by decide +kernel
theorem dX4_isInRest_49 : decode cX4_isInRest 49 = .ok (.iconst 0, 1) := by decide +kernel
theorem dX4_isInRest_50 : decode cX4_isInRest 50 = .ok (.istore_n 3, 1) := by decide +kernel
theorem dX4_isInRest_51 : decode cX4_isInRest 51 = .ok (.iinc 4 1, 3) := by decide +kernel
theorem dX4_isInRest_54 : decode cX4_isInRest 54 = .ok (.goto (-49), 3) := by decide +kernel
theorem dX4_isInRest_57 : decode cX4_isInRest 57 = .ok (.iload_n 3, 1) := by decide +kernel
theorem dX4_isInRest_58 : decode cX4_isInRest 58 = .ok (.ireturn, 1) := by decide +kernel
set_option maxRecDepth 20000 in
theorem ggX4_overlaps_X4_isAttached : GoodIn wsX4_overlaps wsX4_isAttached := goodIn_r _ [8, 9, 10, 11, 12, 13, 14, 15, 16, 17, 18, 19, 20, 21, 22] (by decide +kernel) (by decide +kernel)
set_option maxRecDepth 20000 in
theorem gX4_overlaps_X4_isAttached : GoodIn wsX4_overlaps (wsV RX4 55 RX4 yX4_isAttached wsX4_isAttached) := goodIn_app (goodIn_of _ (by decide +kernel)) ggX4_overlaps_X4_isAttached
theorem dX4_overlaps_0 : decode cX4_overlaps 0 = .ok (.iconst 0, 1) := by decide +kernel
theorem dX4_overlaps_1 : decode cX4_overlaps 1 = .ok (.istore_n 3, 1) := by decide +kernel
theorem dX4_overlaps_2 : decode cX4_overlaps 2 = .ok (.iconst 1, 1) := by decide +kernel
theorem dX4_overlaps_3 : decode cX4_overlaps 3 = .ok (.istore 4, 2) := by decide +kernel
theorem dX4_overlaps_5 : decode cX4_overlaps 5 = .ok (.iload 4, 2) := by decide +kernel
theorem dX4_overlaps_7 : decode cX4_overlaps 7 = .ok (.aload_n 0, 1) := by decide +kernel
theorem dX4_overlaps_8 : decode cX4_overlaps 8 = .ok (.getfield 45, 3) := by decide +kernel
theorem dX4_overlaps_11 : decode cX4_overlaps 11 = .ok (.if_icmp .gt 50, 3) := by decide +kernel
theorem dX4_overlaps_14 : decode cX4_overlaps 14 = .ok (.iload_n 3, 1) := by decide +kernel
theorem dX4_overlaps_15 : decode cX4_overlaps 15 = .ok (.ifCond .ne 34, 3) := by decide +kernel
theorem dX4_overlaps_18 : decode cX4_overlaps 18 = .ok (.aload_n 0, 1) := by decide +kernel
theorem dX4_overlaps_19 : decode cX4_overlaps 19 = .ok (.iload 4, 2) := by decide +kernel
theorem dX4_overlaps_21 : decode cX4_overlaps 21 = .ok (.invokevirtual 55, 3) := by decide +kernel
theorem dX4_overlaps_24 : decode cX4_overlaps 24 = .ok (.ifCond .eq 29, 3) := by decide +kernel
theorem dX4_overlaps_27 : decode cX4_overlaps 27 = .ok (.iload_n 1, 1) := by decide +kernel
theorem dX4_overlaps_28 : decode cX4_overlaps 28 = .ok (.aload_n 0, 1) := by decide +kernel
theorem dX4_overlaps_29 : decode cX4_overlaps 29 = .ok (.getfield 13, 3) := by decide +kernel
theorem dX4_overlaps_32 : decode cX4_overlaps 32 = .ok (.iload 4, 2) := by decide +kernel
theorem dX4_overlaps_34 : decode cX4_overlaps 34 = .ok (.iaload, 1) := by decide +kernel
theorem dX4_overlaps_35 : decode cX4_overlaps 35 = .ok (.if_icmp .ge 18, 3) := by decide +kernel
theorem dX4_overlaps_38 : decode cX4_overlaps 38 = .ok (.aload_n 0, 1) := by decide +kernel
theorem dX4_overlaps_39 : decode cX4_overlaps 39 = .ok (.getfield 7, 3) := by decide +kernel
theorem dX4_overlaps_42 : decode cX4_overlaps 42 = .ok (.iload 4, 2) := by decide +kernel
theorem dX4_overlaps_44 : decode cX4_overlaps 44 = .ok (.iaload, 1) := by decide +kernel
theorem dX4_overlaps_45 : decode cX4_overlaps 45 = .ok (.iload_n 2, 1) := by decide +kernel
theorem dX4_overlaps_46 : decode cX4_overlaps 46 = .ok (.if_icmp .ge 7, 3) := by decide +kernel
theorem dX4_overlaps_49 : decode cX4_overlaps 49 = .ok (.iconst 1, 1) := by decide +kernel
theorem dX4_overlaps_50 : decode cX4_overlaps 50 = .ok (.goto 4, 3) := by decide +kernel
theorem dX4_overlaps_53 : decode cX4_overlaps 53 = .ok (.iconst 0, 1) := by decide +kernel
theorem dX4_overlaps_54 : decode cX4_overlaps 54 = .ok (.istore_n 3, 1) := by decide +kernel
theorem dX4_overlaps_55 : decode cX4_overlaps 55 = .ok (.iinc 4 1, 3) := by decide +kernel
theorem dX4_overlaps_58 : decode cX4_overlaps 58 = .ok (.goto (-53), 3) := by decide +kernel
theorem dX4_overlaps_61 : decode cX4_overlaps 61 = .ok (.iload_n 3, 1) := by decide +kernel
theorem dX4_overlaps_62 : decode cX4_overlaps 62 = .ok (.ireturn, 1) := by decide +kernel
set_option maxRecDepth 20000 in
theorem ggX4_isShape_X4_isIn : GoodIn wsX4_isShape wsX4_isIn := goodIn_r _ [4] (by decide +kernel) (by decide +kernel)
set_option maxRecDepth 20000 in
theorem gX4_isShape_X4_isIn : GoodIn wsX4_isShape (va_wsS RX4 41 yX4_isIn wsX4_isIn) := goodIn_app (goodIn_of _ (by decide +kernel)) ggX4_isShape_X4_isIn
set_option maxRecDepth 20000 in
theorem ggX4_isShape_X4_isKey : GoodIn wsX4_isShape wsX4_isKey := goodIn_r _ [7, 1, 2, 3, 4] (by decide +kernel) (by decide +kernel)
set_option maxRecDepth 20000 in
theorem gX4_isShape_X4_isKey : GoodIn wsX4_isShape (va_wsS RX4 62 yX4_isKey wsX4_isKey) := goodIn_app (goodIn_of _ (by decide +kernel)) ggX4_isShape_X4_isKey
theorem dX4_isShape_0 : decode cX4_isShape 0 = .ok (.iload_n 2, 1) := by decide +kernel
theorem dX4_isShape_1 : decode cX4_isShape 1 = .ok (.ifCond .ne 15, 3) := by decide +kernel
theorem dX4_isShape_4 : decode cX4_isShape 4 = .ok (.iload_n 3, 1) := by decide +kernel
theorem dX4_isShape_5 : decode cX4_isShape 5 = .ok (.ifCond .ne 7, 3) := by decide +kernel
theorem dX4_isShape_8 : decode cX4_isShape 8 = .ok (.iconst 1, 1) := by decide +kernel
theorem dX4_isShape_9 : decode cX4_isShape 9 = .ok (.goto 29, 3) := by decide +kernel
theorem dX4_isShape_12 : decode cX4_isShape 12 = .ok (.iconst 0, 1) := by decide +kernel
theorem dX4_isShape_13 : decode cX4_isShape 13 = .ok (.goto 25, 3) := by decide +kernel
theorem dX4_isShape_16 : decode cX4_isShape 16 = .ok (.iload_n 2, 1) := by decide +kernel
theorem dX4_isShape_17 : decode cX4_isShape 17 = .ok (.iconst 1, 1) := by decide +kernel
theorem dX4_isShape_18 : decode cX4_isShape 18 = .ok (.if_icmp .ne 14, 3) := by decide +kernel
theorem dX4_isShape_21 : decode cX4_isShape 21 = .ok (.iload_n 3, 1) := by decide +kernel
theorem dX4_isShape_22 : decode cX4_isShape 22 = .ok (.iconst 1, 1) := by decide +kernel
theorem dX4_isShape_23 : decode cX4_isShape 23 = .ok (.sipush 1022, 3) := by decide +kernel
theorem dX4_isShape_26 : decode cX4_isShape 26 = .ok (.invokestatic 41, 3) := by decide +kernel
theorem dX4_isShape_29 : decode cX4_isShape 29 = .ok (.goto 9, 3) := by decide +kernel
theorem dX4_isShape_32 : decode cX4_isShape 32 = .ok (.iload_n 3, 1) := by decide +kernel
theorem dX4_isShape_33 : decode cX4_isShape 33 = .ok (.iconst 1, 1) := by decide +kernel
theorem dX4_isShape_34 : decode cX4_isShape 34 = .ok (.iconst 5, 1) := by decide +kernel
theorem dX4_isShape_35 : decode cX4_isShape 35 = .ok (.invokestatic 41, 3) := by decide +kernel
theorem dX4_isShape_38 : decode cX4_isShape 38 = .ok (.istore 4, 2) := by decide +kernel
theorem dX4_isShape_40 : decode cX4_isShape 40 = .ok (.iload_n 0, 1) := by decide +kernel
theorem dX4_isShape_41 : decode cX4_isShape 41 = .ok (.invokestatic 62, 3) := by decide +kernel
theorem dX4_isShape_44 : decode cX4_isShape 44 = .ok (.ifCond .eq 34, 3) := by decide +kernel
theorem dX4_isShape_47 : decode cX4_isShape 47 = .ok (.iload_n 1, 1) := by decide +kernel
theorem dX4_isShape_48 : decode cX4_isShape 48 = .ok (.iload_n 0, 1) := by decide +kernel
theorem dX4_isShape_49 : decode cX4_isShape 49 = .ok (.iconst 1, 1) := by decide +kernel
theorem dX4_isShape_50 : decode cX4_isShape 50 = .ok (.iadd, 1) := by decide +kernel
theorem dX4_isShape_51 : decode cX4_isShape 51 = .ok (.sipush 1000, 3) := by decide +kernel
theorem dX4_isShape_54 : decode cX4_isShape 54 = .ok (.invokestatic 41, 3) := by decide +kernel
theorem dX4_isShape_57 : decode cX4_isShape 57 = .ok (.ifCond .eq 21, 3) := by decide +kernel
theorem dX4_isShape_60 : decode cX4_isShape 60 = .ok (.iload_n 2, 1) := by decide +kernel
theorem dX4_isShape_61 : decode cX4_isShape 61 = .ok (.iconst 0, 1) := by decide +kernel
theorem dX4_isShape_62 : decode cX4_isShape 62 = .ok (.iconst 2, 1) := by decide +kernel
theorem dX4_isShape_63 : decode cX4_isShape 63 = .ok (.invokestatic 41, 3) := by decide +kernel
theorem dX4_isShape_66 : decode cX4_isShape 66 = .ok (.ifCond .eq 12, 3) := by decide +kernel
theorem dX4_isShape_69 : decode cX4_isShape 69 = .ok (.iload 4, 2) := by decide +kernel
theorem dX4_isShape_71 : decode cX4_isShape 71 = .ok (.ifCond .eq 7, 3) := by decide +kernel
theorem dX4_isShape_74 : decode cX4_isShape 74 = .ok (.iconst 1, 1) := by decide +kernel
theorem dX4_isShape_75 : decode cX4_isShape 75 = .ok (.goto 4, 3) := by decide +kernel
theorem dX4_isShape_78 : decode cX4_isShape 78 = .ok (.iconst 0, 1) := by decide +kernel
theorem dX4_isShape_79 : decode cX4_isShape 79 = .ok (.ireturn, 1) := by decide +kernel
theorem dX4_makes_0 : decode cX4_makes 0 = .ok (.aload_n 0, 1) := by decide +kernel
theorem dX4_makes_1 : decode cX4_makes 1 = .ok (.dup, 1) := by decide +kernel
theorem dX4_makes_2 : decode cX4_makes 2 = .ok (.getfield 45, 3) := by decide +kernel
theorem dX4_makes_5 : decode cX4_makes 5 = .ok (.iconst 1, 1) := by decide +kernel
theorem dX4_makes_6 : decode cX4_makes 6 = .ok (.iadd, 1) := by decide +kernel
theorem dX4_makes_7 : decode cX4_makes 7 = .ok (.putfield 45, 3) := by decide +kernel
theorem dX4_makes_10 : decode cX4_makes 10 = .ok (.aload_n 0, 1) := by decide +kernel
theorem dX4_makes_11 : decode cX4_makes 11 = .ok (.getfield 7, 3) := by decide +kernel
theorem dX4_makes_14 : decode cX4_makes 14 = .ok (.aload_n 0, 1) := by decide +kernel
theorem dX4_makes_15 : decode cX4_makes 15 = .ok (.getfield 45, 3) := by decide +kernel
theorem dX4_makes_18 : decode cX4_makes 18 = .ok (.iload_n 1, 1) := by decide +kernel
theorem dX4_makes_19 : decode cX4_makes 19 = .ok (.iastore, 1) := by decide +kernel
theorem dX4_makes_20 : decode cX4_makes 20 = .ok (.aload_n 0, 1) := by decide +kernel
theorem dX4_makes_21 : decode cX4_makes 21 = .ok (.getfield 13, 3) := by decide +kernel
theorem dX4_makes_24 : decode cX4_makes 24 = .ok (.aload_n 0, 1) := by decide +kernel
theorem dX4_makes_25 : decode cX4_makes 25 = .ok (.getfield 45, 3) := by decide +kernel
theorem dX4_makes_28 : decode cX4_makes 28 = .ok (.iload_n 2, 1) := by decide +kernel
theorem dX4_makes_29 : decode cX4_makes 29 = .ok (.iastore, 1) := by decide +kernel
theorem dX4_makes_30 : decode cX4_makes 30 = .ok (.aload_n 0, 1) := by decide +kernel
theorem dX4_makes_31 : decode cX4_makes 31 = .ok (.getfield 16, 3) := by decide +kernel
theorem dX4_makes_34 : decode cX4_makes 34 = .ok (.aload_n 0, 1) := by decide +kernel
theorem dX4_makes_35 : decode cX4_makes 35 = .ok (.getfield 45, 3) := by decide +kernel
theorem dX4_makes_38 : decode cX4_makes 38 = .ok (.iload_n 3, 1) := by decide +kernel
theorem dX4_makes_39 : decode cX4_makes 39 = .ok (.iastore, 1) := by decide +kernel
theorem dX4_makes_40 : decode cX4_makes 40 = .ok (.aload_n 0, 1) := by decide +kernel
theorem dX4_makes_41 : decode cX4_makes 41 = .ok (.getfield 19, 3) := by decide +kernel
theorem dX4_makes_44 : decode cX4_makes 44 = .ok (.aload_n 0, 1) := by decide +kernel
theorem dX4_makes_45 : decode cX4_makes 45 = .ok (.getfield 45, 3) := by decide +kernel
theorem dX4_makes_48 : decode cX4_makes 48 = .ok (.iload 4, 2) := by decide +kernel
theorem dX4_makes_50 : decode cX4_makes 50 = .ok (.iastore, 1) := by decide +kernel
theorem dX4_makes_51 : decode cX4_makes 51 = .ok (.aload_n 0, 1) := by decide +kernel
theorem dX4_makes_52 : decode cX4_makes 52 = .ok (.getfield 22, 3) := by decide +kernel
theorem dX4_makes_55 : decode cX4_makes 55 = .ok (.aload_n 0, 1) := by decide +kernel
theorem dX4_makes_56 : decode cX4_makes 56 = .ok (.getfield 45, 3) := by decide +kernel
theorem dX4_makes_59 : decode cX4_makes 59 = .ok (.iconst 0, 1) := by decide +kernel
theorem dX4_makes_60 : decode cX4_makes 60 = .ok (.iastore, 1) := by decide +kernel
theorem dX4_makes_61 : decode cX4_makes 61 = .ok (.aload_n 0, 1) := by decide +kernel
theorem dX4_makes_62 : decode cX4_makes 62 = .ok (.getfield 45, 3) := by decide +kernel
theorem dX4_makes_65 : decode cX4_makes 65 = .ok (.ireturn, 1) := by decide +kernel
set_option maxRecDepth 20000 in
theorem ggX4_moves_X4_hasKey : GoodIn wsX4_moves wsX4_hasKey := goodIn_r _ [8, 9, 10, 11, 12, 7, 13, 14, 15, 16, 17, 18, 19, 20, 21, 22, 23, 24, 25, 26] (by decide +kernel) (by decide +kernel)
set_option maxRecDepth 20000 in
theorem gX4_moves_X4_hasKey : GoodIn wsX4_moves (wsV RX4 58 RX4 yX4_hasKey wsX4_hasKey) := goodIn_app (goodIn_of _ (by decide +kernel)) ggX4_moves_X4_hasKey
theorem dX4_moves_0 : decode cX4_moves 0 = .ok (.iconst 0, 1) := by decide +kernel
theorem dX4_moves_1 : decode cX4_moves 1 = .ok (.istore_n 3, 1) := by decide +kernel
theorem dX4_moves_2 : decode cX4_moves 2 = .ok (.iload_n 3, 1) := by decide +kernel
theorem dX4_moves_3 : decode cX4_moves 3 = .ok (.aload_n 0, 1) := by decide +kernel
theorem dX4_moves_4 : decode cX4_moves 4 = .ok (.getfield 52, 3) := by decide +kernel
theorem dX4_moves_7 : decode cX4_moves 7 = .ok (.if_icmp .ge 49, 3) := by decide +kernel
theorem dX4_moves_10 : decode cX4_moves 10 = .ok (.aload_n 0, 1) := by decide +kernel
theorem dX4_moves_11 : decode cX4_moves 11 = .ok (.getfield 25, 3) := by decide +kernel
theorem dX4_moves_14 : decode cX4_moves 14 = .ok (.iload_n 3, 1) := by decide +kernel
theorem dX4_moves_15 : decode cX4_moves 15 = .ok (.aload_n 0, 1) := by decide +kernel
theorem dX4_moves_16 : decode cX4_moves 16 = .ok (.getfield 25, 3) := by decide +kernel
theorem dX4_moves_19 : decode cX4_moves 19 = .ok (.iload_n 3, 1) := by decide +kernel
theorem dX4_moves_20 : decode cX4_moves 20 = .ok (.iaload, 1) := by decide +kernel
theorem dX4_moves_21 : decode cX4_moves 21 = .ok (.iload_n 1, 1) := by decide +kernel
theorem dX4_moves_22 : decode cX4_moves 22 = .ok (.if_icmp .ne 21, 3) := by decide +kernel
theorem dX4_moves_25 : decode cX4_moves 25 = .ok (.aload_n 0, 1) := by decide +kernel
theorem dX4_moves_26 : decode cX4_moves 26 = .ok (.iload_n 2, 1) := by decide +kernel
theorem dX4_moves_27 : decode cX4_moves 27 = .ok (.aload_n 0, 1) := by decide +kernel
theorem dX4_moves_28 : decode cX4_moves 28 = .ok (.getfield 28, 3) := by decide +kernel
theorem dX4_moves_31 : decode cX4_moves 31 = .ok (.iload_n 3, 1) := by decide +kernel
theorem dX4_moves_32 : decode cX4_moves 32 = .ok (.iaload, 1) := by decide +kernel
theorem dX4_moves_33 : decode cX4_moves 33 = .ok (.invokevirtual 58, 3) := by decide +kernel
theorem dX4_moves_36 : decode cX4_moves 36 = .ok (.ifCond .eq 7, 3) := by decide +kernel
theorem dX4_moves_39 : decode cX4_moves 39 = .ok (.iload_n 2, 1) := by decide +kernel
theorem dX4_moves_40 : decode cX4_moves 40 = .ok (.goto 9, 3) := by decide +kernel
theorem dX4_moves_43 : decode cX4_moves 43 = .ok (.aload_n 0, 1) := by decide +kernel
theorem dX4_moves_44 : decode cX4_moves 44 = .ok (.getfield 25, 3) := by decide +kernel
theorem dX4_moves_47 : decode cX4_moves 47 = .ok (.iload_n 3, 1) := by decide +kernel
theorem dX4_moves_48 : decode cX4_moves 48 = .ok (.iaload, 1) := by decide +kernel
theorem dX4_moves_49 : decode cX4_moves 49 = .ok (.iastore, 1) := by decide +kernel
theorem dX4_moves_50 : decode cX4_moves 50 = .ok (.iinc 3 1, 3) := by decide +kernel
theorem dX4_moves_53 : decode cX4_moves 53 = .ok (.goto (-51), 3) := by decide +kernel
theorem dX4_moves_56 : decode cX4_moves 56 = .ok (.return_, 1) := by decide +kernel
set_option maxRecDepth 20000 in
theorem ggX4_makePart_X4_isShape : GoodIn wsX4_makePart wsX4_isShape := goodIn_r _ [5, 6, 7, 4, 8, 9, 10, 11] (by decide +kernel) (by decide +kernel)
set_option maxRecDepth 20000 in
theorem gX4_makePart_X4_isShape : GoodIn wsX4_makePart (va_wsS RX4 65 yX4_isShape wsX4_isShape) := goodIn_app (goodIn_of _ (by decide +kernel)) ggX4_makePart_X4_isShape
set_option maxRecDepth 20000 in
theorem ggX4_makePart_X4_overlaps : GoodIn wsX4_makePart wsX4_overlaps := goodIn_r _ [15, 1, 16, 17, 18, 19, 20, 4, 21, 22, 41, 42, 43, 44, 45, 46, 47, 48, 49, 50, 51, 52, 53] (by decide +kernel) (by decide +kernel)
set_option maxRecDepth 20000 in
theorem gX4_makePart_X4_overlaps : GoodIn wsX4_makePart (wsV RX4 69 RX4 yX4_overlaps wsX4_overlaps) := goodIn_app (goodIn_of _ (by decide +kernel)) ggX4_makePart_X4_overlaps
set_option maxRecDepth 20000 in
theorem ggX4_makePart_X4_isInRest : GoodIn wsX4_makePart wsX4_isInRest := goodIn_r _ [26, 27, 28, 29, 6, 7, 4, 8, 41, 42, 43, 44, 45, 46, 47, 48, 49, 50, 51, 52, 53] (by decide +kernel) (by decide +kernel)
set_option maxRecDepth 20000 in
theorem gX4_makePart_X4_isInRest : GoodIn wsX4_makePart (wsV RX4 72 RX4 yX4_isInRest wsX4_isInRest) := goodIn_app (goodIn_of _ (by decide +kernel)) ggX4_makePart_X4_isInRest
set_option maxRecDepth 20000 in
theorem ggX4_makePart_X4_isFine : GoodIn wsX4_makePart wsX4_isFine := goodIn_r _ [33, 34, 41, 42, 43, 44, 45, 46, 47, 48, 49, 50, 51, 52, 53] (by decide +kernel) (by decide +kernel)
set_option maxRecDepth 20000 in
theorem gX4_makePart_X4_isFine : GoodIn wsX4_makePart (wsV RX4 75 RX4 yX4_isFine wsX4_isFine) := goodIn_app (goodIn_of _ (by decide +kernel)) ggX4_makePart_X4_isFine
set_option maxRecDepth 20000 in
theorem ggX4_makePart_X4_makes : GoodIn wsX4_makePart wsX4_makes := goodIn_r _ [38, 1, 17, 16, 39, 40, 22, 41, 42, 43, 44, 45, 46, 47, 48, 49, 50, 51, 52, 53] (by decide +kernel) (by decide +kernel)
set_option maxRecDepth 20000 in
theorem gX4_makePart_X4_makes : GoodIn wsX4_makePart (wsV RX4 78 RX4 yX4_makes wsX4_makes) := goodIn_app (goodIn_of _ (by decide +kernel)) ggX4_makePart_X4_makes
theorem dX4_makePart_0 : decode cX4_makePart 0 = .ok (.iload_n 1, 1) := by decide +kernel
theorem dX4_makePart_1 : decode cX4_makePart 1 = .ok (.iload_n 2, 1) := by decide +kernel
theorem dX4_makePart_2 : decode cX4_makePart 2 = .ok (.iload_n 3, 1) := by decide +kernel
theorem dX4_makePart_3 : decode cX4_makePart 3 = .ok (.iload 4, 2) := by decide +kernel
theorem dX4_makePart_5 : decode cX4_makePart 5 = .ok (.invokestatic 65, 3) := by decide +kernel
theorem dX4_makePart_8 : decode cX4_makePart 8 = .ok (.istore 5, 2) := by decide +kernel
theorem dX4_makePart_10 : decode cX4_makePart 10 = .ok (.aload_n 0, 1) := by decide +kernel
theorem dX4_makePart_11 : decode cX4_makePart 11 = .ok (.iload 5, 2) := by decide +kernel
theorem dX4_makePart_13 : decode cX4_makePart 13 = .ok (.ifCond .ne 7, 3) := by decide +kernel
theorem dX4_makePart_16 : decode cX4_makePart 16 = .ok (.iconst 1, 1) := by decide +kernel
theorem dX4_makePart_17 : decode cX4_makePart 17 = .ok (.goto 35, 3) := by decide +kernel
theorem dX4_makePart_20 : decode cX4_makePart 20 = .ok (.aload_n 0, 1) := by decide +kernel
theorem dX4_makePart_21 : decode cX4_makePart 21 = .ok (.getfield 45, 3) := by decide +kernel
theorem dX4_makePart_24 : decode cX4_makePart 24 = .ok (.bipush 15, 2) := by decide +kernel
theorem dX4_makePart_26 : decode cX4_makePart 26 = .ok (.if_icmp .eq 21, 3) := by decide +kernel
theorem dX4_makePart_29 : decode cX4_makePart 29 = .ok (.aload_n 0, 1) := by decide +kernel
theorem dX4_makePart_30 : decode cX4_makePart 30 = .ok (.iload_n 1, 1) := by decide +kernel
theorem dX4_makePart_31 : decode cX4_makePart 31 = .ok (.iload_n 2, 1) := by decide +kernel
theorem dX4_makePart_32 : decode cX4_makePart 32 = .ok (.invokevirtual 69, 3) := by decide +kernel
theorem dX4_makePart_35 : decode cX4_makePart 35 = .ok (.ifCond .ne 12, 3) := by decide +kernel
theorem dX4_makePart_38 : decode cX4_makePart 38 = .ok (.aload_n 0, 1) := by decide +kernel
theorem dX4_makePart_39 : decode cX4_makePart 39 = .ok (.iload_n 1, 1) := by decide +kernel
theorem dX4_makePart_40 : decode cX4_makePart 40 = .ok (.iload_n 2, 1) := by decide +kernel
theorem dX4_makePart_41 : decode cX4_makePart 41 = .ok (.invokevirtual 72, 3) := by decide +kernel
theorem dX4_makePart_44 : decode cX4_makePart 44 = .ok (.ifCond .eq 7, 3) := by decide +kernel
theorem dX4_makePart_47 : decode cX4_makePart 47 = .ok (.iconst 2, 1) := by decide +kernel
theorem dX4_makePart_48 : decode cX4_makePart 48 = .ok (.goto 4, 3) := by decide +kernel
theorem dX4_makePart_51 : decode cX4_makePart 51 = .ok (.iconst 0, 1) := by decide +kernel
theorem dX4_makePart_52 : decode cX4_makePart 52 = .ok (.invokevirtual 75, 3) := by decide +kernel
theorem dX4_makePart_55 : decode cX4_makePart 55 = .ok (.ifCond .eq 15, 3) := by decide +kernel
theorem dX4_makePart_58 : decode cX4_makePart 58 = .ok (.aload_n 0, 1) := by decide +kernel
theorem dX4_makePart_59 : decode cX4_makePart 59 = .ok (.iload_n 1, 1) := by decide +kernel
theorem dX4_makePart_60 : decode cX4_makePart 60 = .ok (.iload_n 2, 1) := by decide +kernel
theorem dX4_makePart_61 : decode cX4_makePart 61 = .ok (.iload_n 3, 1) := by decide +kernel
theorem dX4_makePart_62 : decode cX4_makePart 62 = .ok (.iload 4, 2) := by decide +kernel
theorem dX4_makePart_64 : decode cX4_makePart 64 = .ok (.invokevirtual 78, 3) := by decide +kernel
theorem dX4_makePart_67 : decode cX4_makePart 67 = .ok (.goto 4, 3) := by decide +kernel
theorem dX4_makePart_70 : decode cX4_makePart 70 = .ok (.iconst 0, 1) := by decide +kernel
theorem dX4_makePart_71 : decode cX4_makePart 71 = .ok (.ireturn, 1) := by decide +kernel
set_option maxRecDepth 20000 in
theorem ggX4_carveOut_X4_isShape : GoodIn wsX4_carveOut wsX4_isShape := goodIn_r _ [5, 6, 7, 4, 8, 9, 10, 11] (by decide +kernel) (by decide +kernel)
set_option maxRecDepth 20000 in
theorem gX4_carveOut_X4_isShape : GoodIn wsX4_carveOut (va_wsS RX4 65 yX4_isShape wsX4_isShape) := goodIn_app (goodIn_of _ (by decide +kernel)) ggX4_carveOut_X4_isShape
set_option maxRecDepth 20000 in
theorem ggX4_carveOut_X4_overlaps : GoodIn wsX4_carveOut wsX4_overlaps := goodIn_r _ [15, 1, 16, 17, 18, 19, 20, 4, 21, 22, 49, 50, 51, 52, 53, 54, 55, 56, 57, 58, 59, 60, 61] (by decide +kernel) (by decide +kernel)
set_option maxRecDepth 20000 in
theorem gX4_carveOut_X4_overlaps : GoodIn wsX4_carveOut (wsV RX4 69 RX4 yX4_overlaps wsX4_overlaps) := goodIn_app (goodIn_of _ (by decide +kernel)) ggX4_carveOut_X4_overlaps
set_option maxRecDepth 20000 in
theorem ggX4_carveOut_X4_isFine : GoodIn wsX4_carveOut wsX4_isFine := goodIn_r _ [26, 27, 49, 50, 51, 52, 53, 54, 55, 56, 57, 58, 59, 60, 61] (by decide +kernel) (by decide +kernel)
set_option maxRecDepth 20000 in
theorem gX4_carveOut_X4_isFine : GoodIn wsX4_carveOut (wsV RX4 75 RX4 yX4_isFine wsX4_isFine) := goodIn_app (goodIn_of _ (by decide +kernel)) ggX4_carveOut_X4_isFine
set_option maxRecDepth 20000 in
theorem ggX4_carveOut_X4_makes : GoodIn wsX4_carveOut wsX4_makes := goodIn_r _ [31, 1, 17, 16, 32, 33, 22, 49, 50, 51, 52, 53, 54, 55, 56, 57, 58, 59, 60, 61] (by decide +kernel) (by decide +kernel)
set_option maxRecDepth 20000 in
theorem gX4_carveOut_X4_makes : GoodIn wsX4_carveOut (wsV RX4 78 RX4 yX4_makes wsX4_makes) := goodIn_app (goodIn_of _ (by decide +kernel)) ggX4_carveOut_X4_makes
set_option maxRecDepth 20000 in
theorem ggX4_carveOut_X4_moves : GoodIn wsX4_carveOut wsX4_moves := goodIn_r _ [37, 38, 39, 40, 41, 42, 43, 4, 44, 17, 16, 6, 7, 8, 49, 50, 51, 52, 53, 54, 55, 56, 57, 58, 59, 60, 61] (by decide +kernel) (by decide +kernel)
set_option maxRecDepth 20000 in
theorem gX4_carveOut_X4_moves : GoodIn wsX4_carveOut (wsV RX4 82 RX4 yX4_moves wsX4_moves) := goodIn_app (goodIn_of _ (by decide +kernel)) ggX4_carveOut_X4_moves
set_option maxRecDepth 20000 in
theorem ggX4_carveOut_X4_rowsOf : GoodIn wsX4_carveOut wsX4_rowsOf := goodIn_r _ [48, 38, 39, 49, 50, 51, 52, 53, 54, 55, 56, 57, 58, 59, 60, 61] (by decide +kernel) (by decide +kernel)
set_option maxRecDepth 20000 in
theorem gX4_carveOut_X4_rowsOf : GoodIn wsX4_carveOut (wsV RX4 86 RX4 yX4_rowsOf wsX4_rowsOf) := goodIn_app (goodIn_of _ (by decide +kernel)) ggX4_carveOut_X4_rowsOf
theorem dX4_carveOut_0 : decode cX4_carveOut 0 = .ok (.iload_n 1, 1) := by decide +kernel
theorem dX4_carveOut_1 : decode cX4_carveOut 1 = .ok (.iload_n 2, 1) := by decide +kernel
theorem dX4_carveOut_2 : decode cX4_carveOut 2 = .ok (.iload_n 3, 1) := by decide +kernel
theorem dX4_carveOut_3 : decode cX4_carveOut 3 = .ok (.iload 4, 2) := by decide +kernel
theorem dX4_carveOut_5 : decode cX4_carveOut 5 = .ok (.invokestatic 65, 3) := by decide +kernel
theorem dX4_carveOut_8 : decode cX4_carveOut 8 = .ok (.istore 5, 2) := by decide +kernel
theorem dX4_carveOut_10 : decode cX4_carveOut 10 = .ok (.aload_n 0, 1) := by decide +kernel
theorem dX4_carveOut_11 : decode cX4_carveOut 11 = .ok (.iload 5, 2) := by decide +kernel
theorem dX4_carveOut_13 : decode cX4_carveOut 13 = .ok (.ifCond .ne 7, 3) := by decide +kernel
theorem dX4_carveOut_16 : decode cX4_carveOut 16 = .ok (.iconst 1, 1) := by decide +kernel
theorem dX4_carveOut_17 : decode cX4_carveOut 17 = .ok (.goto 26, 3) := by decide +kernel
theorem dX4_carveOut_20 : decode cX4_carveOut 20 = .ok (.aload_n 0, 1) := by decide +kernel
theorem dX4_carveOut_21 : decode cX4_carveOut 21 = .ok (.getfield 45, 3) := by decide +kernel
theorem dX4_carveOut_24 : decode cX4_carveOut 24 = .ok (.bipush 15, 2) := by decide +kernel
theorem dX4_carveOut_26 : decode cX4_carveOut 26 = .ok (.if_icmp .eq 12, 3) := by decide +kernel
theorem dX4_carveOut_29 : decode cX4_carveOut 29 = .ok (.aload_n 0, 1) := by decide +kernel
theorem dX4_carveOut_30 : decode cX4_carveOut 30 = .ok (.iload_n 1, 1) := by decide +kernel
theorem dX4_carveOut_31 : decode cX4_carveOut 31 = .ok (.iload_n 2, 1) := by decide +kernel
theorem dX4_carveOut_32 : decode cX4_carveOut 32 = .ok (.invokevirtual 69, 3) := by decide +kernel
theorem dX4_carveOut_35 : decode cX4_carveOut 35 = .ok (.ifCond .eq 7, 3) := by decide +kernel
theorem dX4_carveOut_38 : decode cX4_carveOut 38 = .ok (.iconst 2, 1) := by decide +kernel
theorem dX4_carveOut_39 : decode cX4_carveOut 39 = .ok (.goto 4, 3) := by decide +kernel
theorem dX4_carveOut_42 : decode cX4_carveOut 42 = .ok (.iconst 0, 1) := by decide +kernel
theorem dX4_carveOut_43 : decode cX4_carveOut 43 = .ok (.invokevirtual 75, 3) := by decide +kernel
theorem dX4_carveOut_46 : decode cX4_carveOut 46 = .ok (.ifCond .ne 5, 3) := by decide +kernel
theorem dX4_carveOut_49 : decode cX4_carveOut 49 = .ok (.iconst 0, 1) := by decide +kernel
theorem dX4_carveOut_50 : decode cX4_carveOut 50 = .ok (.ireturn, 1) := by decide +kernel
theorem dX4_carveOut_51 : decode cX4_carveOut 51 = .ok (.aload_n 0, 1) := by decide +kernel
theorem dX4_carveOut_52 : decode cX4_carveOut 52 = .ok (.iload_n 1, 1) := by decide +kernel
theorem dX4_carveOut_53 : decode cX4_carveOut 53 = .ok (.iload_n 2, 1) := by decide +kernel
theorem dX4_carveOut_54 : decode cX4_carveOut 54 = .ok (.iload_n 3, 1) := by decide +kernel
theorem dX4_carveOut_55 : decode cX4_carveOut 55 = .ok (.iload 4, 2) := by decide +kernel
theorem dX4_carveOut_57 : decode cX4_carveOut 57 = .ok (.invokevirtual 78, 3) := by decide +kernel
theorem dX4_carveOut_60 : decode cX4_carveOut 60 = .ok (.istore 6, 2) := by decide +kernel
theorem dX4_carveOut_62 : decode cX4_carveOut 62 = .ok (.aload_n 0, 1) := by decide +kernel
theorem dX4_carveOut_63 : decode cX4_carveOut 63 = .ok (.iconst 0, 1) := by decide +kernel
theorem dX4_carveOut_64 : decode cX4_carveOut 64 = .ok (.iload 6, 2) := by decide +kernel
theorem dX4_carveOut_66 : decode cX4_carveOut 66 = .ok (.invokevirtual 82, 3) := by decide +kernel
theorem dX4_carveOut_69 : decode cX4_carveOut 69 = .ok (.aload_n 0, 1) := by decide +kernel
theorem dX4_carveOut_70 : decode cX4_carveOut 70 = .ok (.iload 6, 2) := by decide +kernel
theorem dX4_carveOut_72 : decode cX4_carveOut 72 = .ok (.invokevirtual 86, 3) := by decide +kernel
theorem dX4_carveOut_75 : decode cX4_carveOut 75 = .ok (.ireturn, 1) := by decide +kernel
set_option maxRecDepth 20000 in
theorem ggX4_split_X4_isPart : GoodIn wsX4_split wsX4_isPart := goodIn_r _ [11, 3, 4, 12, 13, 10, 14, 35, 36, 37, 38, 39, 40, 41, 42, 43, 44, 45, 46, 47] (by decide +kernel) (by decide +kernel)
set_option maxRecDepth 20000 in
theorem gX4_split_X4_isPart : GoodIn wsX4_split (wsV RX4 48 RX4 yX4_isPart wsX4_isPart) := goodIn_app (goodIn_of _ (by decide +kernel)) ggX4_split_X4_isPart
set_option maxRecDepth 20000 in
theorem ggX4_split_X4_isIn : GoodIn wsX4_split wsX4_isIn := goodIn_r _ [14] (by decide +kernel) (by decide +kernel)
set_option maxRecDepth 20000 in
theorem gX4_split_X4_isIn : GoodIn wsX4_split (va_wsS RX4 41 yX4_isIn wsX4_isIn) := goodIn_app (goodIn_of _ (by decide +kernel)) ggX4_split_X4_isIn
set_option maxRecDepth 20000 in
theorem ggX4_split_X4_isFine : GoodIn wsX4_split wsX4_isFine := goodIn_r _ [18, 19, 35, 36, 37, 38, 39, 40, 41, 42, 43, 44, 45, 46, 47] (by decide +kernel) (by decide +kernel)
set_option maxRecDepth 20000 in
theorem gX4_split_X4_isFine : GoodIn wsX4_split (wsV RX4 75 RX4 yX4_isFine wsX4_isFine) := goodIn_app (goodIn_of _ (by decide +kernel)) ggX4_split_X4_isFine
set_option maxRecDepth 20000 in
theorem ggX4_split_X4_makes : GoodIn wsX4_split wsX4_makes := goodIn_r _ [23, 3, 1, 2, 5, 6, 4, 35, 36, 37, 38, 39, 40, 41, 42, 43, 44, 45, 46, 47] (by decide +kernel) (by decide +kernel)
set_option maxRecDepth 20000 in
theorem gX4_split_X4_makes : GoodIn wsX4_split (wsV RX4 78 RX4 yX4_makes wsX4_makes) := goodIn_app (goodIn_of _ (by decide +kernel)) ggX4_split_X4_makes
set_option maxRecDepth 20000 in
theorem ggX4_split_X4_moves : GoodIn wsX4_split wsX4_moves := goodIn_r _ [27, 28, 29, 30, 31, 32, 33, 10, 34, 1, 2, 12, 13, 14, 35, 36, 37, 38, 39, 40, 41, 42, 43, 44, 45, 46, 47] (by decide +kernel) (by decide +kernel)
set_option maxRecDepth 20000 in
theorem gX4_split_X4_moves : GoodIn wsX4_split (wsV RX4 82 RX4 yX4_moves wsX4_moves) := goodIn_app (goodIn_of _ (by decide +kernel)) ggX4_split_X4_moves
theorem dX4_split_0 : decode cX4_split 0 = .ok (.aload_n 0, 1) := by decide +kernel
theorem dX4_split_1 : decode cX4_split 1 = .ok (.iload_n 1, 1) := by decide +kernel
theorem dX4_split_2 : decode cX4_split 2 = .ok (.invokevirtual 48, 3) := by decide +kernel
theorem dX4_split_5 : decode cX4_split 5 = .ok (.istore_n 3, 1) := by decide +kernel
theorem dX4_split_6 : decode cX4_split 6 = .ok (.aload_n 0, 1) := by decide +kernel
theorem dX4_split_7 : decode cX4_split 7 = .ok (.iload_n 3, 1) := by decide +kernel
theorem dX4_split_8 : decode cX4_split 8 = .ok (.ifCond .ne 7, 3) := by decide +kernel
theorem dX4_split_11 : decode cX4_split 11 = .ok (.iconst 1, 1) := by decide +kernel
theorem dX4_split_12 : decode cX4_split 12 = .ok (.goto 53, 3) := by decide +kernel
theorem dX4_split_15 : decode cX4_split 15 = .ok (.iload_n 2, 1) := by decide +kernel
theorem dX4_split_16 : decode cX4_split 16 = .ok (.aload_n 0, 1) := by decide +kernel
theorem dX4_split_17 : decode cX4_split 17 = .ok (.getfield 7, 3) := by decide +kernel
theorem dX4_split_20 : decode cX4_split 20 = .ok (.iload_n 1, 1) := by decide +kernel
theorem dX4_split_21 : decode cX4_split 21 = .ok (.iaload, 1) := by decide +kernel
theorem dX4_split_22 : decode cX4_split 22 = .ok (.iconst 1, 1) := by decide +kernel
theorem dX4_split_23 : decode cX4_split 23 = .ok (.iadd, 1) := by decide +kernel
theorem dX4_split_24 : decode cX4_split 24 = .ok (.aload_n 0, 1) := by decide +kernel
theorem dX4_split_25 : decode cX4_split 25 = .ok (.getfield 13, 3) := by decide +kernel
theorem dX4_split_28 : decode cX4_split 28 = .ok (.iload_n 1, 1) := by decide +kernel
theorem dX4_split_29 : decode cX4_split 29 = .ok (.iaload, 1) := by decide +kernel
theorem dX4_split_30 : decode cX4_split 30 = .ok (.iconst 1, 1) := by decide +kernel
theorem dX4_split_31 : decode cX4_split 31 = .ok (.isub, 1) := by decide +kernel
theorem dX4_split_32 : decode cX4_split 32 = .ok (.invokestatic 41, 3) := by decide +kernel
theorem dX4_split_35 : decode cX4_split 35 = .ok (.ifCond .ne 7, 3) := by decide +kernel
theorem dX4_split_38 : decode cX4_split 38 = .ok (.iconst 2, 1) := by decide +kernel
theorem dX4_split_39 : decode cX4_split 39 = .ok (.goto 26, 3) := by decide +kernel
theorem dX4_split_42 : decode cX4_split 42 = .ok (.aload_n 0, 1) := by decide +kernel
theorem dX4_split_43 : decode cX4_split 43 = .ok (.getfield 45, 3) := by decide +kernel
theorem dX4_split_46 : decode cX4_split 46 = .ok (.bipush 15, 2) := by decide +kernel
theorem dX4_split_48 : decode cX4_split 48 = .ok (.if_icmp .eq 12, 3) := by decide +kernel
theorem dX4_split_51 : decode cX4_split 51 = .ok (.aload_n 0, 1) := by decide +kernel
theorem dX4_split_52 : decode cX4_split 52 = .ok (.getfield 22, 3) := by decide +kernel
theorem dX4_split_55 : decode cX4_split 55 = .ok (.iload_n 1, 1) := by decide +kernel
theorem dX4_split_56 : decode cX4_split 56 = .ok (.iaload, 1) := by decide +kernel
theorem dX4_split_57 : decode cX4_split 57 = .ok (.ifCond .eq 7, 3) := by decide +kernel
theorem dX4_split_60 : decode cX4_split 60 = .ok (.iconst 3, 1) := by decide +kernel
theorem dX4_split_61 : decode cX4_split 61 = .ok (.goto 4, 3) := by decide +kernel
theorem dX4_split_64 : decode cX4_split 64 = .ok (.iconst 0, 1) := by decide +kernel
theorem dX4_split_65 : decode cX4_split 65 = .ok (.invokevirtual 75, 3) := by decide +kernel
theorem dX4_split_68 : decode cX4_split 68 = .ok (.ifCond .ne 5, 3) := by decide +kernel
theorem dX4_split_71 : decode cX4_split 71 = .ok (.iconst 0, 1) := by decide +kernel
theorem dX4_split_72 : decode cX4_split 72 = .ok (.ireturn, 1) := by decide +kernel
theorem dX4_split_73 : decode cX4_split 73 = .ok (.aload_n 0, 1) := by decide +kernel
theorem dX4_split_74 : decode cX4_split 74 = .ok (.iload_n 2, 1) := by decide +kernel
theorem dX4_split_75 : decode cX4_split 75 = .ok (.aload_n 0, 1) := by decide +kernel
theorem dX4_split_76 : decode cX4_split 76 = .ok (.getfield 13, 3) := by decide +kernel
theorem dX4_split_79 : decode cX4_split 79 = .ok (.iload_n 1, 1) := by decide +kernel
theorem dX4_split_80 : decode cX4_split 80 = .ok (.iaload, 1) := by decide +kernel
theorem dX4_split_81 : decode cX4_split 81 = .ok (.aload_n 0, 1) := by decide +kernel
theorem dX4_split_82 : decode cX4_split 82 = .ok (.getfield 16, 3) := by decide +kernel
theorem dX4_split_85 : decode cX4_split 85 = .ok (.iload_n 1, 1) := by decide +kernel
theorem dX4_split_86 : decode cX4_split 86 = .ok (.iaload, 1) := by decide +kernel
theorem dX4_split_87 : decode cX4_split 87 = .ok (.aload_n 0, 1) := by decide +kernel
theorem dX4_split_88 : decode cX4_split 88 = .ok (.getfield 19, 3) := by decide +kernel
theorem dX4_split_91 : decode cX4_split 91 = .ok (.iload_n 1, 1) := by decide +kernel
theorem dX4_split_92 : decode cX4_split 92 = .ok (.iaload, 1) := by decide +kernel
theorem dX4_split_93 : decode cX4_split 93 = .ok (.invokevirtual 78, 3) := by decide +kernel
theorem dX4_split_96 : decode cX4_split 96 = .ok (.istore 4, 2) := by decide +kernel
theorem dX4_split_98 : decode cX4_split 98 = .ok (.aload_n 0, 1) := by decide +kernel
theorem dX4_split_99 : decode cX4_split 99 = .ok (.getfield 13, 3) := by decide +kernel
theorem dX4_split_102 : decode cX4_split 102 = .ok (.iload_n 1, 1) := by decide +kernel
theorem dX4_split_103 : decode cX4_split 103 = .ok (.iload_n 2, 1) := by decide +kernel
theorem dX4_split_104 : decode cX4_split 104 = .ok (.iastore, 1) := by decide +kernel
theorem dX4_split_105 : decode cX4_split 105 = .ok (.aload_n 0, 1) := by decide +kernel
theorem dX4_split_106 : decode cX4_split 106 = .ok (.iload_n 1, 1) := by decide +kernel
theorem dX4_split_107 : decode cX4_split 107 = .ok (.iload 4, 2) := by decide +kernel
theorem dX4_split_109 : decode cX4_split 109 = .ok (.invokevirtual 82, 3) := by decide +kernel
theorem dX4_split_112 : decode cX4_split 112 = .ok (.iload 4, 2) := by decide +kernel
theorem dX4_split_114 : decode cX4_split 114 = .ok (.ireturn, 1) := by decide +kernel
set_option maxRecDepth 20000 in
theorem ggX4_merge_X4_isPart : GoodIn wsX4_merge wsX4_isPart := goodIn_r _ [10, 11, 1, 12, 13, 9, 14, 35, 36, 37, 38, 39, 40, 41, 42, 43, 44, 45, 46, 47] (by decide +kernel) (by decide +kernel)
set_option maxRecDepth 20000 in
theorem gX4_merge_X4_isPart : GoodIn wsX4_merge (wsV RX4 48 RX4 yX4_isPart wsX4_isPart) := goodIn_app (goodIn_of _ (by decide +kernel)) ggX4_merge_X4_isPart
set_option maxRecDepth 20000 in
theorem ggX4_merge_X4_isFine : GoodIn wsX4_merge wsX4_isFine := goodIn_r _ [18, 19, 35, 36, 37, 38, 39, 40, 41, 42, 43, 44, 45, 46, 47] (by decide +kernel) (by decide +kernel)
set_option maxRecDepth 20000 in
theorem gX4_merge_X4_isFine : GoodIn wsX4_merge (wsV RX4 75 RX4 yX4_isFine wsX4_isFine) := goodIn_app (goodIn_of _ (by decide +kernel)) ggX4_merge_X4_isFine
set_option maxRecDepth 20000 in
theorem ggX4_merge_X4_moves : GoodIn wsX4_merge wsX4_moves := goodIn_r _ [23, 24, 25, 26, 27, 28, 29, 9, 30, 2, 3, 12, 13, 14, 35, 36, 37, 38, 39, 40, 41, 42, 43, 44, 45, 46, 47] (by decide +kernel) (by decide +kernel)
set_option maxRecDepth 20000 in
theorem gX4_merge_X4_moves : GoodIn wsX4_merge (wsV RX4 82 RX4 yX4_moves wsX4_moves) := goodIn_app (goodIn_of _ (by decide +kernel)) ggX4_merge_X4_moves
set_option maxRecDepth 20000 in
theorem ggX4_merge_X4_rowsOf : GoodIn wsX4_merge wsX4_rowsOf := goodIn_r _ [34, 24, 25, 35, 36, 37, 38, 39, 40, 41, 42, 43, 44, 45, 46, 47] (by decide +kernel) (by decide +kernel)
set_option maxRecDepth 20000 in
theorem gX4_merge_X4_rowsOf : GoodIn wsX4_merge (wsV RX4 86 RX4 yX4_rowsOf wsX4_rowsOf) := goodIn_app (goodIn_of _ (by decide +kernel)) ggX4_merge_X4_rowsOf
theorem dX4_merge_0 : decode cX4_merge 0 = .ok (.aload_n 0, 1) := by decide +kernel
theorem dX4_merge_1 : decode cX4_merge 1 = .ok (.iload_n 1, 1) := by decide +kernel
theorem dX4_merge_2 : decode cX4_merge 2 = .ok (.invokevirtual 48, 3) := by decide +kernel
theorem dX4_merge_5 : decode cX4_merge 5 = .ok (.ifCond .eq 15, 3) := by decide +kernel
theorem dX4_merge_8 : decode cX4_merge 8 = .ok (.aload_n 0, 1) := by decide +kernel
theorem dX4_merge_9 : decode cX4_merge 9 = .ok (.iload_n 2, 1) := by decide +kernel
theorem dX4_merge_10 : decode cX4_merge 10 = .ok (.invokevirtual 48, 3) := by decide +kernel
theorem dX4_merge_13 : decode cX4_merge 13 = .ok (.ifCond .eq 7, 3) := by decide +kernel
theorem dX4_merge_16 : decode cX4_merge 16 = .ok (.iconst 1, 1) := by decide +kernel
theorem dX4_merge_17 : decode cX4_merge 17 = .ok (.goto 4, 3) := by decide +kernel
theorem dX4_merge_20 : decode cX4_merge 20 = .ok (.iconst 0, 1) := by decide +kernel
theorem dX4_merge_21 : decode cX4_merge 21 = .ok (.istore_n 3, 1) := by decide +kernel
theorem dX4_merge_22 : decode cX4_merge 22 = .ok (.iload_n 3, 1) := by decide +kernel
theorem dX4_merge_23 : decode cX4_merge 23 = .ok (.ifCond .eq 70, 3) := by decide +kernel
theorem dX4_merge_26 : decode cX4_merge 26 = .ok (.aload_n 0, 1) := by decide +kernel
theorem dX4_merge_27 : decode cX4_merge 27 = .ok (.getfield 22, 3) := by decide +kernel
theorem dX4_merge_30 : decode cX4_merge 30 = .ok (.iload_n 1, 1) := by decide +kernel
theorem dX4_merge_31 : decode cX4_merge 31 = .ok (.iaload, 1) := by decide +kernel
theorem dX4_merge_32 : decode cX4_merge 32 = .ok (.ifCond .ne 61, 3) := by decide +kernel
theorem dX4_merge_35 : decode cX4_merge 35 = .ok (.aload_n 0, 1) := by decide +kernel
theorem dX4_merge_36 : decode cX4_merge 36 = .ok (.getfield 22, 3) := by decide +kernel
theorem dX4_merge_39 : decode cX4_merge 39 = .ok (.iload_n 2, 1) := by decide +kernel
theorem dX4_merge_40 : decode cX4_merge 40 = .ok (.iaload, 1) := by decide +kernel
theorem dX4_merge_41 : decode cX4_merge 41 = .ok (.ifCond .ne 52, 3) := by decide +kernel
theorem dX4_merge_44 : decode cX4_merge 44 = .ok (.aload_n 0, 1) := by decide +kernel
theorem dX4_merge_45 : decode cX4_merge 45 = .ok (.getfield 7, 3) := by decide +kernel
theorem dX4_merge_48 : decode cX4_merge 48 = .ok (.iload_n 2, 1) := by decide +kernel
theorem dX4_merge_49 : decode cX4_merge 49 = .ok (.iaload, 1) := by decide +kernel
theorem dX4_merge_50 : decode cX4_merge 50 = .ok (.aload_n 0, 1) := by decide +kernel
theorem dX4_merge_51 : decode cX4_merge 51 = .ok (.getfield 13, 3) := by decide +kernel
theorem dX4_merge_54 : decode cX4_merge 54 = .ok (.iload_n 1, 1) := by decide +kernel
theorem dX4_merge_55 : decode cX4_merge 55 = .ok (.iaload, 1) := by decide +kernel
theorem dX4_merge_56 : decode cX4_merge 56 = .ok (.if_icmp .ne 37, 3) := by decide +kernel
theorem dX4_merge_59 : decode cX4_merge 59 = .ok (.aload_n 0, 1) := by decide +kernel
theorem dX4_merge_60 : decode cX4_merge 60 = .ok (.getfield 16, 3) := by decide +kernel
theorem dX4_merge_63 : decode cX4_merge 63 = .ok (.iload_n 1, 1) := by decide +kernel
theorem dX4_merge_64 : decode cX4_merge 64 = .ok (.iaload, 1) := by decide +kernel
theorem dX4_merge_65 : decode cX4_merge 65 = .ok (.aload_n 0, 1) := by decide +kernel
theorem dX4_merge_66 : decode cX4_merge 66 = .ok (.getfield 16, 3) := by decide +kernel
theorem dX4_merge_69 : decode cX4_merge 69 = .ok (.iload_n 2, 1) := by decide +kernel
theorem dX4_merge_70 : decode cX4_merge 70 = .ok (.iaload, 1) := by decide +kernel
theorem dX4_merge_71 : decode cX4_merge 71 = .ok (.if_icmp .ne 22, 3) := by decide +kernel
theorem dX4_merge_74 : decode cX4_merge 74 = .ok (.aload_n 0, 1) := by decide +kernel
theorem dX4_merge_75 : decode cX4_merge 75 = .ok (.getfield 19, 3) := by decide +kernel
theorem dX4_merge_78 : decode cX4_merge 78 = .ok (.iload_n 1, 1) := by decide +kernel
theorem dX4_merge_79 : decode cX4_merge 79 = .ok (.iaload, 1) := by decide +kernel
theorem dX4_merge_80 : decode cX4_merge 80 = .ok (.aload_n 0, 1) := by decide +kernel
theorem dX4_merge_81 : decode cX4_merge 81 = .ok (.getfield 19, 3) := by decide +kernel
theorem dX4_merge_84 : decode cX4_merge 84 = .ok (.iload_n 2, 1) := by decide +kernel
theorem dX4_merge_85 : decode cX4_merge 85 = .ok (.iaload, 1) := by decide +kernel
theorem dX4_merge_86 : decode cX4_merge 86 = .ok (.if_icmp .ne 7, 3) := by decide +kernel
theorem dX4_merge_89 : decode cX4_merge 89 = .ok (.iconst 1, 1) := by decide +kernel
theorem dX4_merge_90 : decode cX4_merge 90 = .ok (.goto 4, 3) := by decide +kernel
theorem dX4_merge_93 : decode cX4_merge 93 = .ok (.iconst 0, 1) := by decide +kernel
theorem dX4_merge_94 : decode cX4_merge 94 = .ok (.istore 4, 2) := by decide +kernel
theorem dX4_merge_96 : decode cX4_merge 96 = .ok (.aload_n 0, 1) := by decide +kernel
theorem dX4_merge_97 : decode cX4_merge 97 = .ok (.iload_n 3, 1) := by decide +kernel
theorem dX4_merge_98 : decode cX4_merge 98 = .ok (.ifCond .ne 7, 3) := by decide +kernel
theorem dX4_merge_101 : decode cX4_merge 101 = .ok (.iconst 1, 1) := by decide +kernel
theorem dX4_merge_102 : decode cX4_merge 102 = .ok (.goto 13, 3) := by decide +kernel
theorem dX4_merge_105 : decode cX4_merge 105 = .ok (.iload 4, 2) := by decide +kernel
theorem dX4_merge_107 : decode cX4_merge 107 = .ok (.ifCond .ne 7, 3) := by decide +kernel
theorem dX4_merge_110 : decode cX4_merge 110 = .ok (.iconst 2, 1) := by decide +kernel
theorem dX4_merge_111 : decode cX4_merge 111 = .ok (.goto 4, 3) := by decide +kernel
theorem dX4_merge_114 : decode cX4_merge 114 = .ok (.iconst 0, 1) := by decide +kernel
theorem dX4_merge_115 : decode cX4_merge 115 = .ok (.invokevirtual 75, 3) := by decide +kernel
theorem dX4_merge_118 : decode cX4_merge 118 = .ok (.ifCond .ne 5, 3) := by decide +kernel
theorem dX4_merge_121 : decode cX4_merge 121 = .ok (.iconst 0, 1) := by decide +kernel
theorem dX4_merge_122 : decode cX4_merge 122 = .ok (.ireturn, 1) := by decide +kernel
theorem dX4_merge_123 : decode cX4_merge 123 = .ok (.aload_n 0, 1) := by decide +kernel
theorem dX4_merge_124 : decode cX4_merge 124 = .ok (.getfield 13, 3) := by decide +kernel
theorem dX4_merge_127 : decode cX4_merge 127 = .ok (.iload_n 1, 1) := by decide +kernel
theorem dX4_merge_128 : decode cX4_merge 128 = .ok (.aload_n 0, 1) := by decide +kernel
theorem dX4_merge_129 : decode cX4_merge 129 = .ok (.getfield 13, 3) := by decide +kernel
theorem dX4_merge_132 : decode cX4_merge 132 = .ok (.iload_n 2, 1) := by decide +kernel
theorem dX4_merge_133 : decode cX4_merge 133 = .ok (.iaload, 1) := by decide +kernel
theorem dX4_merge_134 : decode cX4_merge 134 = .ok (.iastore, 1) := by decide +kernel
theorem dX4_merge_135 : decode cX4_merge 135 = .ok (.aload_n 0, 1) := by decide +kernel
theorem dX4_merge_136 : decode cX4_merge 136 = .ok (.getfield 22, 3) := by decide +kernel
theorem dX4_merge_139 : decode cX4_merge 139 = .ok (.iload_n 2, 1) := by decide +kernel
theorem dX4_merge_140 : decode cX4_merge 140 = .ok (.iconst 2, 1) := by decide +kernel
theorem dX4_merge_141 : decode cX4_merge 141 = .ok (.iastore, 1) := by decide +kernel
theorem dX4_merge_142 : decode cX4_merge 142 = .ok (.aload_n 0, 1) := by decide +kernel
theorem dX4_merge_143 : decode cX4_merge 143 = .ok (.iload_n 2, 1) := by decide +kernel
theorem dX4_merge_144 : decode cX4_merge 144 = .ok (.iload_n 1, 1) := by decide +kernel
theorem dX4_merge_145 : decode cX4_merge 145 = .ok (.invokevirtual 82, 3) := by decide +kernel
theorem dX4_merge_148 : decode cX4_merge 148 = .ok (.aload_n 0, 1) := by decide +kernel
theorem dX4_merge_149 : decode cX4_merge 149 = .ok (.iload_n 1, 1) := by decide +kernel
theorem dX4_merge_150 : decode cX4_merge 150 = .ok (.invokevirtual 86, 3) := by decide +kernel
theorem dX4_merge_153 : decode cX4_merge 153 = .ok (.ireturn, 1) := by decide +kernel
set_option maxRecDepth 20000 in
theorem ggX4_detach_X4_isPart : GoodIn wsX4_detach wsX4_isPart := goodIn_r _ [7, 8, 1, 9, 10, 6, 11, 23, 24, 25, 26, 27, 28, 29, 30, 31, 32, 33, 34, 35] (by decide +kernel) (by decide +kernel)
set_option maxRecDepth 20000 in
theorem gX4_detach_X4_isPart : GoodIn wsX4_detach (wsV RX4 48 RX4 yX4_isPart wsX4_isPart) := goodIn_app (goodIn_of _ (by decide +kernel)) ggX4_detach_X4_isPart
set_option maxRecDepth 20000 in
theorem ggX4_detach_X4_isFine : GoodIn wsX4_detach wsX4_isFine := goodIn_r _ [15, 16, 23, 24, 25, 26, 27, 28, 29, 30, 31, 32, 33, 34, 35] (by decide +kernel) (by decide +kernel)
set_option maxRecDepth 20000 in
theorem gX4_detach_X4_isFine : GoodIn wsX4_detach (wsV RX4 75 RX4 yX4_isFine wsX4_isFine) := goodIn_app (goodIn_of _ (by decide +kernel)) ggX4_detach_X4_isFine
set_option maxRecDepth 20000 in
theorem ggX4_detach_X4_rowsOf : GoodIn wsX4_detach wsX4_rowsOf := goodIn_r _ [20, 21, 22, 23, 24, 25, 26, 27, 28, 29, 30, 31, 32, 33, 34, 35] (by decide +kernel) (by decide +kernel)
set_option maxRecDepth 20000 in
theorem gX4_detach_X4_rowsOf : GoodIn wsX4_detach (wsV RX4 86 RX4 yX4_rowsOf wsX4_rowsOf) := goodIn_app (goodIn_of _ (by decide +kernel)) ggX4_detach_X4_rowsOf
theorem dX4_detach_0 : decode cX4_detach 0 = .ok (.aload_n 0, 1) := by decide +kernel
theorem dX4_detach_1 : decode cX4_detach 1 = .ok (.iload_n 1, 1) := by decide +kernel
theorem dX4_detach_2 : decode cX4_detach 2 = .ok (.invokevirtual 48, 3) := by decide +kernel
theorem dX4_detach_5 : decode cX4_detach 5 = .ok (.istore_n 2, 1) := by decide +kernel
theorem dX4_detach_6 : decode cX4_detach 6 = .ok (.aload_n 0, 1) := by decide +kernel
theorem dX4_detach_7 : decode cX4_detach 7 = .ok (.iload_n 2, 1) := by decide +kernel
theorem dX4_detach_8 : decode cX4_detach 8 = .ok (.ifCond .ne 7, 3) := by decide +kernel
theorem dX4_detach_11 : decode cX4_detach 11 = .ok (.iconst 1, 1) := by decide +kernel
theorem dX4_detach_12 : decode cX4_detach 12 = .ok (.goto 18, 3) := by decide +kernel
theorem dX4_detach_15 : decode cX4_detach 15 = .ok (.aload_n 0, 1) := by decide +kernel
theorem dX4_detach_16 : decode cX4_detach 16 = .ok (.getfield 22, 3) := by decide +kernel
theorem dX4_detach_19 : decode cX4_detach 19 = .ok (.iload_n 1, 1) := by decide +kernel
theorem dX4_detach_20 : decode cX4_detach 20 = .ok (.iaload, 1) := by decide +kernel
theorem dX4_detach_21 : decode cX4_detach 21 = .ok (.iconst 1, 1) := by decide +kernel
theorem dX4_detach_22 : decode cX4_detach 22 = .ok (.if_icmp .ne 7, 3) := by decide +kernel
theorem dX4_detach_25 : decode cX4_detach 25 = .ok (.iconst 2, 1) := by decide +kernel
theorem dX4_detach_26 : decode cX4_detach 26 = .ok (.goto 4, 3) := by decide +kernel
theorem dX4_detach_29 : decode cX4_detach 29 = .ok (.iconst 0, 1) := by decide +kernel
theorem dX4_detach_30 : decode cX4_detach 30 = .ok (.invokevirtual 75, 3) := by decide +kernel
theorem dX4_detach_33 : decode cX4_detach 33 = .ok (.ifCond .ne 5, 3) := by decide +kernel
theorem dX4_detach_36 : decode cX4_detach 36 = .ok (.iconst 0, 1) := by decide +kernel
theorem dX4_detach_37 : decode cX4_detach 37 = .ok (.ireturn, 1) := by decide +kernel
theorem dX4_detach_38 : decode cX4_detach 38 = .ok (.aload_n 0, 1) := by decide +kernel
theorem dX4_detach_39 : decode cX4_detach 39 = .ok (.getfield 22, 3) := by decide +kernel
theorem dX4_detach_42 : decode cX4_detach 42 = .ok (.iload_n 1, 1) := by decide +kernel
theorem dX4_detach_43 : decode cX4_detach 43 = .ok (.iconst 1, 1) := by decide +kernel
theorem dX4_detach_44 : decode cX4_detach 44 = .ok (.iastore, 1) := by decide +kernel
theorem dX4_detach_45 : decode cX4_detach 45 = .ok (.aload_n 0, 1) := by decide +kernel
theorem dX4_detach_46 : decode cX4_detach 46 = .ok (.iconst 1, 1) := by decide +kernel
theorem dX4_detach_47 : decode cX4_detach 47 = .ok (.putfield 90, 3) := by decide +kernel
theorem dX4_detach_50 : decode cX4_detach 50 = .ok (.aload_n 0, 1) := by decide +kernel
theorem dX4_detach_51 : decode cX4_detach 51 = .ok (.iload_n 1, 1) := by decide +kernel
theorem dX4_detach_52 : decode cX4_detach 52 = .ok (.invokevirtual 86, 3) := by decide +kernel
theorem dX4_detach_55 : decode cX4_detach 55 = .ok (.ireturn, 1) := by decide +kernel
set_option maxRecDepth 20000 in
theorem ggX4_attach_X4_isPart : GoodIn wsX4_attach wsX4_isPart := goodIn_r _ [9, 10, 1, 11, 12, 8, 13, 38, 39, 40, 41, 42, 43, 44, 45, 46, 47, 48, 49, 50] (by decide +kernel) (by decide +kernel)
set_option maxRecDepth 20000 in
theorem gX4_attach_X4_isPart : GoodIn wsX4_attach (wsV RX4 48 RX4 yX4_isPart wsX4_isPart) := goodIn_app (goodIn_of _ (by decide +kernel)) ggX4_attach_X4_isPart
set_option maxRecDepth 20000 in
theorem ggX4_attach_X4_overlaps : GoodIn wsX4_attach wsX4_overlaps := goodIn_r _ [17, 10, 3, 2, 18, 19, 20, 8, 21, 1, 38, 39, 40, 41, 42, 43, 44, 45, 46, 47, 48, 49, 50] (by decide +kernel) (by decide +kernel)
set_option maxRecDepth 20000 in
theorem gX4_attach_X4_overlaps : GoodIn wsX4_attach (wsV RX4 69 RX4 yX4_overlaps wsX4_overlaps) := goodIn_app (goodIn_of _ (by decide +kernel)) ggX4_attach_X4_overlaps
set_option maxRecDepth 20000 in
theorem ggX4_attach_X4_isInRest : GoodIn wsX4_attach wsX4_isInRest := goodIn_r _ [25, 26, 27, 28, 11, 12, 8, 13, 38, 39, 40, 41, 42, 43, 44, 45, 46, 47, 48, 49, 50] (by decide +kernel) (by decide +kernel)
set_option maxRecDepth 20000 in
theorem gX4_attach_X4_isInRest : GoodIn wsX4_attach (wsV RX4 72 RX4 yX4_isInRest wsX4_isInRest) := goodIn_app (goodIn_of _ (by decide +kernel)) ggX4_attach_X4_isInRest
set_option maxRecDepth 20000 in
theorem ggX4_attach_X4_isFine : GoodIn wsX4_attach wsX4_isFine := goodIn_r _ [32, 33, 38, 39, 40, 41, 42, 43, 44, 45, 46, 47, 48, 49, 50] (by decide +kernel) (by decide +kernel)
set_option maxRecDepth 20000 in
theorem gX4_attach_X4_isFine : GoodIn wsX4_attach (wsV RX4 75 RX4 yX4_isFine wsX4_isFine) := goodIn_app (goodIn_of _ (by decide +kernel)) ggX4_attach_X4_isFine
set_option maxRecDepth 20000 in
theorem ggX4_attach_X4_rowsOf : GoodIn wsX4_attach wsX4_rowsOf := goodIn_r _ [37, 26, 27, 38, 39, 40, 41, 42, 43, 44, 45, 46, 47, 48, 49, 50] (by decide +kernel) (by decide +kernel)
set_option maxRecDepth 20000 in
theorem gX4_attach_X4_rowsOf : GoodIn wsX4_attach (wsV RX4 86 RX4 yX4_rowsOf wsX4_rowsOf) := goodIn_app (goodIn_of _ (by decide +kernel)) ggX4_attach_X4_rowsOf
theorem dX4_attach_0 : decode cX4_attach 0 = .ok (.aload_n 0, 1) := by decide +kernel
theorem dX4_attach_1 : decode cX4_attach 1 = .ok (.iload_n 1, 1) := by decide +kernel
theorem dX4_attach_2 : decode cX4_attach 2 = .ok (.invokevirtual 48, 3) := by decide +kernel
theorem dX4_attach_5 : decode cX4_attach 5 = .ok (.istore_n 2, 1) := by decide +kernel
theorem dX4_attach_6 : decode cX4_attach 6 = .ok (.aload_n 0, 1) := by decide +kernel
theorem dX4_attach_7 : decode cX4_attach 7 = .ok (.iload_n 2, 1) := by decide +kernel
theorem dX4_attach_8 : decode cX4_attach 8 = .ok (.ifCond .ne 7, 3) := by decide +kernel
theorem dX4_attach_11 : decode cX4_attach 11 = .ok (.iconst 1, 1) := by decide +kernel
theorem dX4_attach_12 : decode cX4_attach 12 = .ok (.goto 55, 3) := by decide +kernel
theorem dX4_attach_15 : decode cX4_attach 15 = .ok (.aload_n 0, 1) := by decide +kernel
theorem dX4_attach_16 : decode cX4_attach 16 = .ok (.getfield 22, 3) := by decide +kernel
theorem dX4_attach_19 : decode cX4_attach 19 = .ok (.iload_n 1, 1) := by decide +kernel
theorem dX4_attach_20 : decode cX4_attach 20 = .ok (.iaload, 1) := by decide +kernel
theorem dX4_attach_21 : decode cX4_attach 21 = .ok (.ifCond .eq 41, 3) := by decide +kernel
theorem dX4_attach_24 : decode cX4_attach 24 = .ok (.aload_n 0, 1) := by decide +kernel
theorem dX4_attach_25 : decode cX4_attach 25 = .ok (.aload_n 0, 1) := by decide +kernel
theorem dX4_attach_26 : decode cX4_attach 26 = .ok (.getfield 7, 3) := by decide +kernel
theorem dX4_attach_29 : decode cX4_attach 29 = .ok (.iload_n 1, 1) := by decide +kernel
theorem dX4_attach_30 : decode cX4_attach 30 = .ok (.iaload, 1) := by decide +kernel
theorem dX4_attach_31 : decode cX4_attach 31 = .ok (.aload_n 0, 1) := by decide +kernel
theorem dX4_attach_32 : decode cX4_attach 32 = .ok (.getfield 13, 3) := by decide +kernel
theorem dX4_attach_35 : decode cX4_attach 35 = .ok (.iload_n 1, 1) := by decide +kernel
theorem dX4_attach_36 : decode cX4_attach 36 = .ok (.iaload, 1) := by decide +kernel
theorem dX4_attach_37 : decode cX4_attach 37 = .ok (.invokevirtual 69, 3) := by decide +kernel
theorem dX4_attach_40 : decode cX4_attach 40 = .ok (.ifCond .ne 22, 3) := by decide +kernel
theorem dX4_attach_43 : decode cX4_attach 43 = .ok (.aload_n 0, 1) := by decide +kernel
theorem dX4_attach_44 : decode cX4_attach 44 = .ok (.aload_n 0, 1) := by decide +kernel
theorem dX4_attach_45 : decode cX4_attach 45 = .ok (.getfield 7, 3) := by decide +kernel
theorem dX4_attach_48 : decode cX4_attach 48 = .ok (.iload_n 1, 1) := by decide +kernel
theorem dX4_attach_49 : decode cX4_attach 49 = .ok (.iaload, 1) := by decide +kernel
theorem dX4_attach_50 : decode cX4_attach 50 = .ok (.aload_n 0, 1) := by decide +kernel
theorem dX4_attach_51 : decode cX4_attach 51 = .ok (.getfield 13, 3) := by decide +kernel
theorem dX4_attach_54 : decode cX4_attach 54 = .ok (.iload_n 1, 1) := by decide +kernel
theorem dX4_attach_55 : decode cX4_attach 55 = .ok (.iaload, 1) := by decide +kernel
theorem dX4_attach_56 : decode cX4_attach 56 = .ok (.invokevirtual 72, 3) := by decide +kernel
theorem dX4_attach_59 : decode cX4_attach 59 = .ok (.ifCond .eq 7, 3) := by decide +kernel
theorem dX4_attach_62 : decode cX4_attach 62 = .ok (.iconst 2, 1) := by decide +kernel
theorem dX4_attach_63 : decode cX4_attach 63 = .ok (.goto 4, 3) := by decide +kernel
theorem dX4_attach_66 : decode cX4_attach 66 = .ok (.iconst 0, 1) := by decide +kernel
theorem dX4_attach_67 : decode cX4_attach 67 = .ok (.invokevirtual 75, 3) := by decide +kernel
theorem dX4_attach_70 : decode cX4_attach 70 = .ok (.ifCond .ne 5, 3) := by decide +kernel
theorem dX4_attach_73 : decode cX4_attach 73 = .ok (.iconst 0, 1) := by decide +kernel
theorem dX4_attach_74 : decode cX4_attach 74 = .ok (.ireturn, 1) := by decide +kernel
theorem dX4_attach_75 : decode cX4_attach 75 = .ok (.aload_n 0, 1) := by decide +kernel
theorem dX4_attach_76 : decode cX4_attach 76 = .ok (.getfield 22, 3) := by decide +kernel
theorem dX4_attach_79 : decode cX4_attach 79 = .ok (.iload_n 1, 1) := by decide +kernel
theorem dX4_attach_80 : decode cX4_attach 80 = .ok (.iconst 0, 1) := by decide +kernel
theorem dX4_attach_81 : decode cX4_attach 81 = .ok (.iastore, 1) := by decide +kernel
theorem dX4_attach_82 : decode cX4_attach 82 = .ok (.aload_n 0, 1) := by decide +kernel
theorem dX4_attach_83 : decode cX4_attach 83 = .ok (.iconst 1, 1) := by decide +kernel
theorem dX4_attach_84 : decode cX4_attach 84 = .ok (.putfield 90, 3) := by decide +kernel
theorem dX4_attach_87 : decode cX4_attach 87 = .ok (.aload_n 0, 1) := by decide +kernel
theorem dX4_attach_88 : decode cX4_attach 88 = .ok (.iload_n 1, 1) := by decide +kernel
theorem dX4_attach_89 : decode cX4_attach 89 = .ok (.invokevirtual 86, 3) := by decide +kernel
theorem dX4_attach_92 : decode cX4_attach 92 = .ok (.ireturn, 1) := by decide +kernel
set_option maxRecDepth 20000 in
theorem ggX4_fits_X4_hasKey : GoodIn wsX4_fits wsX4_hasKey := goodIn_r _ [8, 9, 10, 11, 12, 7, 13, 14, 15, 16, 17, 18, 19, 20, 21, 22, 23, 24, 25, 26] (by decide +kernel) (by decide +kernel)
set_option maxRecDepth 20000 in
theorem gX4_fits_X4_hasKey : GoodIn wsX4_fits (wsV RX4 58 RX4 yX4_hasKey wsX4_hasKey) := goodIn_app (goodIn_of _ (by decide +kernel)) ggX4_fits_X4_hasKey
theorem dX4_fits_0 : decode cX4_fits 0 = .ok (.iconst 1, 1) := by decide +kernel
theorem dX4_fits_1 : decode cX4_fits 1 = .ok (.istore_n 3, 1) := by decide +kernel
theorem dX4_fits_2 : decode cX4_fits 2 = .ok (.iconst 0, 1) := by decide +kernel
theorem dX4_fits_3 : decode cX4_fits 3 = .ok (.istore 4, 2) := by decide +kernel
theorem dX4_fits_5 : decode cX4_fits 5 = .ok (.iload 4, 2) := by decide +kernel
theorem dX4_fits_7 : decode cX4_fits 7 = .ok (.aload_n 0, 1) := by decide +kernel
theorem dX4_fits_8 : decode cX4_fits 8 = .ok (.getfield 52, 3) := by decide +kernel
theorem dX4_fits_11 : decode cX4_fits 11 = .ok (.if_icmp .ge 45, 3) := by decide +kernel
theorem dX4_fits_14 : decode cX4_fits 14 = .ok (.iload_n 3, 1) := by decide +kernel
theorem dX4_fits_15 : decode cX4_fits 15 = .ok (.ifCond .eq 33, 3) := by decide +kernel
theorem dX4_fits_18 : decode cX4_fits 18 = .ok (.aload_n 0, 1) := by decide +kernel
theorem dX4_fits_19 : decode cX4_fits 19 = .ok (.getfield 25, 3) := by decide +kernel
theorem dX4_fits_22 : decode cX4_fits 22 = .ok (.iload 4, 2) := by decide +kernel
theorem dX4_fits_24 : decode cX4_fits 24 = .ok (.iaload, 1) := by decide +kernel
theorem dX4_fits_25 : decode cX4_fits 25 = .ok (.iload_n 1, 1) := by decide +kernel
theorem dX4_fits_26 : decode cX4_fits 26 = .ok (.if_icmp .ne 18, 3) := by decide +kernel
theorem dX4_fits_29 : decode cX4_fits 29 = .ok (.aload_n 0, 1) := by decide +kernel
theorem dX4_fits_30 : decode cX4_fits 30 = .ok (.iload_n 2, 1) := by decide +kernel
theorem dX4_fits_31 : decode cX4_fits 31 = .ok (.aload_n 0, 1) := by decide +kernel
theorem dX4_fits_32 : decode cX4_fits 32 = .ok (.getfield 28, 3) := by decide +kernel
theorem dX4_fits_35 : decode cX4_fits 35 = .ok (.iload 4, 2) := by decide +kernel
theorem dX4_fits_37 : decode cX4_fits 37 = .ok (.iaload, 1) := by decide +kernel
theorem dX4_fits_38 : decode cX4_fits 38 = .ok (.invokevirtual 58, 3) := by decide +kernel
theorem dX4_fits_41 : decode cX4_fits 41 = .ok (.ifCond .eq 7, 3) := by decide +kernel
theorem dX4_fits_44 : decode cX4_fits 44 = .ok (.iconst 1, 1) := by decide +kernel
theorem dX4_fits_45 : decode cX4_fits 45 = .ok (.goto 4, 3) := by decide +kernel
theorem dX4_fits_48 : decode cX4_fits 48 = .ok (.iconst 0, 1) := by decide +kernel
theorem dX4_fits_49 : decode cX4_fits 49 = .ok (.istore_n 3, 1) := by decide +kernel
theorem dX4_fits_50 : decode cX4_fits 50 = .ok (.iinc 4 1, 3) := by decide +kernel
theorem dX4_fits_53 : decode cX4_fits 53 = .ok (.goto (-48), 3) := by decide +kernel
theorem dX4_fits_56 : decode cX4_fits 56 = .ok (.iload_n 3, 1) := by decide +kernel
theorem dX4_fits_57 : decode cX4_fits 57 = .ok (.ireturn, 1) := by decide +kernel
set_option maxRecDepth 20000 in
theorem ggX4_exchange_X4_isPart : GoodIn wsX4_exchange wsX4_isPart := goodIn_r _ [9, 10, 1, 11, 12, 8, 13, 34, 35, 36, 37, 38, 39, 40, 41, 42, 43, 44, 45, 46] (by decide +kernel) (by decide +kernel)
set_option maxRecDepth 20000 in
theorem gX4_exchange_X4_isPart : GoodIn wsX4_exchange (wsV RX4 48 RX4 yX4_isPart wsX4_isPart) := goodIn_app (goodIn_of _ (by decide +kernel)) ggX4_exchange_X4_isPart
set_option maxRecDepth 20000 in
theorem ggX4_exchange_X4_fits : GoodIn wsX4_exchange wsX4_fits := goodIn_r _ [17, 2, 3, 18, 19, 20, 21, 8, 22, 23, 24, 11, 12, 13, 34, 35, 36, 37, 38, 39, 40, 41, 42, 43, 44, 45, 46] (by decide +kernel) (by decide +kernel)
set_option maxRecDepth 20000 in
theorem gX4_exchange_X4_fits : GoodIn wsX4_exchange (wsV RX4 94 RX4 yX4_fits wsX4_fits) := goodIn_app (goodIn_of _ (by decide +kernel)) ggX4_exchange_X4_fits
set_option maxRecDepth 20000 in
theorem ggX4_exchange_X4_isFine : GoodIn wsX4_exchange wsX4_isFine := goodIn_r _ [28, 29, 34, 35, 36, 37, 38, 39, 40, 41, 42, 43, 44, 45, 46] (by decide +kernel) (by decide +kernel)
set_option maxRecDepth 20000 in
theorem gX4_exchange_X4_isFine : GoodIn wsX4_exchange (wsV RX4 75 RX4 yX4_isFine wsX4_isFine) := goodIn_app (goodIn_of _ (by decide +kernel)) ggX4_exchange_X4_isFine
set_option maxRecDepth 20000 in
theorem ggX4_exchange_X4_rowsOf : GoodIn wsX4_exchange wsX4_rowsOf := goodIn_r _ [33, 2, 3, 34, 35, 36, 37, 38, 39, 40, 41, 42, 43, 44, 45, 46] (by decide +kernel) (by decide +kernel)
set_option maxRecDepth 20000 in
theorem gX4_exchange_X4_rowsOf : GoodIn wsX4_exchange (wsV RX4 86 RX4 yX4_rowsOf wsX4_rowsOf) := goodIn_app (goodIn_of _ (by decide +kernel)) ggX4_exchange_X4_rowsOf
theorem dX4_exchange_0 : decode cX4_exchange 0 = .ok (.aload_n 0, 1) := by decide +kernel
theorem dX4_exchange_1 : decode cX4_exchange 1 = .ok (.iload_n 1, 1) := by decide +kernel
theorem dX4_exchange_2 : decode cX4_exchange 2 = .ok (.invokevirtual 48, 3) := by decide +kernel
theorem dX4_exchange_5 : decode cX4_exchange 5 = .ok (.ifCond .eq 15, 3) := by decide +kernel
theorem dX4_exchange_8 : decode cX4_exchange 8 = .ok (.aload_n 0, 1) := by decide +kernel
theorem dX4_exchange_9 : decode cX4_exchange 9 = .ok (.iload_n 2, 1) := by decide +kernel
theorem dX4_exchange_10 : decode cX4_exchange 10 = .ok (.invokevirtual 48, 3) := by decide +kernel
theorem dX4_exchange_13 : decode cX4_exchange 13 = .ok (.ifCond .eq 7, 3) := by decide +kernel
theorem dX4_exchange_16 : decode cX4_exchange 16 = .ok (.iconst 1, 1) := by decide +kernel
theorem dX4_exchange_17 : decode cX4_exchange 17 = .ok (.goto 4, 3) := by decide +kernel
theorem dX4_exchange_20 : decode cX4_exchange 20 = .ok (.iconst 0, 1) := by decide +kernel
theorem dX4_exchange_21 : decode cX4_exchange 21 = .ok (.istore_n 3, 1) := by decide +kernel
theorem dX4_exchange_22 : decode cX4_exchange 22 = .ok (.iload_n 3, 1) := by decide +kernel
theorem dX4_exchange_23 : decode cX4_exchange 23 = .ok (.ifCond .eq 44, 3) := by decide +kernel
theorem dX4_exchange_26 : decode cX4_exchange 26 = .ok (.aload_n 0, 1) := by decide +kernel
theorem dX4_exchange_27 : decode cX4_exchange 27 = .ok (.getfield 22, 3) := by decide +kernel
theorem dX4_exchange_30 : decode cX4_exchange 30 = .ok (.iload_n 1, 1) := by decide +kernel
theorem dX4_exchange_31 : decode cX4_exchange 31 = .ok (.iaload, 1) := by decide +kernel
theorem dX4_exchange_32 : decode cX4_exchange 32 = .ok (.ifCond .ne 35, 3) := by decide +kernel
theorem dX4_exchange_35 : decode cX4_exchange 35 = .ok (.aload_n 0, 1) := by decide +kernel
theorem dX4_exchange_36 : decode cX4_exchange 36 = .ok (.getfield 22, 3) := by decide +kernel
theorem dX4_exchange_39 : decode cX4_exchange 39 = .ok (.iload_n 2, 1) := by decide +kernel
theorem dX4_exchange_40 : decode cX4_exchange 40 = .ok (.iaload, 1) := by decide +kernel
theorem dX4_exchange_41 : decode cX4_exchange 41 = .ok (.iconst 1, 1) := by decide +kernel
theorem dX4_exchange_42 : decode cX4_exchange 42 = .ok (.if_icmp .ne 25, 3) := by decide +kernel
theorem dX4_exchange_45 : decode cX4_exchange 45 = .ok (.aload_n 0, 1) := by decide +kernel
theorem dX4_exchange_46 : decode cX4_exchange 46 = .ok (.iload_n 1, 1) := by decide +kernel
theorem dX4_exchange_47 : decode cX4_exchange 47 = .ok (.iload_n 2, 1) := by decide +kernel
theorem dX4_exchange_48 : decode cX4_exchange 48 = .ok (.invokevirtual 94, 3) := by decide +kernel
theorem dX4_exchange_51 : decode cX4_exchange 51 = .ok (.ifCond .eq 16, 3) := by decide +kernel
theorem dX4_exchange_54 : decode cX4_exchange 54 = .ok (.aload_n 0, 1) := by decide +kernel
theorem dX4_exchange_55 : decode cX4_exchange 55 = .ok (.iload_n 2, 1) := by decide +kernel
theorem dX4_exchange_56 : decode cX4_exchange 56 = .ok (.iload_n 1, 1) := by decide +kernel
theorem dX4_exchange_57 : decode cX4_exchange 57 = .ok (.invokevirtual 94, 3) := by decide +kernel
theorem dX4_exchange_60 : decode cX4_exchange 60 = .ok (.ifCond .eq 7, 3) := by decide +kernel
theorem dX4_exchange_63 : decode cX4_exchange 63 = .ok (.iconst 1, 1) := by decide +kernel
theorem dX4_exchange_64 : decode cX4_exchange 64 = .ok (.goto 4, 3) := by decide +kernel
theorem dX4_exchange_67 : decode cX4_exchange 67 = .ok (.iconst 0, 1) := by decide +kernel
theorem dX4_exchange_68 : decode cX4_exchange 68 = .ok (.istore 4, 2) := by decide +kernel
theorem dX4_exchange_70 : decode cX4_exchange 70 = .ok (.aload_n 0, 1) := by decide +kernel
theorem dX4_exchange_71 : decode cX4_exchange 71 = .ok (.iload_n 3, 1) := by decide +kernel
theorem dX4_exchange_72 : decode cX4_exchange 72 = .ok (.ifCond .ne 7, 3) := by decide +kernel
theorem dX4_exchange_75 : decode cX4_exchange 75 = .ok (.iconst 1, 1) := by decide +kernel
theorem dX4_exchange_76 : decode cX4_exchange 76 = .ok (.goto 13, 3) := by decide +kernel
theorem dX4_exchange_79 : decode cX4_exchange 79 = .ok (.iload 4, 2) := by decide +kernel
theorem dX4_exchange_81 : decode cX4_exchange 81 = .ok (.ifCond .ne 7, 3) := by decide +kernel
theorem dX4_exchange_84 : decode cX4_exchange 84 = .ok (.iconst 2, 1) := by decide +kernel
theorem dX4_exchange_85 : decode cX4_exchange 85 = .ok (.goto 4, 3) := by decide +kernel
theorem dX4_exchange_88 : decode cX4_exchange 88 = .ok (.iconst 0, 1) := by decide +kernel
theorem dX4_exchange_89 : decode cX4_exchange 89 = .ok (.invokevirtual 75, 3) := by decide +kernel
theorem dX4_exchange_92 : decode cX4_exchange 92 = .ok (.ifCond .ne 5, 3) := by decide +kernel
theorem dX4_exchange_95 : decode cX4_exchange 95 = .ok (.iconst 0, 1) := by decide +kernel
theorem dX4_exchange_96 : decode cX4_exchange 96 = .ok (.ireturn, 1) := by decide +kernel
theorem dX4_exchange_97 : decode cX4_exchange 97 = .ok (.iconst 0, 1) := by decide +kernel
theorem dX4_exchange_98 : decode cX4_exchange 98 = .ok (.istore 5, 2) := by decide +kernel
theorem dX4_exchange_100 : decode cX4_exchange 100 = .ok (.iload 5, 2) := by decide +kernel
theorem dX4_exchange_102 : decode cX4_exchange 102 = .ok (.aload_n 0, 1) := by decide +kernel
theorem dX4_exchange_103 : decode cX4_exchange 103 = .ok (.getfield 52, 3) := by decide +kernel
theorem dX4_exchange_106 : decode cX4_exchange 106 = .ok (.if_icmp .ge 47, 3) := by decide +kernel
theorem dX4_exchange_109 : decode cX4_exchange 109 = .ok (.aload_n 0, 1) := by decide +kernel
theorem dX4_exchange_110 : decode cX4_exchange 110 = .ok (.getfield 25, 3) := by decide +kernel
theorem dX4_exchange_113 : decode cX4_exchange 113 = .ok (.iload 5, 2) := by decide +kernel
theorem dX4_exchange_115 : decode cX4_exchange 115 = .ok (.iaload, 1) := by decide +kernel
theorem dX4_exchange_116 : decode cX4_exchange 116 = .ok (.istore 6, 2) := by decide +kernel
theorem dX4_exchange_118 : decode cX4_exchange 118 = .ok (.aload_n 0, 1) := by decide +kernel
theorem dX4_exchange_119 : decode cX4_exchange 119 = .ok (.getfield 25, 3) := by decide +kernel
theorem dX4_exchange_122 : decode cX4_exchange 122 = .ok (.iload 5, 2) := by decide +kernel
theorem dX4_exchange_124 : decode cX4_exchange 124 = .ok (.iload 6, 2) := by decide +kernel
theorem dX4_exchange_126 : decode cX4_exchange 126 = .ok (.iload_n 1, 1) := by decide +kernel
theorem dX4_exchange_127 : decode cX4_exchange 127 = .ok (.if_icmp .ne 7, 3) := by decide +kernel
theorem dX4_exchange_130 : decode cX4_exchange 130 = .ok (.iload_n 2, 1) := by decide +kernel
theorem dX4_exchange_131 : decode cX4_exchange 131 = .ok (.goto 15, 3) := by decide +kernel
theorem dX4_exchange_134 : decode cX4_exchange 134 = .ok (.iload 6, 2) := by decide +kernel
theorem dX4_exchange_136 : decode cX4_exchange 136 = .ok (.iload_n 2, 1) := by decide +kernel
theorem dX4_exchange_137 : decode cX4_exchange 137 = .ok (.if_icmp .ne 7, 3) := by decide +kernel
theorem dX4_exchange_140 : decode cX4_exchange 140 = .ok (.iload_n 1, 1) := by decide +kernel
theorem dX4_exchange_141 : decode cX4_exchange 141 = .ok (.goto 5, 3) := by decide +kernel
theorem dX4_exchange_144 : decode cX4_exchange 144 = .ok (.iload 6, 2) := by decide +kernel
theorem dX4_exchange_146 : decode cX4_exchange 146 = .ok (.iastore, 1) := by decide +kernel
theorem dX4_exchange_147 : decode cX4_exchange 147 = .ok (.iinc 5 1, 3) := by decide +kernel
theorem dX4_exchange_150 : decode cX4_exchange 150 = .ok (.goto (-50), 3) := by decide +kernel
theorem dX4_exchange_153 : decode cX4_exchange 153 = .ok (.aload_n 0, 1) := by decide +kernel
theorem dX4_exchange_154 : decode cX4_exchange 154 = .ok (.iconst 1, 1) := by decide +kernel
theorem dX4_exchange_155 : decode cX4_exchange 155 = .ok (.putfield 90, 3) := by decide +kernel
theorem dX4_exchange_158 : decode cX4_exchange 158 = .ok (.aload_n 0, 1) := by decide +kernel
theorem dX4_exchange_159 : decode cX4_exchange 159 = .ok (.iload_n 1, 1) := by decide +kernel
theorem dX4_exchange_160 : decode cX4_exchange 160 = .ok (.invokevirtual 86, 3) := by decide +kernel
theorem dX4_exchange_163 : decode cX4_exchange 163 = .ok (.ireturn, 1) := by decide +kernel
set_option maxRecDepth 20000 in
theorem ggX4_isShaped_X4_isKey : GoodIn wsX4_isShaped wsX4_isKey := goodIn_r _ [4, 5, 6, 3, 7] (by decide +kernel) (by decide +kernel)
set_option maxRecDepth 20000 in
theorem gX4_isShaped_X4_isKey : GoodIn wsX4_isShaped (va_wsS RX4 62 yX4_isKey wsX4_isKey) := goodIn_app (goodIn_of _ (by decide +kernel)) ggX4_isShaped_X4_isKey
set_option maxRecDepth 20000 in
theorem ggX4_isShaped_X4_isIn : GoodIn wsX4_isShaped wsX4_isIn := goodIn_r _ [7] (by decide +kernel) (by decide +kernel)
set_option maxRecDepth 20000 in
theorem gX4_isShaped_X4_isIn : GoodIn wsX4_isShaped (va_wsS RX4 41 yX4_isIn wsX4_isIn) := goodIn_app (goodIn_of _ (by decide +kernel)) ggX4_isShaped_X4_isIn
theorem dX4_isShaped_0 : decode cX4_isShaped 0 = .ok (.iload_n 0, 1) := by decide +kernel
theorem dX4_isShaped_1 : decode cX4_isShaped 1 = .ok (.invokestatic 62, 3) := by decide +kernel
theorem dX4_isShaped_4 : decode cX4_isShaped 4 = .ok (.ifCond .eq 17, 3) := by decide +kernel
theorem dX4_isShaped_7 : decode cX4_isShaped 7 = .ok (.iload_n 1, 1) := by decide +kernel
theorem dX4_isShaped_8 : decode cX4_isShaped 8 = .ok (.iconst 0, 1) := by decide +kernel
theorem dX4_isShaped_9 : decode cX4_isShaped 9 = .ok (.bipush 9, 2) := by decide +kernel
theorem dX4_isShaped_11 : decode cX4_isShaped 11 = .ok (.invokestatic 41, 3) := by decide +kernel
theorem dX4_isShaped_14 : decode cX4_isShaped 14 = .ok (.ifCond .eq 7, 3) := by decide +kernel
theorem dX4_isShaped_17 : decode cX4_isShaped 17 = .ok (.iconst 1, 1) := by decide +kernel
theorem dX4_isShaped_18 : decode cX4_isShaped 18 = .ok (.goto 4, 3) := by decide +kernel
theorem dX4_isShaped_21 : decode cX4_isShaped 21 = .ok (.iconst 0, 1) := by decide +kernel
theorem dX4_isShaped_22 : decode cX4_isShaped 22 = .ok (.ireturn, 1) := by decide +kernel
set_option maxRecDepth 20000 in
theorem ggX4_insert_X4_isShaped : GoodIn wsX4_insert wsX4_isShaped := goodIn_r _ [9, 10, 11, 8, 12, 13, 14, 15] (by decide +kernel) (by decide +kernel)
set_option maxRecDepth 20000 in
theorem gX4_insert_X4_isShaped : GoodIn wsX4_insert (va_wsS RX4 97 yX4_isShaped wsX4_isShaped) := goodIn_app (goodIn_of _ (by decide +kernel)) ggX4_insert_X4_isShaped
set_option maxRecDepth 20000 in
theorem ggX4_insert_X4_isIn : GoodIn wsX4_insert wsX4_isIn := goodIn_r _ [15] (by decide +kernel) (by decide +kernel)
set_option maxRecDepth 20000 in
theorem gX4_insert_X4_isIn : GoodIn wsX4_insert (va_wsS RX4 41 yX4_isIn wsX4_isIn) := goodIn_app (goodIn_of _ (by decide +kernel)) ggX4_insert_X4_isIn
set_option maxRecDepth 20000 in
theorem ggX4_insert_X4_isFine : GoodIn wsX4_insert wsX4_isFine := goodIn_r _ [19, 20, 37, 38, 39, 40, 41, 42, 43, 44, 45, 46, 47, 48, 49] (by decide +kernel) (by decide +kernel)
set_option maxRecDepth 20000 in
theorem gX4_insert_X4_isFine : GoodIn wsX4_insert (wsV RX4 75 RX4 yX4_isFine wsX4_isFine) := goodIn_app (goodIn_of _ (by decide +kernel)) ggX4_insert_X4_isFine
set_option maxRecDepth 20000 in
theorem ggX4_insert_X4_partWith : GoodIn wsX4_insert wsX4_partWith := goodIn_r _ [24, 25, 26, 27, 28, 8, 29, 30, 31, 32, 33, 34, 35, 36, 13, 14, 15, 37, 38, 39, 40, 41, 42, 43, 44, 45, 46, 47, 48, 49] (by decide +kernel) (by decide +kernel)
set_option maxRecDepth 20000 in
theorem gX4_insert_X4_partWith : GoodIn wsX4_insert (wsV RX4 100 RX4 yX4_partWith wsX4_partWith) := goodIn_app (goodIn_of _ (by decide +kernel)) ggX4_insert_X4_partWith
theorem dX4_insert_0 : decode cX4_insert 0 = .ok (.iload_n 1, 1) := by decide +kernel
theorem dX4_insert_1 : decode cX4_insert 1 = .ok (.iload_n 2, 1) := by decide +kernel
theorem dX4_insert_2 : decode cX4_insert 2 = .ok (.invokestatic 97, 3) := by decide +kernel
theorem dX4_insert_5 : decode cX4_insert 5 = .ok (.ifCond .eq 17, 3) := by decide +kernel
theorem dX4_insert_8 : decode cX4_insert 8 = .ok (.iload_n 3, 1) := by decide +kernel
theorem dX4_insert_9 : decode cX4_insert 9 = .ok (.iconst 0, 1) := by decide +kernel
theorem dX4_insert_10 : decode cX4_insert 10 = .ok (.bipush 99, 2) := by decide +kernel
theorem dX4_insert_12 : decode cX4_insert 12 = .ok (.invokestatic 41, 3) := by decide +kernel
theorem dX4_insert_15 : decode cX4_insert 15 = .ok (.ifCond .eq 7, 3) := by decide +kernel
theorem dX4_insert_18 : decode cX4_insert 18 = .ok (.iconst 1, 1) := by decide +kernel
theorem dX4_insert_19 : decode cX4_insert 19 = .ok (.goto 4, 3) := by decide +kernel
theorem dX4_insert_22 : decode cX4_insert 22 = .ok (.iconst 0, 1) := by decide +kernel
theorem dX4_insert_23 : decode cX4_insert 23 = .ok (.istore 4, 2) := by decide +kernel
theorem dX4_insert_25 : decode cX4_insert 25 = .ok (.aload_n 0, 1) := by decide +kernel
theorem dX4_insert_26 : decode cX4_insert 26 = .ok (.iload 4, 2) := by decide +kernel
theorem dX4_insert_28 : decode cX4_insert 28 = .ok (.ifCond .ne 7, 3) := by decide +kernel
theorem dX4_insert_31 : decode cX4_insert 31 = .ok (.iconst 1, 1) := by decide +kernel
theorem dX4_insert_32 : decode cX4_insert 32 = .ok (.goto 18, 3) := by decide +kernel
theorem dX4_insert_35 : decode cX4_insert 35 = .ok (.aload_n 0, 1) := by decide +kernel
theorem dX4_insert_36 : decode cX4_insert 36 = .ok (.getfield 52, 3) := by decide +kernel
theorem dX4_insert_39 : decode cX4_insert 39 = .ok (.sipush 200, 3) := by decide +kernel
theorem dX4_insert_42 : decode cX4_insert 42 = .ok (.if_icmp .ne 7, 3) := by decide +kernel
theorem dX4_insert_45 : decode cX4_insert 45 = .ok (.iconst 2, 1) := by decide +kernel
theorem dX4_insert_46 : decode cX4_insert 46 = .ok (.goto 4, 3) := by decide +kernel
theorem dX4_insert_49 : decode cX4_insert 49 = .ok (.iconst 0, 1) := by decide +kernel
theorem dX4_insert_50 : decode cX4_insert 50 = .ok (.invokevirtual 75, 3) := by decide +kernel
theorem dX4_insert_53 : decode cX4_insert 53 = .ok (.ifCond .ne 5, 3) := by decide +kernel
theorem dX4_insert_56 : decode cX4_insert 56 = .ok (.iconst 0, 1) := by decide +kernel
theorem dX4_insert_57 : decode cX4_insert 57 = .ok (.ireturn, 1) := by decide +kernel
theorem dX4_insert_58 : decode cX4_insert 58 = .ok (.aload_n 0, 1) := by decide +kernel
theorem dX4_insert_59 : decode cX4_insert 59 = .ok (.getfield 28, 3) := by decide +kernel
theorem dX4_insert_62 : decode cX4_insert 62 = .ok (.aload_n 0, 1) := by decide +kernel
theorem dX4_insert_63 : decode cX4_insert 63 = .ok (.getfield 52, 3) := by decide +kernel
theorem dX4_insert_66 : decode cX4_insert 66 = .ok (.iload_n 1, 1) := by decide +kernel
theorem dX4_insert_67 : decode cX4_insert 67 = .ok (.iastore, 1) := by decide +kernel
theorem dX4_insert_68 : decode cX4_insert 68 = .ok (.aload_n 0, 1) := by decide +kernel
theorem dX4_insert_69 : decode cX4_insert 69 = .ok (.getfield 31, 3) := by decide +kernel
theorem dX4_insert_72 : decode cX4_insert 72 = .ok (.aload_n 0, 1) := by decide +kernel
theorem dX4_insert_73 : decode cX4_insert 73 = .ok (.getfield 52, 3) := by decide +kernel
theorem dX4_insert_76 : decode cX4_insert 76 = .ok (.iload_n 2, 1) := by decide +kernel
theorem dX4_insert_77 : decode cX4_insert 77 = .ok (.iastore, 1) := by decide +kernel
theorem dX4_insert_78 : decode cX4_insert 78 = .ok (.aload_n 0, 1) := by decide +kernel
theorem dX4_insert_79 : decode cX4_insert 79 = .ok (.getfield 34, 3) := by decide +kernel
theorem dX4_insert_82 : decode cX4_insert 82 = .ok (.aload_n 0, 1) := by decide +kernel
theorem dX4_insert_83 : decode cX4_insert 83 = .ok (.getfield 52, 3) := by decide +kernel
theorem dX4_insert_86 : decode cX4_insert 86 = .ok (.iload_n 3, 1) := by decide +kernel
theorem dX4_insert_87 : decode cX4_insert 87 = .ok (.iastore, 1) := by decide +kernel
theorem dX4_insert_88 : decode cX4_insert 88 = .ok (.aload_n 0, 1) := by decide +kernel
theorem dX4_insert_89 : decode cX4_insert 89 = .ok (.getfield 25, 3) := by decide +kernel
theorem dX4_insert_92 : decode cX4_insert 92 = .ok (.aload_n 0, 1) := by decide +kernel
theorem dX4_insert_93 : decode cX4_insert 93 = .ok (.getfield 52, 3) := by decide +kernel
theorem dX4_insert_96 : decode cX4_insert 96 = .ok (.aload_n 0, 1) := by decide +kernel
theorem dX4_insert_97 : decode cX4_insert 97 = .ok (.iload_n 1, 1) := by decide +kernel
theorem dX4_insert_98 : decode cX4_insert 98 = .ok (.invokevirtual 100, 3) := by decide +kernel
theorem dX4_insert_101 : decode cX4_insert 101 = .ok (.iastore, 1) := by decide +kernel
theorem dX4_insert_102 : decode cX4_insert 102 = .ok (.aload_n 0, 1) := by decide +kernel
theorem dX4_insert_103 : decode cX4_insert 103 = .ok (.dup, 1) := by decide +kernel
theorem dX4_insert_104 : decode cX4_insert 104 = .ok (.getfield 52, 3) := by decide +kernel
theorem dX4_insert_107 : decode cX4_insert 107 = .ok (.iconst 1, 1) := by decide +kernel
theorem dX4_insert_108 : decode cX4_insert 108 = .ok (.iadd, 1) := by decide +kernel
theorem dX4_insert_109 : decode cX4_insert 109 = .ok (.putfield 52, 3) := by decide +kernel
theorem dX4_insert_112 : decode cX4_insert 112 = .ok (.aload_n 0, 1) := by decide +kernel
theorem dX4_insert_113 : decode cX4_insert 113 = .ok (.getfield 52, 3) := by decide +kernel
theorem dX4_insert_116 : decode cX4_insert 116 = .ok (.iconst 1, 1) := by decide +kernel
theorem dX4_insert_117 : decode cX4_insert 117 = .ok (.isub, 1) := by decide +kernel
theorem dX4_insert_118 : decode cX4_insert 118 = .ok (.ireturn, 1) := by decide +kernel
set_option maxRecDepth 20000 in
theorem ggX4_place_X4_leaf : GoodIn wsX4_place wsX4_leaf := goodIn_r _ [8, 9, 10, 11, 12, 13, 14, 15, 16, 17, 18, 19, 20, 21, 22, 23] (by decide +kernel) (by decide +kernel)
set_option maxRecDepth 20000 in
theorem gX4_place_X4_leaf : GoodIn wsX4_place (wsV RX4 103 RX4 yX4_leaf wsX4_leaf) := goodIn_app (goodIn_of _ (by decide +kernel)) ggX4_place_X4_leaf
theorem dX4_place_0 : decode cX4_place 0 = .ok (.bipush 10, 2) := by decide +kernel
theorem dX4_place_2 : decode cX4_place 2 = .ok (.aload_n 0, 1) := by decide +kernel
theorem dX4_place_3 : decode cX4_place 3 = .ok (.getfield 25, 3) := by decide +kernel
theorem dX4_place_6 : decode cX4_place 6 = .ok (.iload_n 1, 1) := by decide +kernel
theorem dX4_place_7 : decode cX4_place 7 = .ok (.iaload, 1) := by decide +kernel
theorem dX4_place_8 : decode cX4_place 8 = .ok (.imul, 1) := by decide +kernel
theorem dX4_place_9 : decode cX4_place 9 = .ok (.aload_n 0, 1) := by decide +kernel
theorem dX4_place_10 : decode cX4_place 10 = .ok (.aload_n 0, 1) := by decide +kernel
theorem dX4_place_11 : decode cX4_place 11 = .ok (.getfield 25, 3) := by decide +kernel
theorem dX4_place_14 : decode cX4_place 14 = .ok (.iload_n 1, 1) := by decide +kernel
theorem dX4_place_15 : decode cX4_place 15 = .ok (.iaload, 1) := by decide +kernel
theorem dX4_place_16 : decode cX4_place 16 = .ok (.aload_n 0, 1) := by decide +kernel
theorem dX4_place_17 : decode cX4_place 17 = .ok (.getfield 28, 3) := by decide +kernel
theorem dX4_place_20 : decode cX4_place 20 = .ok (.iload_n 1, 1) := by decide +kernel
theorem dX4_place_21 : decode cX4_place 21 = .ok (.iaload, 1) := by decide +kernel
theorem dX4_place_22 : decode cX4_place 22 = .ok (.aload_n 0, 1) := by decide +kernel
theorem dX4_place_23 : decode cX4_place 23 = .ok (.getfield 31, 3) := by decide +kernel
theorem dX4_place_26 : decode cX4_place 26 = .ok (.iload_n 1, 1) := by decide +kernel
theorem dX4_place_27 : decode cX4_place 27 = .ok (.iaload, 1) := by decide +kernel
theorem dX4_place_28 : decode cX4_place 28 = .ok (.invokevirtual 103, 3) := by decide +kernel
theorem dX4_place_31 : decode cX4_place 31 = .ok (.iadd, 1) := by decide +kernel
theorem dX4_place_32 : decode cX4_place 32 = .ok (.ireturn, 1) := by decide +kernel
theorem dX4_isTabled_0 : decode cX4_isTabled 0 = .ok (.aload_n 0, 1) := by decide +kernel
theorem dX4_isTabled_1 : decode cX4_isTabled 1 = .ok (.getfield 25, 3) := by decide +kernel
theorem dX4_isTabled_4 : decode cX4_isTabled 4 = .ok (.iload_n 1, 1) := by decide +kernel
theorem dX4_isTabled_5 : decode cX4_isTabled 5 = .ok (.iaload, 1) := by decide +kernel
theorem dX4_isTabled_6 : decode cX4_isTabled 6 = .ok (.ifCond .eq 26, 3) := by decide +kernel
theorem dX4_isTabled_9 : decode cX4_isTabled 9 = .ok (.aload_n 0, 1) := by decide +kernel
theorem dX4_isTabled_10 : decode cX4_isTabled 10 = .ok (.getfield 25, 3) := by decide +kernel
theorem dX4_isTabled_13 : decode cX4_isTabled 13 = .ok (.iload_n 1, 1) := by decide +kernel
theorem dX4_isTabled_14 : decode cX4_isTabled 14 = .ok (.iaload, 1) := by decide +kernel
theorem dX4_isTabled_15 : decode cX4_isTabled 15 = .ok (.ifCond .le 21, 3) := by decide +kernel
theorem dX4_isTabled_18 : decode cX4_isTabled 18 = .ok (.aload_n 0, 1) := by decide +kernel
theorem dX4_isTabled_19 : decode cX4_isTabled 19 = .ok (.getfield 22, 3) := by decide +kernel
theorem dX4_isTabled_22 : decode cX4_isTabled 22 = .ok (.aload_n 0, 1) := by decide +kernel
theorem dX4_isTabled_23 : decode cX4_isTabled 23 = .ok (.getfield 25, 3) := by decide +kernel
theorem dX4_isTabled_26 : decode cX4_isTabled 26 = .ok (.iload_n 1, 1) := by decide +kernel
theorem dX4_isTabled_27 : decode cX4_isTabled 27 = .ok (.iaload, 1) := by decide +kernel
theorem dX4_isTabled_28 : decode cX4_isTabled 28 = .ok (.iaload, 1) := by decide +kernel
theorem dX4_isTabled_29 : decode cX4_isTabled 29 = .ok (.ifCond .ne 7, 3) := by decide +kernel
theorem dX4_isTabled_32 : decode cX4_isTabled 32 = .ok (.iconst 1, 1) := by decide +kernel
theorem dX4_isTabled_33 : decode cX4_isTabled 33 = .ok (.goto 4, 3) := by decide +kernel
theorem dX4_isTabled_36 : decode cX4_isTabled 36 = .ok (.iconst 0, 1) := by decide +kernel
theorem dX4_isTabled_37 : decode cX4_isTabled 37 = .ok (.ireturn, 1) := by decide +kernel
set_option maxRecDepth 20000 in
theorem ggX4_change_X4_isRow : GoodIn wsX4_change wsX4_isRow := goodIn_r _ [8, 9, 3, 10, 11, 7, 12, 54, 55, 56, 57, 58, 59, 60, 61, 62, 63, 64, 65, 66] (by decide +kernel) (by decide +kernel)
set_option maxRecDepth 20000 in
theorem gX4_change_X4_isRow : GoodIn wsX4_change (wsV RX4 107 RX4 yX4_isRow wsX4_isRow) := goodIn_app (goodIn_of _ (by decide +kernel)) ggX4_change_X4_isRow
set_option maxRecDepth 20000 in
theorem ggX4_change_X4_isShaped : GoodIn wsX4_change wsX4_isShaped := goodIn_r _ [15, 16, 17, 7, 18, 10, 11, 12] (by decide +kernel) (by decide +kernel)
set_option maxRecDepth 20000 in
theorem gX4_change_X4_isShaped : GoodIn wsX4_change (va_wsS RX4 97 yX4_isShaped wsX4_isShaped) := goodIn_app (goodIn_of _ (by decide +kernel)) ggX4_change_X4_isShaped
set_option maxRecDepth 20000 in
theorem ggX4_change_X4_isTabled : GoodIn wsX4_change wsX4_isTabled := goodIn_r _ [22, 3, 23, 54, 55, 56, 57, 58, 59, 60, 61, 62, 63, 64, 65, 66] (by decide +kernel) (by decide +kernel)
set_option maxRecDepth 20000 in
theorem gX4_change_X4_isTabled : GoodIn wsX4_change (wsV RX4 110 RX4 yX4_isTabled wsX4_isTabled) := goodIn_app (goodIn_of _ (by decide +kernel)) ggX4_change_X4_isTabled
set_option maxRecDepth 20000 in
theorem ggX4_change_X4_isFine : GoodIn wsX4_change wsX4_isFine := goodIn_r _ [27, 28, 54, 55, 56, 57, 58, 59, 60, 61, 62, 63, 64, 65, 66] (by decide +kernel) (by decide +kernel)
set_option maxRecDepth 20000 in
theorem gX4_change_X4_isFine : GoodIn wsX4_change (wsV RX4 75 RX4 yX4_isFine wsX4_isFine) := goodIn_app (goodIn_of _ (by decide +kernel)) ggX4_change_X4_isFine
set_option maxRecDepth 20000 in
theorem ggX4_change_X4_place : GoodIn wsX4_change wsX4_place := goodIn_r _ [32, 3, 1, 2, 33, 34, 35, 7, 36, 37, 38, 54, 55, 56, 57, 58, 59, 60, 61, 62, 63, 64, 65, 66] (by decide +kernel) (by decide +kernel)
set_option maxRecDepth 20000 in
theorem gX4_change_X4_place : GoodIn wsX4_change (wsV RX4 113 RX4 yX4_place wsX4_place) := goodIn_app (goodIn_of _ (by decide +kernel)) ggX4_change_X4_place
set_option maxRecDepth 20000 in
theorem ggX4_change_X4_partWith : GoodIn wsX4_change wsX4_partWith := goodIn_r _ [42, 43, 44, 45, 46, 7, 47, 23, 48, 49, 50, 51, 52, 53, 10, 11, 12, 54, 55, 56, 57, 58, 59, 60, 61, 62, 63, 64, 65, 66] (by decide +kernel) (by decide +kernel)
set_option maxRecDepth 20000 in
theorem gX4_change_X4_partWith : GoodIn wsX4_change (wsV RX4 100 RX4 yX4_partWith wsX4_partWith) := goodIn_app (goodIn_of _ (by decide +kernel)) ggX4_change_X4_partWith
theorem dX4_change_0 : decode cX4_change 0 = .ok (.aload_n 0, 1) := by decide +kernel
theorem dX4_change_1 : decode cX4_change 1 = .ok (.iload_n 1, 1) := by decide +kernel
theorem dX4_change_2 : decode cX4_change 2 = .ok (.invokevirtual 107, 3) := by decide +kernel
theorem dX4_change_5 : decode cX4_change 5 = .ok (.istore 4, 2) := by decide +kernel
theorem dX4_change_7 : decode cX4_change 7 = .ok (.aload_n 0, 1) := by decide +kernel
theorem dX4_change_8 : decode cX4_change 8 = .ok (.iload 4, 2) := by decide +kernel
theorem dX4_change_10 : decode cX4_change 10 = .ok (.ifCond .ne 7, 3) := by decide +kernel
theorem dX4_change_13 : decode cX4_change 13 = .ok (.iconst 1, 1) := by decide +kernel
theorem dX4_change_14 : decode cX4_change 14 = .ok (.goto 28, 3) := by decide +kernel
theorem dX4_change_17 : decode cX4_change 17 = .ok (.iload_n 2, 1) := by decide +kernel
theorem dX4_change_18 : decode cX4_change 18 = .ok (.iload_n 3, 1) := by decide +kernel
theorem dX4_change_19 : decode cX4_change 19 = .ok (.invokestatic 97, 3) := by decide +kernel
theorem dX4_change_22 : decode cX4_change 22 = .ok (.ifCond .ne 7, 3) := by decide +kernel
theorem dX4_change_25 : decode cX4_change 25 = .ok (.iconst 2, 1) := by decide +kernel
theorem dX4_change_26 : decode cX4_change 26 = .ok (.goto 16, 3) := by decide +kernel
theorem dX4_change_29 : decode cX4_change 29 = .ok (.aload_n 0, 1) := by decide +kernel
theorem dX4_change_30 : decode cX4_change 30 = .ok (.iload_n 1, 1) := by decide +kernel
theorem dX4_change_31 : decode cX4_change 31 = .ok (.invokevirtual 110, 3) := by decide +kernel
theorem dX4_change_34 : decode cX4_change 34 = .ok (.ifCond .ne 7, 3) := by decide +kernel
theorem dX4_change_37 : decode cX4_change 37 = .ok (.iconst 3, 1) := by decide +kernel
theorem dX4_change_38 : decode cX4_change 38 = .ok (.goto 4, 3) := by decide +kernel
theorem dX4_change_41 : decode cX4_change 41 = .ok (.iconst 0, 1) := by decide +kernel
theorem dX4_change_42 : decode cX4_change 42 = .ok (.invokevirtual 75, 3) := by decide +kernel
theorem dX4_change_45 : decode cX4_change 45 = .ok (.ifCond .ne 5, 3) := by decide +kernel
theorem dX4_change_48 : decode cX4_change 48 = .ok (.iconst 0, 1) := by decide +kernel
theorem dX4_change_49 : decode cX4_change 49 = .ok (.ireturn, 1) := by decide +kernel
theorem dX4_change_50 : decode cX4_change 50 = .ok (.aload_n 0, 1) := by decide +kernel
theorem dX4_change_51 : decode cX4_change 51 = .ok (.iload_n 1, 1) := by decide +kernel
theorem dX4_change_52 : decode cX4_change 52 = .ok (.invokevirtual 113, 3) := by decide +kernel
theorem dX4_change_55 : decode cX4_change 55 = .ok (.istore 5, 2) := by decide +kernel
theorem dX4_change_57 : decode cX4_change 57 = .ok (.aload_n 0, 1) := by decide +kernel
theorem dX4_change_58 : decode cX4_change 58 = .ok (.getfield 28, 3) := by decide +kernel
theorem dX4_change_61 : decode cX4_change 61 = .ok (.iload_n 1, 1) := by decide +kernel
theorem dX4_change_62 : decode cX4_change 62 = .ok (.iload_n 2, 1) := by decide +kernel
theorem dX4_change_63 : decode cX4_change 63 = .ok (.iastore, 1) := by decide +kernel
theorem dX4_change_64 : decode cX4_change 64 = .ok (.aload_n 0, 1) := by decide +kernel
theorem dX4_change_65 : decode cX4_change 65 = .ok (.getfield 31, 3) := by decide +kernel
theorem dX4_change_68 : decode cX4_change 68 = .ok (.iload_n 1, 1) := by decide +kernel
theorem dX4_change_69 : decode cX4_change 69 = .ok (.iload_n 3, 1) := by decide +kernel
theorem dX4_change_70 : decode cX4_change 70 = .ok (.iastore, 1) := by decide +kernel
theorem dX4_change_71 : decode cX4_change 71 = .ok (.aload_n 0, 1) := by decide +kernel
theorem dX4_change_72 : decode cX4_change 72 = .ok (.getfield 25, 3) := by decide +kernel
theorem dX4_change_75 : decode cX4_change 75 = .ok (.iload_n 1, 1) := by decide +kernel
theorem dX4_change_76 : decode cX4_change 76 = .ok (.aload_n 0, 1) := by decide +kernel
theorem dX4_change_77 : decode cX4_change 77 = .ok (.iload_n 2, 1) := by decide +kernel
theorem dX4_change_78 : decode cX4_change 78 = .ok (.invokevirtual 100, 3) := by decide +kernel
theorem dX4_change_81 : decode cX4_change 81 = .ok (.iastore, 1) := by decide +kernel
theorem dX4_change_82 : decode cX4_change 82 = .ok (.aload_n 0, 1) := by decide +kernel
theorem dX4_change_83 : decode cX4_change 83 = .ok (.iload_n 1, 1) := by decide +kernel
theorem dX4_change_84 : decode cX4_change 84 = .ok (.invokevirtual 113, 3) := by decide +kernel
theorem dX4_change_87 : decode cX4_change 87 = .ok (.iload 5, 2) := by decide +kernel
theorem dX4_change_89 : decode cX4_change 89 = .ok (.if_icmp .eq 7, 3) := by decide +kernel
theorem dX4_change_92 : decode cX4_change 92 = .ok (.iconst 1, 1) := by decide +kernel
theorem dX4_change_93 : decode cX4_change 93 = .ok (.goto 4, 3) := by decide +kernel
theorem dX4_change_96 : decode cX4_change 96 = .ok (.iconst 0, 1) := by decide +kernel
theorem dX4_change_97 : decode cX4_change 97 = .ok (.ireturn, 1) := by decide +kernel
set_option maxRecDepth 20000 in
theorem ggX4_remove_X4_isRow : GoodIn wsX4_remove wsX4_isRow := goodIn_r _ [7, 8, 1, 9, 10, 6, 11, 17, 18, 19, 20, 21, 22, 23, 24, 25, 26, 27, 28, 29] (by decide +kernel) (by decide +kernel)
set_option maxRecDepth 20000 in
theorem gX4_remove_X4_isRow : GoodIn wsX4_remove (wsV RX4 107 RX4 yX4_isRow wsX4_isRow) := goodIn_app (goodIn_of _ (by decide +kernel)) ggX4_remove_X4_isRow
set_option maxRecDepth 20000 in
theorem ggX4_remove_X4_isFine : GoodIn wsX4_remove wsX4_isFine := goodIn_r _ [15, 16, 17, 18, 19, 20, 21, 22, 23, 24, 25, 26, 27, 28, 29] (by decide +kernel) (by decide +kernel)
set_option maxRecDepth 20000 in
theorem gX4_remove_X4_isFine : GoodIn wsX4_remove (wsV RX4 75 RX4 yX4_isFine wsX4_isFine) := goodIn_app (goodIn_of _ (by decide +kernel)) ggX4_remove_X4_isFine
theorem dX4_remove_0 : decode cX4_remove 0 = .ok (.aload_n 0, 1) := by decide +kernel
theorem dX4_remove_1 : decode cX4_remove 1 = .ok (.aload_n 0, 1) := by decide +kernel
theorem dX4_remove_2 : decode cX4_remove 2 = .ok (.iload_n 1, 1) := by decide +kernel
theorem dX4_remove_3 : decode cX4_remove 3 = .ok (.invokevirtual 107, 3) := by decide +kernel
theorem dX4_remove_6 : decode cX4_remove 6 = .ok (.ifCond .eq 7, 3) := by decide +kernel
theorem dX4_remove_9 : decode cX4_remove 9 = .ok (.iconst 0, 1) := by decide +kernel
theorem dX4_remove_10 : decode cX4_remove 10 = .ok (.goto 4, 3) := by decide +kernel
theorem dX4_remove_13 : decode cX4_remove 13 = .ok (.iconst 1, 1) := by decide +kernel
theorem dX4_remove_14 : decode cX4_remove 14 = .ok (.invokevirtual 75, 3) := by decide +kernel
theorem dX4_remove_17 : decode cX4_remove 17 = .ok (.ifCond .ne 5, 3) := by decide +kernel
theorem dX4_remove_20 : decode cX4_remove 20 = .ok (.iconst 0, 1) := by decide +kernel
theorem dX4_remove_21 : decode cX4_remove 21 = .ok (.ireturn, 1) := by decide +kernel
theorem dX4_remove_22 : decode cX4_remove 22 = .ok (.aload_n 0, 1) := by decide +kernel
theorem dX4_remove_23 : decode cX4_remove 23 = .ok (.getfield 25, 3) := by decide +kernel
theorem dX4_remove_26 : decode cX4_remove 26 = .ok (.iload_n 1, 1) := by decide +kernel
theorem dX4_remove_27 : decode cX4_remove 27 = .ok (.iconst (-1), 1) := by decide +kernel
theorem dX4_remove_28 : decode cX4_remove 28 = .ok (.iastore, 1) := by decide +kernel
theorem dX4_remove_29 : decode cX4_remove 29 = .ok (.aload_n 0, 1) := by decide +kernel
theorem dX4_remove_30 : decode cX4_remove 30 = .ok (.getfield 34, 3) := by decide +kernel
theorem dX4_remove_33 : decode cX4_remove 33 = .ok (.iload_n 1, 1) := by decide +kernel
theorem dX4_remove_34 : decode cX4_remove 34 = .ok (.iaload, 1) := by decide +kernel
theorem dX4_remove_35 : decode cX4_remove 35 = .ok (.ireturn, 1) := by decide +kernel
theorem dX4_parts_0 : decode cX4_parts 0 = .ok (.aload_n 0, 1) := by decide +kernel
theorem dX4_parts_1 : decode cX4_parts 1 = .ok (.iconst 0, 1) := by decide +kernel
theorem dX4_parts_2 : decode cX4_parts 2 = .ok (.putfield 37, 3) := by decide +kernel
theorem dX4_parts_5 : decode cX4_parts 5 = .ok (.aload_n 0, 1) := by decide +kernel
theorem dX4_parts_6 : decode cX4_parts 6 = .ok (.getfield 45, 3) := by decide +kernel
theorem dX4_parts_9 : decode cX4_parts 9 = .ok (.ireturn, 1) := by decide +kernel
set_option maxRecDepth 20000 in
theorem ggX4_stateOf_X4_isIn : GoodIn wsX4_stateOf wsX4_isIn := goodIn_r _ [6] (by decide +kernel) (by decide +kernel)
set_option maxRecDepth 20000 in
theorem gX4_stateOf_X4_isIn : GoodIn wsX4_stateOf (va_wsS RX4 41 yX4_isIn wsX4_isIn) := goodIn_app (goodIn_of _ (by decide +kernel)) ggX4_stateOf_X4_isIn
set_option maxRecDepth 20000 in
theorem ggX4_stateOf_X4_isFine : GoodIn wsX4_stateOf wsX4_isFine := goodIn_r _ [10, 11, 12, 13, 14, 15, 16, 17, 18, 19, 20, 21, 22, 23, 24] (by decide +kernel) (by decide +kernel)
set_option maxRecDepth 20000 in
theorem gX4_stateOf_X4_isFine : GoodIn wsX4_stateOf (wsV RX4 75 RX4 yX4_isFine wsX4_isFine) := goodIn_app (goodIn_of _ (by decide +kernel)) ggX4_stateOf_X4_isFine
theorem dX4_stateOf_0 : decode cX4_stateOf 0 = .ok (.aload_n 0, 1) := by decide +kernel
theorem dX4_stateOf_1 : decode cX4_stateOf 1 = .ok (.iload_n 1, 1) := by decide +kernel
theorem dX4_stateOf_2 : decode cX4_stateOf 2 = .ok (.iconst 0, 1) := by decide +kernel
theorem dX4_stateOf_3 : decode cX4_stateOf 3 = .ok (.aload_n 0, 1) := by decide +kernel
theorem dX4_stateOf_4 : decode cX4_stateOf 4 = .ok (.getfield 45, 3) := by decide +kernel
theorem dX4_stateOf_7 : decode cX4_stateOf 7 = .ok (.invokestatic 41, 3) := by decide +kernel
theorem dX4_stateOf_10 : decode cX4_stateOf 10 = .ok (.ifCond .eq 7, 3) := by decide +kernel
theorem dX4_stateOf_13 : decode cX4_stateOf 13 = .ok (.iconst 0, 1) := by decide +kernel
theorem dX4_stateOf_14 : decode cX4_stateOf 14 = .ok (.goto 4, 3) := by decide +kernel
theorem dX4_stateOf_17 : decode cX4_stateOf 17 = .ok (.iconst 1, 1) := by decide +kernel
theorem dX4_stateOf_18 : decode cX4_stateOf 18 = .ok (.invokevirtual 75, 3) := by decide +kernel
theorem dX4_stateOf_21 : decode cX4_stateOf 21 = .ok (.ifCond .eq 12, 3) := by decide +kernel
theorem dX4_stateOf_24 : decode cX4_stateOf 24 = .ok (.aload_n 0, 1) := by decide +kernel
theorem dX4_stateOf_25 : decode cX4_stateOf 25 = .ok (.getfield 22, 3) := by decide +kernel
theorem dX4_stateOf_28 : decode cX4_stateOf 28 = .ok (.iload_n 1, 1) := by decide +kernel
theorem dX4_stateOf_29 : decode cX4_stateOf 29 = .ok (.iaload, 1) := by decide +kernel
theorem dX4_stateOf_30 : decode cX4_stateOf 30 = .ok (.goto 4, 3) := by decide +kernel
theorem dX4_stateOf_33 : decode cX4_stateOf 33 = .ok (.iconst 0, 1) := by decide +kernel
theorem dX4_stateOf_34 : decode cX4_stateOf 34 = .ok (.ireturn, 1) := by decide +kernel
set_option maxRecDepth 20000 in
theorem ggX4_partOf_X4_isKey : GoodIn wsX4_partOf wsX4_isKey := goodIn_r _ [4, 5, 6, 3, 7] (by decide +kernel) (by decide +kernel)
set_option maxRecDepth 20000 in
theorem gX4_partOf_X4_isKey : GoodIn wsX4_partOf (va_wsS RX4 62 yX4_isKey wsX4_isKey) := goodIn_app (goodIn_of _ (by decide +kernel)) ggX4_partOf_X4_isKey
set_option maxRecDepth 20000 in
theorem ggX4_partOf_X4_isFine : GoodIn wsX4_partOf wsX4_isFine := goodIn_r _ [11, 12, 29, 30, 31, 32, 33, 34, 35, 36, 37, 38, 39, 40, 41] (by decide +kernel) (by decide +kernel)
set_option maxRecDepth 20000 in
theorem gX4_partOf_X4_isFine : GoodIn wsX4_partOf (wsV RX4 75 RX4 yX4_isFine wsX4_isFine) := goodIn_app (goodIn_of _ (by decide +kernel)) ggX4_partOf_X4_isFine
set_option maxRecDepth 20000 in
theorem ggX4_partOf_X4_partWith : GoodIn wsX4_partOf wsX4_partWith := goodIn_r _ [16, 17, 18, 19, 20, 3, 21, 22, 23, 24, 25, 26, 27, 28, 5, 6, 7, 29, 30, 31, 32, 33, 34, 35, 36, 37, 38, 39, 40, 41] (by decide +kernel) (by decide +kernel)
set_option maxRecDepth 20000 in
theorem gX4_partOf_X4_partWith : GoodIn wsX4_partOf (wsV RX4 100 RX4 yX4_partWith wsX4_partWith) := goodIn_app (goodIn_of _ (by decide +kernel)) ggX4_partOf_X4_partWith
theorem dX4_partOf_0 : decode cX4_partOf 0 = .ok (.aload_n 0, 1) := by decide +kernel
theorem dX4_partOf_1 : decode cX4_partOf 1 = .ok (.iload_n 1, 1) := by decide +kernel
theorem dX4_partOf_2 : decode cX4_partOf 2 = .ok (.invokestatic 62, 3) := by decide +kernel
theorem dX4_partOf_5 : decode cX4_partOf 5 = .ok (.ifCond .eq 7, 3) := by decide +kernel
theorem dX4_partOf_8 : decode cX4_partOf 8 = .ok (.iconst 0, 1) := by decide +kernel
theorem dX4_partOf_9 : decode cX4_partOf 9 = .ok (.goto 4, 3) := by decide +kernel
theorem dX4_partOf_12 : decode cX4_partOf 12 = .ok (.iconst 1, 1) := by decide +kernel
theorem dX4_partOf_13 : decode cX4_partOf 13 = .ok (.invokevirtual 75, 3) := by decide +kernel
theorem dX4_partOf_16 : decode cX4_partOf 16 = .ok (.ifCond .eq 11, 3) := by decide +kernel
theorem dX4_partOf_19 : decode cX4_partOf 19 = .ok (.aload_n 0, 1) := by decide +kernel
theorem dX4_partOf_20 : decode cX4_partOf 20 = .ok (.iload_n 1, 1) := by decide +kernel
theorem dX4_partOf_21 : decode cX4_partOf 21 = .ok (.invokevirtual 100, 3) := by decide +kernel
theorem dX4_partOf_24 : decode cX4_partOf 24 = .ok (.goto 4, 3) := by decide +kernel
theorem dX4_partOf_27 : decode cX4_partOf 27 = .ok (.iconst 0, 1) := by decide +kernel
theorem dX4_partOf_28 : decode cX4_partOf 28 = .ok (.ireturn, 1) := by decide +kernel
set_option maxRecDepth 20000 in
theorem ggX4_leafOf_X4_isRow : GoodIn wsX4_leafOf wsX4_isRow := goodIn_r _ [5, 6, 7, 8, 9, 4, 10, 28, 29, 30, 31, 32, 33, 34, 35, 36, 37, 38, 39, 40] (by decide +kernel) (by decide +kernel)
set_option maxRecDepth 20000 in
theorem gX4_leafOf_X4_isRow : GoodIn wsX4_leafOf (wsV RX4 107 RX4 yX4_isRow wsX4_isRow) := goodIn_app (goodIn_of _ (by decide +kernel)) ggX4_leafOf_X4_isRow
set_option maxRecDepth 20000 in
theorem ggX4_leafOf_X4_isFine : GoodIn wsX4_leafOf wsX4_isFine := goodIn_r _ [14, 15, 28, 29, 30, 31, 32, 33, 34, 35, 36, 37, 38, 39, 40] (by decide +kernel) (by decide +kernel)
set_option maxRecDepth 20000 in
theorem gX4_leafOf_X4_isFine : GoodIn wsX4_leafOf (wsV RX4 75 RX4 yX4_isFine wsX4_isFine) := goodIn_app (goodIn_of _ (by decide +kernel)) ggX4_leafOf_X4_isFine
set_option maxRecDepth 20000 in
theorem ggX4_leafOf_X4_place : GoodIn wsX4_leafOf wsX4_place := goodIn_r _ [19, 7, 20, 21, 22, 23, 24, 4, 25, 26, 27, 28, 29, 30, 31, 32, 33, 34, 35, 36, 37, 38, 39, 40] (by decide +kernel) (by decide +kernel)
set_option maxRecDepth 20000 in
theorem gX4_leafOf_X4_place : GoodIn wsX4_leafOf (wsV RX4 113 RX4 yX4_place wsX4_place) := goodIn_app (goodIn_of _ (by decide +kernel)) ggX4_leafOf_X4_place
theorem dX4_leafOf_0 : decode cX4_leafOf 0 = .ok (.aload_n 0, 1) := by decide +kernel
theorem dX4_leafOf_1 : decode cX4_leafOf 1 = .ok (.aload_n 0, 1) := by decide +kernel
theorem dX4_leafOf_2 : decode cX4_leafOf 2 = .ok (.iload_n 1, 1) := by decide +kernel
theorem dX4_leafOf_3 : decode cX4_leafOf 3 = .ok (.invokevirtual 107, 3) := by decide +kernel
theorem dX4_leafOf_6 : decode cX4_leafOf 6 = .ok (.ifCond .eq 7, 3) := by decide +kernel
theorem dX4_leafOf_9 : decode cX4_leafOf 9 = .ok (.iconst 0, 1) := by decide +kernel
theorem dX4_leafOf_10 : decode cX4_leafOf 10 = .ok (.goto 4, 3) := by decide +kernel
theorem dX4_leafOf_13 : decode cX4_leafOf 13 = .ok (.iconst 1, 1) := by decide +kernel
theorem dX4_leafOf_14 : decode cX4_leafOf 14 = .ok (.invokevirtual 75, 3) := by decide +kernel
theorem dX4_leafOf_17 : decode cX4_leafOf 17 = .ok (.ifCond .eq 11, 3) := by decide +kernel
theorem dX4_leafOf_20 : decode cX4_leafOf 20 = .ok (.aload_n 0, 1) := by decide +kernel
theorem dX4_leafOf_21 : decode cX4_leafOf 21 = .ok (.iload_n 1, 1) := by decide +kernel
theorem dX4_leafOf_22 : decode cX4_leafOf 22 = .ok (.invokevirtual 113, 3) := by decide +kernel
theorem dX4_leafOf_25 : decode cX4_leafOf 25 = .ok (.goto 4, 3) := by decide +kernel
theorem dX4_leafOf_28 : decode cX4_leafOf 28 = .ok (.iconst 0, 1) := by decide +kernel
theorem dX4_leafOf_29 : decode cX4_leafOf 29 = .ok (.ireturn, 1) := by decide +kernel
set_option maxRecDepth 20000 in
theorem ggX4_isLeaf_X4_isAny : GoodIn wsX4_isLeaf wsX4_isAny := goodIn_r _ [5, 6, 7, 8, 4, 9, 10, 11, 12, 13, 14, 21, 22, 23, 24, 25, 26, 27, 28, 29, 30, 31, 32, 33] (by decide +kernel) (by decide +kernel)
set_option maxRecDepth 20000 in
theorem gX4_isLeaf_X4_isAny : GoodIn wsX4_isLeaf (wsV RX4 116 RX4 yX4_isAny wsX4_isAny) := goodIn_app (goodIn_of _ (by decide +kernel)) ggX4_isLeaf_X4_isAny
set_option maxRecDepth 20000 in
theorem ggX4_isLeaf_X4_leaves : GoodIn wsX4_isLeaf wsX4_leaves := goodIn_r _ [18, 19, 20, 21, 22, 23, 24, 25, 26, 27, 28, 29, 30, 31, 32, 33] (by decide +kernel) (by decide +kernel)
set_option maxRecDepth 20000 in
theorem gX4_isLeaf_X4_leaves : GoodIn wsX4_isLeaf (wsV RX4 119 RX4 yX4_leaves wsX4_leaves) := goodIn_app (goodIn_of _ (by decide +kernel)) ggX4_isLeaf_X4_leaves
set_option maxRecDepth 20000 in
theorem ggX4_isLeaf_X4_isIn : GoodIn wsX4_isLeaf wsX4_isIn := goodIn_r _ [14] (by decide +kernel) (by decide +kernel)
set_option maxRecDepth 20000 in
theorem gX4_isLeaf_X4_isIn : GoodIn wsX4_isLeaf (va_wsS RX4 41 yX4_isIn wsX4_isIn) := goodIn_app (goodIn_of _ (by decide +kernel)) ggX4_isLeaf_X4_isIn
theorem dX4_isLeaf_0 : decode cX4_isLeaf 0 = .ok (.aload_n 0, 1) := by decide +kernel
theorem dX4_isLeaf_1 : decode cX4_isLeaf 1 = .ok (.iload_n 1, 1) := by decide +kernel
theorem dX4_isLeaf_2 : decode cX4_isLeaf 2 = .ok (.invokevirtual 116, 3) := by decide +kernel
theorem dX4_isLeaf_5 : decode cX4_isLeaf 5 = .ok (.ifCond .eq 22, 3) := by decide +kernel
theorem dX4_isLeaf_8 : decode cX4_isLeaf 8 = .ok (.iload_n 2, 1) := by decide +kernel
theorem dX4_isLeaf_9 : decode cX4_isLeaf 9 = .ok (.iconst 0, 1) := by decide +kernel
theorem dX4_isLeaf_10 : decode cX4_isLeaf 10 = .ok (.aload_n 0, 1) := by decide +kernel
theorem dX4_isLeaf_11 : decode cX4_isLeaf 11 = .ok (.iload_n 1, 1) := by decide +kernel
theorem dX4_isLeaf_12 : decode cX4_isLeaf 12 = .ok (.invokevirtual 119, 3) := by decide +kernel
theorem dX4_isLeaf_15 : decode cX4_isLeaf 15 = .ok (.iconst 1, 1) := by decide +kernel
theorem dX4_isLeaf_16 : decode cX4_isLeaf 16 = .ok (.isub, 1) := by decide +kernel
theorem dX4_isLeaf_17 : decode cX4_isLeaf 17 = .ok (.invokestatic 41, 3) := by decide +kernel
theorem dX4_isLeaf_20 : decode cX4_isLeaf 20 = .ok (.ifCond .eq 7, 3) := by decide +kernel
theorem dX4_isLeaf_23 : decode cX4_isLeaf 23 = .ok (.iconst 1, 1) := by decide +kernel
theorem dX4_isLeaf_24 : decode cX4_isLeaf 24 = .ok (.goto 4, 3) := by decide +kernel
theorem dX4_isLeaf_27 : decode cX4_isLeaf 27 = .ok (.iconst 0, 1) := by decide +kernel
theorem dX4_isLeaf_28 : decode cX4_isLeaf 28 = .ok (.ireturn, 1) := by decide +kernel
set_option maxRecDepth 20000 in
theorem ggX4_rowsIn_X4_isLeaf : GoodIn wsX4_rowsIn wsX4_isLeaf := goodIn_r _ [9, 10, 11, 12, 8, 13, 14, 15, 16, 17, 18, 19, 20, 21, 22, 23, 24, 25, 26, 27, 28, 38, 39, 40, 41, 42, 43, 44, 45, 46, 47, 48, 49, 50] (by decide +kernel) (by decide +kernel)
set_option maxRecDepth 20000 in
theorem gX4_rowsIn_X4_isLeaf : GoodIn wsX4_rowsIn (wsV RX4 122 RX4 yX4_isLeaf wsX4_isLeaf) := goodIn_app (goodIn_of _ (by decide +kernel)) ggX4_rowsIn_X4_isLeaf
set_option maxRecDepth 20000 in
theorem ggX4_rowsIn_X4_isFine : GoodIn wsX4_rowsIn wsX4_isFine := goodIn_r _ [32, 33, 38, 39, 40, 41, 42, 43, 44, 45, 46, 47, 48, 49, 50] (by decide +kernel) (by decide +kernel)
set_option maxRecDepth 20000 in
theorem gX4_rowsIn_X4_isFine : GoodIn wsX4_rowsIn (wsV RX4 75 RX4 yX4_isFine wsX4_isFine) := goodIn_app (goodIn_of _ (by decide +kernel)) ggX4_rowsIn_X4_isFine
set_option maxRecDepth 20000 in
theorem ggX4_rowsIn_X4_leaf : GoodIn wsX4_rowsIn wsX4_leaf := goodIn_r _ [37, 27, 28, 38, 39, 40, 41, 42, 43, 44, 45, 46, 47, 48, 49, 50] (by decide +kernel) (by decide +kernel)
set_option maxRecDepth 20000 in
theorem gX4_rowsIn_X4_leaf : GoodIn wsX4_rowsIn (wsV RX4 103 RX4 yX4_leaf wsX4_leaf) := goodIn_app (goodIn_of _ (by decide +kernel)) ggX4_rowsIn_X4_leaf
theorem dX4_rowsIn_0 : decode cX4_rowsIn 0 = .ok (.aload_n 0, 1) := by decide +kernel
theorem dX4_rowsIn_1 : decode cX4_rowsIn 1 = .ok (.aload_n 0, 1) := by decide +kernel
theorem dX4_rowsIn_2 : decode cX4_rowsIn 2 = .ok (.iload_n 1, 1) := by decide +kernel
theorem dX4_rowsIn_3 : decode cX4_rowsIn 3 = .ok (.iload_n 2, 1) := by decide +kernel
theorem dX4_rowsIn_4 : decode cX4_rowsIn 4 = .ok (.invokevirtual 122, 3) := by decide +kernel
theorem dX4_rowsIn_7 : decode cX4_rowsIn 7 = .ok (.ifCond .eq 7, 3) := by decide +kernel
theorem dX4_rowsIn_10 : decode cX4_rowsIn 10 = .ok (.iconst 0, 1) := by decide +kernel
theorem dX4_rowsIn_11 : decode cX4_rowsIn 11 = .ok (.goto 4, 3) := by decide +kernel
theorem dX4_rowsIn_14 : decode cX4_rowsIn 14 = .ok (.iconst 1, 1) := by decide +kernel
theorem dX4_rowsIn_15 : decode cX4_rowsIn 15 = .ok (.invokevirtual 75, 3) := by decide +kernel
theorem dX4_rowsIn_18 : decode cX4_rowsIn 18 = .ok (.ifCond .ne 5, 3) := by decide +kernel
theorem dX4_rowsIn_21 : decode cX4_rowsIn 21 = .ok (.iconst 0, 1) := by decide +kernel
theorem dX4_rowsIn_22 : decode cX4_rowsIn 22 = .ok (.ireturn, 1) := by decide +kernel
theorem dX4_rowsIn_23 : decode cX4_rowsIn 23 = .ok (.iconst 0, 1) := by decide +kernel
theorem dX4_rowsIn_24 : decode cX4_rowsIn 24 = .ok (.istore_n 3, 1) := by decide +kernel
theorem dX4_rowsIn_25 : decode cX4_rowsIn 25 = .ok (.iconst 0, 1) := by decide +kernel
theorem dX4_rowsIn_26 : decode cX4_rowsIn 26 = .ok (.istore 4, 2) := by decide +kernel
theorem dX4_rowsIn_28 : decode cX4_rowsIn 28 = .ok (.iload 4, 2) := by decide +kernel
theorem dX4_rowsIn_30 : decode cX4_rowsIn 30 = .ok (.aload_n 0, 1) := by decide +kernel
theorem dX4_rowsIn_31 : decode cX4_rowsIn 31 = .ok (.getfield 52, 3) := by decide +kernel
theorem dX4_rowsIn_34 : decode cX4_rowsIn 34 = .ok (.if_icmp .ge 51, 3) := by decide +kernel
theorem dX4_rowsIn_37 : decode cX4_rowsIn 37 = .ok (.iload_n 3, 1) := by decide +kernel
theorem dX4_rowsIn_38 : decode cX4_rowsIn 38 = .ok (.aload_n 0, 1) := by decide +kernel
theorem dX4_rowsIn_39 : decode cX4_rowsIn 39 = .ok (.getfield 25, 3) := by decide +kernel
theorem dX4_rowsIn_42 : decode cX4_rowsIn 42 = .ok (.iload 4, 2) := by decide +kernel
theorem dX4_rowsIn_44 : decode cX4_rowsIn 44 = .ok (.iaload, 1) := by decide +kernel
theorem dX4_rowsIn_45 : decode cX4_rowsIn 45 = .ok (.iload_n 1, 1) := by decide +kernel
theorem dX4_rowsIn_46 : decode cX4_rowsIn 46 = .ok (.if_icmp .ne 30, 3) := by decide +kernel
theorem dX4_rowsIn_49 : decode cX4_rowsIn 49 = .ok (.aload_n 0, 1) := by decide +kernel
theorem dX4_rowsIn_50 : decode cX4_rowsIn 50 = .ok (.iload_n 1, 1) := by decide +kernel
theorem dX4_rowsIn_51 : decode cX4_rowsIn 51 = .ok (.aload_n 0, 1) := by decide +kernel
theorem dX4_rowsIn_52 : decode cX4_rowsIn 52 = .ok (.getfield 28, 3) := by decide +kernel
theorem dX4_rowsIn_55 : decode cX4_rowsIn 55 = .ok (.iload 4, 2) := by decide +kernel
theorem dX4_rowsIn_57 : decode cX4_rowsIn 57 = .ok (.iaload, 1) := by decide +kernel
theorem dX4_rowsIn_58 : decode cX4_rowsIn 58 = .ok (.aload_n 0, 1) := by decide +kernel
theorem dX4_rowsIn_59 : decode cX4_rowsIn 59 = .ok (.getfield 31, 3) := by decide +kernel
theorem dX4_rowsIn_62 : decode cX4_rowsIn 62 = .ok (.iload 4, 2) := by decide +kernel
theorem dX4_rowsIn_64 : decode cX4_rowsIn 64 = .ok (.iaload, 1) := by decide +kernel
theorem dX4_rowsIn_65 : decode cX4_rowsIn 65 = .ok (.invokevirtual 103, 3) := by decide +kernel
theorem dX4_rowsIn_68 : decode cX4_rowsIn 68 = .ok (.iload_n 2, 1) := by decide +kernel
theorem dX4_rowsIn_69 : decode cX4_rowsIn 69 = .ok (.if_icmp .ne 7, 3) := by decide +kernel
theorem dX4_rowsIn_72 : decode cX4_rowsIn 72 = .ok (.iconst 1, 1) := by decide +kernel
theorem dX4_rowsIn_73 : decode cX4_rowsIn 73 = .ok (.goto 4, 3) := by decide +kernel
theorem dX4_rowsIn_76 : decode cX4_rowsIn 76 = .ok (.iconst 0, 1) := by decide +kernel
theorem dX4_rowsIn_77 : decode cX4_rowsIn 77 = .ok (.iadd, 1) := by decide +kernel
theorem dX4_rowsIn_78 : decode cX4_rowsIn 78 = .ok (.istore_n 3, 1) := by decide +kernel
theorem dX4_rowsIn_79 : decode cX4_rowsIn 79 = .ok (.iinc 4 1, 3) := by decide +kernel
theorem dX4_rowsIn_82 : decode cX4_rowsIn 82 = .ok (.goto (-54), 3) := by decide +kernel
theorem dX4_rowsIn_85 : decode cX4_rowsIn 85 = .ok (.iload_n 3, 1) := by decide +kernel
theorem dX4_rowsIn_86 : decode cX4_rowsIn 86 = .ok (.ireturn, 1) := by decide +kernel
set_option maxRecDepth 20000 in
theorem ggX4_rows_X4_isTabled : GoodIn wsX4_rows wsX4_isTabled := goodIn_r _ [7, 8, 9, 10, 11, 12, 13, 14, 15, 16, 17, 18, 19, 20, 21, 22] (by decide +kernel) (by decide +kernel)
set_option maxRecDepth 20000 in
theorem gX4_rows_X4_isTabled : GoodIn wsX4_rows (wsV RX4 110 RX4 yX4_isTabled wsX4_isTabled) := goodIn_app (goodIn_of _ (by decide +kernel)) ggX4_rows_X4_isTabled
theorem dX4_rows_0 : decode cX4_rows 0 = .ok (.aload_n 0, 1) := by decide +kernel
theorem dX4_rows_1 : decode cX4_rows 1 = .ok (.iconst 0, 1) := by decide +kernel
theorem dX4_rows_2 : decode cX4_rows 2 = .ok (.putfield 37, 3) := by decide +kernel
theorem dX4_rows_5 : decode cX4_rows 5 = .ok (.iconst 0, 1) := by decide +kernel
theorem dX4_rows_6 : decode cX4_rows 6 = .ok (.istore_n 1, 1) := by decide +kernel
theorem dX4_rows_7 : decode cX4_rows 7 = .ok (.iconst 0, 1) := by decide +kernel
theorem dX4_rows_8 : decode cX4_rows 8 = .ok (.istore_n 2, 1) := by decide +kernel
theorem dX4_rows_9 : decode cX4_rows 9 = .ok (.iload_n 2, 1) := by decide +kernel
theorem dX4_rows_10 : decode cX4_rows 10 = .ok (.aload_n 0, 1) := by decide +kernel
theorem dX4_rows_11 : decode cX4_rows 11 = .ok (.getfield 52, 3) := by decide +kernel
theorem dX4_rows_14 : decode cX4_rows 14 = .ok (.if_icmp .ge 25, 3) := by decide +kernel
theorem dX4_rows_17 : decode cX4_rows 17 = .ok (.iload_n 1, 1) := by decide +kernel
theorem dX4_rows_18 : decode cX4_rows 18 = .ok (.aload_n 0, 1) := by decide +kernel
theorem dX4_rows_19 : decode cX4_rows 19 = .ok (.iload_n 2, 1) := by decide +kernel
theorem dX4_rows_20 : decode cX4_rows 20 = .ok (.invokevirtual 110, 3) := by decide +kernel
theorem dX4_rows_23 : decode cX4_rows 23 = .ok (.ifCond .eq 7, 3) := by decide +kernel
theorem dX4_rows_26 : decode cX4_rows 26 = .ok (.iconst 1, 1) := by decide +kernel
theorem dX4_rows_27 : decode cX4_rows 27 = .ok (.goto 4, 3) := by decide +kernel
theorem dX4_rows_30 : decode cX4_rows 30 = .ok (.iconst 0, 1) := by decide +kernel
theorem dX4_rows_31 : decode cX4_rows 31 = .ok (.iadd, 1) := by decide +kernel
theorem dX4_rows_32 : decode cX4_rows 32 = .ok (.istore_n 1, 1) := by decide +kernel
theorem dX4_rows_33 : decode cX4_rows 33 = .ok (.iinc 2 1, 3) := by decide +kernel
theorem dX4_rows_36 : decode cX4_rows 36 = .ok (.goto (-27), 3) := by decide +kernel
theorem dX4_rows_39 : decode cX4_rows 39 = .ok (.iload_n 1, 1) := by decide +kernel
theorem dX4_rows_40 : decode cX4_rows 40 = .ok (.ireturn, 1) := by decide +kernel
set_option maxRecDepth 20000 in
theorem ggX4_isQuestion_X4_isKey : GoodIn wsX4_isQuestion wsX4_isKey := goodIn_r _ [4, 5, 6, 3, 7] (by decide +kernel) (by decide +kernel)
set_option maxRecDepth 20000 in
theorem gX4_isQuestion_X4_isKey : GoodIn wsX4_isQuestion (va_wsS RX4 62 yX4_isKey wsX4_isKey) := goodIn_app (goodIn_of _ (by decide +kernel)) ggX4_isQuestion_X4_isKey
set_option maxRecDepth 20000 in
theorem ggX4_isQuestion_X4_isIn : GoodIn wsX4_isQuestion wsX4_isIn := goodIn_r _ [7] (by decide +kernel) (by decide +kernel)
set_option maxRecDepth 20000 in
theorem gX4_isQuestion_X4_isIn : GoodIn wsX4_isQuestion (va_wsS RX4 41 yX4_isIn wsX4_isIn) := goodIn_app (goodIn_of _ (by decide +kernel)) ggX4_isQuestion_X4_isIn
theorem dX4_isQuestion_0 : decode cX4_isQuestion 0 = .ok (.iload_n 0, 1) := by decide +kernel
theorem dX4_isQuestion_1 : decode cX4_isQuestion 1 = .ok (.invokestatic 62, 3) := by decide +kernel
theorem dX4_isQuestion_4 : decode cX4_isQuestion 4 = .ok (.ifCond .eq 29, 3) := by decide +kernel
theorem dX4_isQuestion_7 : decode cX4_isQuestion 7 = .ok (.iload_n 1, 1) := by decide +kernel
theorem dX4_isQuestion_8 : decode cX4_isQuestion 8 = .ok (.iload_n 0, 1) := by decide +kernel
theorem dX4_isQuestion_9 : decode cX4_isQuestion 9 = .ok (.sipush 999, 3) := by decide +kernel
theorem dX4_isQuestion_12 : decode cX4_isQuestion 12 = .ok (.invokestatic 41, 3) := by decide +kernel
theorem dX4_isQuestion_15 : decode cX4_isQuestion 15 = .ok (.ifCond .eq 18, 3) := by decide +kernel
theorem dX4_isQuestion_18 : decode cX4_isQuestion 18 = .ok (.iload_n 2, 1) := by decide +kernel
theorem dX4_isQuestion_19 : decode cX4_isQuestion 19 = .ok (.iconst 0, 1) := by decide +kernel
theorem dX4_isQuestion_20 : decode cX4_isQuestion 20 = .ok (.sipush 1023, 3) := by decide +kernel
theorem dX4_isQuestion_23 : decode cX4_isQuestion 23 = .ok (.invokestatic 41, 3) := by decide +kernel
theorem dX4_isQuestion_26 : decode cX4_isQuestion 26 = .ok (.ifCond .eq 7, 3) := by decide +kernel
theorem dX4_isQuestion_29 : decode cX4_isQuestion 29 = .ok (.iconst 1, 1) := by decide +kernel
theorem dX4_isQuestion_30 : decode cX4_isQuestion 30 = .ok (.goto 4, 3) := by decide +kernel
theorem dX4_isQuestion_33 : decode cX4_isQuestion 33 = .ok (.iconst 0, 1) := by decide +kernel
theorem dX4_isQuestion_34 : decode cX4_isQuestion 34 = .ok (.ireturn, 1) := by decide +kernel
set_option maxRecDepth 20000 in
theorem ggX4_counted_X4_isTabled : GoodIn wsX4_counted wsX4_isTabled := goodIn_r _ [8, 9, 10, 14, 15, 16, 17, 18, 19, 20, 21, 22, 23, 24, 25, 26] (by decide +kernel) (by decide +kernel)
set_option maxRecDepth 20000 in
theorem gX4_counted_X4_isTabled : GoodIn wsX4_counted (wsV RX4 110 RX4 yX4_isTabled wsX4_isTabled) := goodIn_app (goodIn_of _ (by decide +kernel)) ggX4_counted_X4_isTabled
set_option maxRecDepth 20000 in
theorem ggX4_counted_X4_isIn : GoodIn wsX4_counted wsX4_isIn := goodIn_r _ [13] (by decide +kernel) (by decide +kernel)
set_option maxRecDepth 20000 in
theorem gX4_counted_X4_isIn : GoodIn wsX4_counted (va_wsS RX4 41 yX4_isIn wsX4_isIn) := goodIn_app (goodIn_of _ (by decide +kernel)) ggX4_counted_X4_isIn
theorem dX4_counted_0 : decode cX4_counted 0 = .ok (.iconst 0, 1) := by decide +kernel
theorem dX4_counted_1 : decode cX4_counted 1 = .ok (.istore 4, 2) := by decide +kernel
theorem dX4_counted_3 : decode cX4_counted 3 = .ok (.iconst 0, 1) := by decide +kernel
theorem dX4_counted_4 : decode cX4_counted 4 = .ok (.istore 5, 2) := by decide +kernel
theorem dX4_counted_6 : decode cX4_counted 6 = .ok (.iload 5, 2) := by decide +kernel
theorem dX4_counted_8 : decode cX4_counted 8 = .ok (.aload_n 0, 1) := by decide +kernel
theorem dX4_counted_9 : decode cX4_counted 9 = .ok (.getfield 52, 3) := by decide +kernel
theorem dX4_counted_12 : decode cX4_counted 12 = .ok (.if_icmp .ge 58, 3) := by decide +kernel
theorem dX4_counted_15 : decode cX4_counted 15 = .ok (.iload 4, 2) := by decide +kernel
theorem dX4_counted_17 : decode cX4_counted 17 = .ok (.aload_n 0, 1) := by decide +kernel
theorem dX4_counted_18 : decode cX4_counted 18 = .ok (.iload 5, 2) := by decide +kernel
theorem dX4_counted_20 : decode cX4_counted 20 = .ok (.invokevirtual 110, 3) := by decide +kernel
theorem dX4_counted_23 : decode cX4_counted 23 = .ok (.ifCond .eq 37, 3) := by decide +kernel
theorem dX4_counted_26 : decode cX4_counted 26 = .ok (.aload_n 0, 1) := by decide +kernel
theorem dX4_counted_27 : decode cX4_counted 27 = .ok (.getfield 28, 3) := by decide +kernel
theorem dX4_counted_30 : decode cX4_counted 30 = .ok (.iload 5, 2) := by decide +kernel
theorem dX4_counted_32 : decode cX4_counted 32 = .ok (.iaload, 1) := by decide +kernel
theorem dX4_counted_33 : decode cX4_counted 33 = .ok (.iload_n 1, 1) := by decide +kernel
theorem dX4_counted_34 : decode cX4_counted 34 = .ok (.iload_n 2, 1) := by decide +kernel
theorem dX4_counted_35 : decode cX4_counted 35 = .ok (.invokestatic 41, 3) := by decide +kernel
theorem dX4_counted_38 : decode cX4_counted 38 = .ok (.ifCond .eq 22, 3) := by decide +kernel
theorem dX4_counted_41 : decode cX4_counted 41 = .ok (.iload_n 3, 1) := by decide +kernel
theorem dX4_counted_42 : decode cX4_counted 42 = .ok (.aload_n 0, 1) := by decide +kernel
theorem dX4_counted_43 : decode cX4_counted 43 = .ok (.getfield 31, 3) := by decide +kernel
theorem dX4_counted_46 : decode cX4_counted 46 = .ok (.iload 5, 2) := by decide +kernel
theorem dX4_counted_48 : decode cX4_counted 48 = .ok (.iaload, 1) := by decide +kernel
theorem dX4_counted_49 : decode cX4_counted 49 = .ok (.ishr, 1) := by decide +kernel
theorem dX4_counted_50 : decode cX4_counted 50 = .ok (.iconst 1, 1) := by decide +kernel
theorem dX4_counted_51 : decode cX4_counted 51 = .ok (.iand, 1) := by decide +kernel
theorem dX4_counted_52 : decode cX4_counted 52 = .ok (.iconst 1, 1) := by decide +kernel
theorem dX4_counted_53 : decode cX4_counted 53 = .ok (.if_icmp .ne 7, 3) := by decide +kernel
theorem dX4_counted_56 : decode cX4_counted 56 = .ok (.iconst 1, 1) := by decide +kernel
theorem dX4_counted_57 : decode cX4_counted 57 = .ok (.goto 4, 3) := by decide +kernel
theorem dX4_counted_60 : decode cX4_counted 60 = .ok (.iconst 0, 1) := by decide +kernel
theorem dX4_counted_61 : decode cX4_counted 61 = .ok (.iadd, 1) := by decide +kernel
theorem dX4_counted_62 : decode cX4_counted 62 = .ok (.istore 4, 2) := by decide +kernel
theorem dX4_counted_64 : decode cX4_counted 64 = .ok (.iinc 5 1, 3) := by decide +kernel
theorem dX4_counted_67 : decode cX4_counted 67 = .ok (.goto (-61), 3) := by decide +kernel
theorem dX4_counted_70 : decode cX4_counted 70 = .ok (.iload 4, 2) := by decide +kernel
theorem dX4_counted_72 : decode cX4_counted 72 = .ok (.ireturn, 1) := by decide +kernel
set_option maxRecDepth 20000 in
theorem ggX4_count_X4_isQuestion : GoodIn wsX4_count wsX4_isQuestion := goodIn_r _ [4, 5, 6, 3, 7, 8, 9, 10] (by decide +kernel) (by decide +kernel)
set_option maxRecDepth 20000 in
theorem gX4_count_X4_isQuestion : GoodIn wsX4_count (va_wsS RX4 125 yX4_isQuestion wsX4_isQuestion) := goodIn_app (goodIn_of _ (by decide +kernel)) ggX4_count_X4_isQuestion
set_option maxRecDepth 20000 in
theorem ggX4_count_X4_isFine : GoodIn wsX4_count wsX4_isFine := goodIn_r _ [14, 15, 29, 30, 31, 32, 33, 34, 35, 36, 37, 38, 39, 40, 41] (by decide +kernel) (by decide +kernel)
set_option maxRecDepth 20000 in
theorem gX4_count_X4_isFine : GoodIn wsX4_count (wsV RX4 75 RX4 yX4_isFine wsX4_isFine) := goodIn_app (goodIn_of _ (by decide +kernel)) ggX4_count_X4_isFine
set_option maxRecDepth 20000 in
theorem ggX4_count_X4_counted : GoodIn wsX4_count wsX4_counted := goodIn_r _ [19, 20, 21, 22, 23, 24, 25, 3, 26, 27, 28, 8, 9, 10, 29, 30, 31, 32, 33, 34, 35, 36, 37, 38, 39, 40, 41] (by decide +kernel) (by decide +kernel)
set_option maxRecDepth 20000 in
theorem gX4_count_X4_counted : GoodIn wsX4_count (wsV RX4 128 RX4 yX4_counted wsX4_counted) := goodIn_app (goodIn_of _ (by decide +kernel)) ggX4_count_X4_counted
theorem dX4_count_0 : decode cX4_count 0 = .ok (.aload_n 0, 1) := by decide +kernel
theorem dX4_count_1 : decode cX4_count 1 = .ok (.iload_n 1, 1) := by decide +kernel
theorem dX4_count_2 : decode cX4_count 2 = .ok (.iload_n 2, 1) := by decide +kernel
theorem dX4_count_3 : decode cX4_count 3 = .ok (.iload_n 3, 1) := by decide +kernel
theorem dX4_count_4 : decode cX4_count 4 = .ok (.invokestatic 125, 3) := by decide +kernel
theorem dX4_count_7 : decode cX4_count 7 = .ok (.ifCond .eq 7, 3) := by decide +kernel
theorem dX4_count_10 : decode cX4_count 10 = .ok (.iconst 0, 1) := by decide +kernel
theorem dX4_count_11 : decode cX4_count 11 = .ok (.goto 4, 3) := by decide +kernel
theorem dX4_count_14 : decode cX4_count 14 = .ok (.iconst 1, 1) := by decide +kernel
theorem dX4_count_15 : decode cX4_count 15 = .ok (.invokevirtual 75, 3) := by decide +kernel
theorem dX4_count_18 : decode cX4_count 18 = .ok (.ifCond .eq 13, 3) := by decide +kernel
theorem dX4_count_21 : decode cX4_count 21 = .ok (.aload_n 0, 1) := by decide +kernel
theorem dX4_count_22 : decode cX4_count 22 = .ok (.iload_n 1, 1) := by decide +kernel
theorem dX4_count_23 : decode cX4_count 23 = .ok (.iload_n 2, 1) := by decide +kernel
theorem dX4_count_24 : decode cX4_count 24 = .ok (.iload_n 3, 1) := by decide +kernel
theorem dX4_count_25 : decode cX4_count 25 = .ok (.invokevirtual 128, 3) := by decide +kernel
theorem dX4_count_28 : decode cX4_count 28 = .ok (.goto 4, 3) := by decide +kernel
theorem dX4_count_31 : decode cX4_count 31 = .ok (.iconst 0, 1) := by decide +kernel
theorem dX4_count_32 : decode cX4_count 32 = .ok (.ireturn, 1) := by decide +kernel
set_option maxRecDepth 20000 in
theorem ggX4_countPlain_X4_isQuestion : GoodIn wsX4_countPlain wsX4_isQuestion := goodIn_r _ [4, 5, 6, 3, 7, 8, 9, 10] (by decide +kernel) (by decide +kernel)
set_option maxRecDepth 20000 in
theorem gX4_countPlain_X4_isQuestion : GoodIn wsX4_countPlain (va_wsS RX4 125 yX4_isQuestion wsX4_isQuestion) := goodIn_app (goodIn_of _ (by decide +kernel)) ggX4_countPlain_X4_isQuestion
set_option maxRecDepth 20000 in
theorem ggX4_countPlain_X4_isFine : GoodIn wsX4_countPlain wsX4_isFine := goodIn_r _ [14, 15, 29, 30, 31, 32, 33, 34, 35, 36, 37, 38, 39, 40, 41] (by decide +kernel) (by decide +kernel)
set_option maxRecDepth 20000 in
theorem gX4_countPlain_X4_isFine : GoodIn wsX4_countPlain (wsV RX4 75 RX4 yX4_isFine wsX4_isFine) := goodIn_app (goodIn_of _ (by decide +kernel)) ggX4_countPlain_X4_isFine
set_option maxRecDepth 20000 in
theorem ggX4_countPlain_X4_counted : GoodIn wsX4_countPlain wsX4_counted := goodIn_r _ [19, 20, 21, 22, 23, 24, 25, 3, 26, 27, 28, 8, 9, 10, 29, 30, 31, 32, 33, 34, 35, 36, 37, 38, 39, 40, 41] (by decide +kernel) (by decide +kernel)
set_option maxRecDepth 20000 in
theorem gX4_countPlain_X4_counted : GoodIn wsX4_countPlain (wsV RX4 128 RX4 yX4_counted wsX4_counted) := goodIn_app (goodIn_of _ (by decide +kernel)) ggX4_countPlain_X4_counted
theorem dX4_countPlain_0 : decode cX4_countPlain 0 = .ok (.aload_n 0, 1) := by decide +kernel
theorem dX4_countPlain_1 : decode cX4_countPlain 1 = .ok (.iload_n 1, 1) := by decide +kernel
theorem dX4_countPlain_2 : decode cX4_countPlain 2 = .ok (.iload_n 2, 1) := by decide +kernel
theorem dX4_countPlain_3 : decode cX4_countPlain 3 = .ok (.iload_n 3, 1) := by decide +kernel
theorem dX4_countPlain_4 : decode cX4_countPlain 4 = .ok (.invokestatic 125, 3) := by decide +kernel
theorem dX4_countPlain_7 : decode cX4_countPlain 7 = .ok (.ifCond .eq 7, 3) := by decide +kernel
theorem dX4_countPlain_10 : decode cX4_countPlain 10 = .ok (.iconst 0, 1) := by decide +kernel
theorem dX4_countPlain_11 : decode cX4_countPlain 11 = .ok (.goto 4, 3) := by decide +kernel
theorem dX4_countPlain_14 : decode cX4_countPlain 14 = .ok (.iconst 1, 1) := by decide +kernel
theorem dX4_countPlain_15 : decode cX4_countPlain 15 = .ok (.invokevirtual 75, 3) := by decide +kernel
theorem dX4_countPlain_18 : decode cX4_countPlain 18 = .ok (.ifCond .eq 13, 3) := by decide +kernel
theorem dX4_countPlain_21 : decode cX4_countPlain 21 = .ok (.aload_n 0, 1) := by decide +kernel
theorem dX4_countPlain_22 : decode cX4_countPlain 22 = .ok (.iload_n 1, 1) := by decide +kernel
theorem dX4_countPlain_23 : decode cX4_countPlain 23 = .ok (.iload_n 2, 1) := by decide +kernel
theorem dX4_countPlain_24 : decode cX4_countPlain 24 = .ok (.iload_n 3, 1) := by decide +kernel
theorem dX4_countPlain_25 : decode cX4_countPlain 25 = .ok (.invokevirtual 128, 3) := by decide +kernel
theorem dX4_countPlain_28 : decode cX4_countPlain 28 = .ok (.goto 4, 3) := by decide +kernel
theorem dX4_countPlain_31 : decode cX4_countPlain 31 = .ok (.iconst 0, 1) := by decide +kernel
theorem dX4_countPlain_32 : decode cX4_countPlain 32 = .ok (.ireturn, 1) := by decide +kernel
set_option maxRecDepth 20000 in
theorem ggX4_isMatter_X4_partWith : GoodIn wsX4_isMatter wsX4_partWith := goodIn_r _ [6, 7, 8, 9, 10, 5, 11, 1, 12, 13, 14, 15, 16, 17, 18, 19, 20, 27, 28, 29, 30, 31, 32, 33, 34, 35, 36, 37, 38, 39] (by decide +kernel) (by decide +kernel)
set_option maxRecDepth 20000 in
theorem gX4_isMatter_X4_partWith : GoodIn wsX4_isMatter (wsV RX4 100 RX4 yX4_partWith wsX4_partWith) := goodIn_app (goodIn_of _ (by decide +kernel)) ggX4_isMatter_X4_partWith
set_option maxRecDepth 20000 in
theorem ggX4_isMatter_X4_hasKey : GoodIn wsX4_isMatter wsX4_hasKey := goodIn_r _ [15, 16, 17, 18, 19, 5, 20, 27, 28, 29, 30, 31, 32, 33, 34, 35, 36, 37, 38, 39] (by decide +kernel) (by decide +kernel)
set_option maxRecDepth 20000 in
theorem gX4_isMatter_X4_hasKey : GoodIn wsX4_isMatter (wsV RX4 58 RX4 yX4_hasKey wsX4_hasKey) := goodIn_app (goodIn_of _ (by decide +kernel)) ggX4_isMatter_X4_hasKey
set_option maxRecDepth 20000 in
theorem ggX4_isMatter_X4_leaf : GoodIn wsX4_isMatter wsX4_leaf := goodIn_r _ [24, 25, 26, 27, 28, 29, 30, 31, 32, 33, 34, 35, 36, 37, 38, 39] (by decide +kernel) (by decide +kernel)
set_option maxRecDepth 20000 in
theorem gX4_isMatter_X4_leaf : GoodIn wsX4_isMatter (wsV RX4 103 RX4 yX4_leaf wsX4_leaf) := goodIn_app (goodIn_of _ (by decide +kernel)) ggX4_isMatter_X4_leaf
theorem dX4_isMatter_0 : decode cX4_isMatter 0 = .ok (.iload_n 1, 1) := by decide +kernel
theorem dX4_isMatter_1 : decode cX4_isMatter 1 = .ok (.ifCond .le 12, 3) := by decide +kernel
theorem dX4_isMatter_4 : decode cX4_isMatter 4 = .ok (.aload_n 0, 1) := by decide +kernel
theorem dX4_isMatter_5 : decode cX4_isMatter 5 = .ok (.getfield 22, 3) := by decide +kernel
theorem dX4_isMatter_8 : decode cX4_isMatter 8 = .ok (.iload_n 1, 1) := by decide +kernel
theorem dX4_isMatter_9 : decode cX4_isMatter 9 = .ok (.iaload, 1) := by decide +kernel
theorem dX4_isMatter_10 : decode cX4_isMatter 10 = .ok (.ifCond .ne 8, 3) := by decide +kernel
theorem dX4_isMatter_13 : decode cX4_isMatter 13 = .ok (.iload 5, 2) := by decide +kernel
theorem dX4_isMatter_15 : decode cX4_isMatter 15 = .ok (.ifCond .ne 5, 3) := by decide +kernel
theorem dX4_isMatter_18 : decode cX4_isMatter 18 = .ok (.iconst 0, 1) := by decide +kernel
theorem dX4_isMatter_19 : decode cX4_isMatter 19 = .ok (.ireturn, 1) := by decide +kernel
theorem dX4_isMatter_20 : decode cX4_isMatter 20 = .ok (.iconst 0, 1) := by decide +kernel
theorem dX4_isMatter_21 : decode cX4_isMatter 21 = .ok (.istore 6, 2) := by decide +kernel
theorem dX4_isMatter_23 : decode cX4_isMatter 23 = .ok (.iload_n 3, 1) := by decide +kernel
theorem dX4_isMatter_24 : decode cX4_isMatter 24 = .ok (.istore 7, 2) := by decide +kernel
theorem dX4_isMatter_26 : decode cX4_isMatter 26 = .ok (.iload 7, 2) := by decide +kernel
theorem dX4_isMatter_28 : decode cX4_isMatter 28 = .ok (.iload 4, 2) := by decide +kernel
theorem dX4_isMatter_30 : decode cX4_isMatter 30 = .ok (.if_icmp .gt 101, 3) := by decide +kernel
theorem dX4_isMatter_33 : decode cX4_isMatter 33 = .ok (.iload 6, 2) := by decide +kernel
theorem dX4_isMatter_35 : decode cX4_isMatter 35 = .ok (.ifCond .ne 96, 3) := by decide +kernel
theorem dX4_isMatter_38 : decode cX4_isMatter 38 = .ok (.iload_n 1, 1) := by decide +kernel
theorem dX4_isMatter_39 : decode cX4_isMatter 39 = .ok (.ifCond .ne 20, 3) := by decide +kernel
theorem dX4_isMatter_42 : decode cX4_isMatter 42 = .ok (.aload_n 0, 1) := by decide +kernel
theorem dX4_isMatter_43 : decode cX4_isMatter 43 = .ok (.iload 7, 2) := by decide +kernel
theorem dX4_isMatter_45 : decode cX4_isMatter 45 = .ok (.invokevirtual 100, 3) := by decide +kernel
theorem dX4_isMatter_48 : decode cX4_isMatter 48 = .ok (.ifCond .ne 7, 3) := by decide +kernel
theorem dX4_isMatter_51 : decode cX4_isMatter 51 = .ok (.iconst 1, 1) := by decide +kernel
theorem dX4_isMatter_52 : decode cX4_isMatter 52 = .ok (.goto 14, 3) := by decide +kernel
theorem dX4_isMatter_55 : decode cX4_isMatter 55 = .ok (.iconst 0, 1) := by decide +kernel
theorem dX4_isMatter_56 : decode cX4_isMatter 56 = .ok (.goto 10, 3) := by decide +kernel
theorem dX4_isMatter_59 : decode cX4_isMatter 59 = .ok (.aload_n 0, 1) := by decide +kernel
theorem dX4_isMatter_60 : decode cX4_isMatter 60 = .ok (.iload_n 1, 1) := by decide +kernel
theorem dX4_isMatter_61 : decode cX4_isMatter 61 = .ok (.iload 7, 2) := by decide +kernel
theorem dX4_isMatter_63 : decode cX4_isMatter 63 = .ok (.invokevirtual 58, 3) := by decide +kernel
theorem dX4_isMatter_66 : decode cX4_isMatter 66 = .ok (.istore 8, 2) := by decide +kernel
theorem dX4_isMatter_68 : decode cX4_isMatter 68 = .ok (.iconst 0, 1) := by decide +kernel
theorem dX4_isMatter_69 : decode cX4_isMatter 69 = .ok (.istore 9, 2) := by decide +kernel
theorem dX4_isMatter_71 : decode cX4_isMatter 71 = .ok (.iload 9, 2) := by decide +kernel
theorem dX4_isMatter_73 : decode cX4_isMatter 73 = .ok (.bipush 10, 2) := by decide +kernel
theorem dX4_isMatter_75 : decode cX4_isMatter 75 = .ok (.if_icmp .ge 50, 3) := by decide +kernel
theorem dX4_isMatter_78 : decode cX4_isMatter 78 = .ok (.iload 8, 2) := by decide +kernel
theorem dX4_isMatter_80 : decode cX4_isMatter 80 = .ok (.ifCond .eq 45, 3) := by decide +kernel
theorem dX4_isMatter_83 : decode cX4_isMatter 83 = .ok (.iload 6, 2) := by decide +kernel
theorem dX4_isMatter_85 : decode cX4_isMatter 85 = .ok (.ifCond .ne 40, 3) := by decide +kernel
theorem dX4_isMatter_88 : decode cX4_isMatter 88 = .ok (.iload 5, 2) := by decide +kernel
theorem dX4_isMatter_90 : decode cX4_isMatter 90 = .ok (.iload 9, 2) := by decide +kernel
theorem dX4_isMatter_92 : decode cX4_isMatter 92 = .ok (.ishr, 1) := by decide +kernel
theorem dX4_isMatter_93 : decode cX4_isMatter 93 = .ok (.iconst 1, 1) := by decide +kernel
theorem dX4_isMatter_94 : decode cX4_isMatter 94 = .ok (.iand, 1) := by decide +kernel
theorem dX4_isMatter_95 : decode cX4_isMatter 95 = .ok (.iconst 1, 1) := by decide +kernel
theorem dX4_isMatter_96 : decode cX4_isMatter 96 = .ok (.if_icmp .ne 20, 3) := by decide +kernel
theorem dX4_isMatter_99 : decode cX4_isMatter 99 = .ok (.aload_n 0, 1) := by decide +kernel
theorem dX4_isMatter_100 : decode cX4_isMatter 100 = .ok (.iload_n 1, 1) := by decide +kernel
theorem dX4_isMatter_101 : decode cX4_isMatter 101 = .ok (.iload 7, 2) := by decide +kernel
theorem dX4_isMatter_103 : decode cX4_isMatter 103 = .ok (.iload 9, 2) := by decide +kernel
theorem dX4_isMatter_105 : decode cX4_isMatter 105 = .ok (.invokevirtual 103, 3) := by decide +kernel
theorem dX4_isMatter_108 : decode cX4_isMatter 108 = .ok (.iload_n 2, 1) := by decide +kernel
theorem dX4_isMatter_109 : decode cX4_isMatter 109 = .ok (.if_icmp .ne 7, 3) := by decide +kernel
theorem dX4_isMatter_112 : decode cX4_isMatter 112 = .ok (.iconst 1, 1) := by decide +kernel
theorem dX4_isMatter_113 : decode cX4_isMatter 113 = .ok (.goto 4, 3) := by decide +kernel
theorem dX4_isMatter_116 : decode cX4_isMatter 116 = .ok (.iconst 0, 1) := by decide +kernel
theorem dX4_isMatter_117 : decode cX4_isMatter 117 = .ok (.istore 6, 2) := by decide +kernel
theorem dX4_isMatter_119 : decode cX4_isMatter 119 = .ok (.iinc 9 1, 3) := by decide +kernel
theorem dX4_isMatter_122 : decode cX4_isMatter 122 = .ok (.goto (-51), 3) := by decide +kernel
theorem dX4_isMatter_125 : decode cX4_isMatter 125 = .ok (.iinc 7 1, 3) := by decide +kernel
theorem dX4_isMatter_128 : decode cX4_isMatter 128 = .ok (.goto (-102), 3) := by decide +kernel
theorem dX4_isMatter_131 : decode cX4_isMatter 131 = .ok (.iload 6, 2) := by decide +kernel
theorem dX4_isMatter_133 : decode cX4_isMatter 133 = .ok (.ireturn, 1) := by decide +kernel
set_option maxRecDepth 20000 in
theorem ggX4_read_X4_isQuestion : GoodIn wsX4_read wsX4_isQuestion := goodIn_r _ [5, 6, 7, 4, 8, 9, 10, 11] (by decide +kernel) (by decide +kernel)
set_option maxRecDepth 20000 in
theorem gX4_read_X4_isQuestion : GoodIn wsX4_read (va_wsS RX4 125 yX4_isQuestion wsX4_isQuestion) := goodIn_app (goodIn_of _ (by decide +kernel)) ggX4_read_X4_isQuestion
set_option maxRecDepth 20000 in
theorem ggX4_read_X4_isFine : GoodIn wsX4_read wsX4_isFine := goodIn_r _ [15, 16, 46, 47, 48, 49, 50, 51, 52, 53, 54, 55, 56, 57, 58] (by decide +kernel) (by decide +kernel)
set_option maxRecDepth 20000 in
theorem gX4_read_X4_isFine : GoodIn wsX4_read (wsV RX4 75 RX4 yX4_isFine wsX4_isFine) := goodIn_app (goodIn_of _ (by decide +kernel)) ggX4_read_X4_isFine
set_option maxRecDepth 20000 in
theorem ggX4_read_X4_leaves : GoodIn wsX4_read wsX4_leaves := goodIn_r _ [20, 21, 22, 46, 47, 48, 49, 50, 51, 52, 53, 54, 55, 56, 57, 58] (by decide +kernel) (by decide +kernel)
set_option maxRecDepth 20000 in
theorem gX4_read_X4_leaves : GoodIn wsX4_read (wsV RX4 119 RX4 yX4_leaves wsX4_leaves) := goodIn_app (goodIn_of _ (by decide +kernel)) ggX4_read_X4_leaves
set_option maxRecDepth 20000 in
theorem ggX4_read_X4_isMatter : GoodIn wsX4_read wsX4_isMatter := goodIn_r _ [26, 27, 28, 29, 30, 4, 31, 1, 32, 33, 34, 35, 36, 37, 38, 39, 40, 41, 9, 10, 11, 42, 43, 44, 45, 21, 22, 46, 47, 48, 49, 50, 51, 52, 53, 54, 55, 56, 57, 58] (by decide +kernel) (by decide +kernel)
set_option maxRecDepth 20000 in
theorem gX4_read_X4_isMatter : GoodIn wsX4_read (wsV RX4 131 RX4 yX4_isMatter wsX4_isMatter) := goodIn_app (goodIn_of _ (by decide +kernel)) ggX4_read_X4_isMatter
theorem dX4_read_0 : decode cX4_read 0 = .ok (.aload_n 0, 1) := by decide +kernel
theorem dX4_read_1 : decode cX4_read 1 = .ok (.iload_n 1, 1) := by decide +kernel
theorem dX4_read_2 : decode cX4_read 2 = .ok (.iload_n 2, 1) := by decide +kernel
theorem dX4_read_3 : decode cX4_read 3 = .ok (.iload_n 3, 1) := by decide +kernel
theorem dX4_read_4 : decode cX4_read 4 = .ok (.invokestatic 125, 3) := by decide +kernel
theorem dX4_read_7 : decode cX4_read 7 = .ok (.ifCond .eq 7, 3) := by decide +kernel
theorem dX4_read_10 : decode cX4_read 10 = .ok (.iconst 0, 1) := by decide +kernel
theorem dX4_read_11 : decode cX4_read 11 = .ok (.goto 4, 3) := by decide +kernel
theorem dX4_read_14 : decode cX4_read 14 = .ok (.iconst 1, 1) := by decide +kernel
theorem dX4_read_15 : decode cX4_read 15 = .ok (.invokevirtual 75, 3) := by decide +kernel
theorem dX4_read_18 : decode cX4_read 18 = .ok (.ifCond .ne 5, 3) := by decide +kernel
theorem dX4_read_21 : decode cX4_read 21 = .ok (.iconst 0, 1) := by decide +kernel
theorem dX4_read_22 : decode cX4_read 22 = .ok (.ireturn, 1) := by decide +kernel
theorem dX4_read_23 : decode cX4_read 23 = .ok (.iconst 0, 1) := by decide +kernel
theorem dX4_read_24 : decode cX4_read 24 = .ok (.istore 4, 2) := by decide +kernel
theorem dX4_read_26 : decode cX4_read 26 = .ok (.iconst 0, 1) := by decide +kernel
theorem dX4_read_27 : decode cX4_read 27 = .ok (.istore 5, 2) := by decide +kernel
theorem dX4_read_29 : decode cX4_read 29 = .ok (.iload 5, 2) := by decide +kernel
theorem dX4_read_31 : decode cX4_read 31 = .ok (.aload_n 0, 1) := by decide +kernel
theorem dX4_read_32 : decode cX4_read 32 = .ok (.getfield 45, 3) := by decide +kernel
theorem dX4_read_35 : decode cX4_read 35 = .ok (.if_icmp .gt 53, 3) := by decide +kernel
theorem dX4_read_38 : decode cX4_read 38 = .ok (.iconst 0, 1) := by decide +kernel
theorem dX4_read_39 : decode cX4_read 39 = .ok (.istore 6, 2) := by decide +kernel
theorem dX4_read_41 : decode cX4_read 41 = .ok (.iload 6, 2) := by decide +kernel
theorem dX4_read_43 : decode cX4_read 43 = .ok (.aload_n 0, 1) := by decide +kernel
theorem dX4_read_44 : decode cX4_read 44 = .ok (.iload 5, 2) := by decide +kernel
theorem dX4_read_46 : decode cX4_read 46 = .ok (.invokevirtual 119, 3) := by decide +kernel
theorem dX4_read_49 : decode cX4_read 49 = .ok (.if_icmp .ge 33, 3) := by decide +kernel
theorem dX4_read_52 : decode cX4_read 52 = .ok (.iload 4, 2) := by decide +kernel
theorem dX4_read_54 : decode cX4_read 54 = .ok (.aload_n 0, 1) := by decide +kernel
theorem dX4_read_55 : decode cX4_read 55 = .ok (.iload 5, 2) := by decide +kernel
theorem dX4_read_57 : decode cX4_read 57 = .ok (.iload 6, 2) := by decide +kernel
theorem dX4_read_59 : decode cX4_read 59 = .ok (.iload_n 1, 1) := by decide +kernel
theorem dX4_read_60 : decode cX4_read 60 = .ok (.iload_n 2, 1) := by decide +kernel
theorem dX4_read_61 : decode cX4_read 61 = .ok (.iload_n 3, 1) := by decide +kernel
theorem dX4_read_62 : decode cX4_read 62 = .ok (.invokevirtual 131, 3) := by decide +kernel
theorem dX4_read_65 : decode cX4_read 65 = .ok (.ifCond .eq 7, 3) := by decide +kernel
theorem dX4_read_68 : decode cX4_read 68 = .ok (.iconst 1, 1) := by decide +kernel
theorem dX4_read_69 : decode cX4_read 69 = .ok (.goto 4, 3) := by decide +kernel
theorem dX4_read_72 : decode cX4_read 72 = .ok (.iconst 0, 1) := by decide +kernel
theorem dX4_read_73 : decode cX4_read 73 = .ok (.iadd, 1) := by decide +kernel
theorem dX4_read_74 : decode cX4_read 74 = .ok (.istore 4, 2) := by decide +kernel
theorem dX4_read_76 : decode cX4_read 76 = .ok (.iinc 6 1, 3) := by decide +kernel
theorem dX4_read_79 : decode cX4_read 79 = .ok (.goto (-38), 3) := by decide +kernel
theorem dX4_read_82 : decode cX4_read 82 = .ok (.iinc 5 1, 3) := by decide +kernel
theorem dX4_read_85 : decode cX4_read 85 = .ok (.goto (-56), 3) := by decide +kernel
theorem dX4_read_88 : decode cX4_read 88 = .ok (.iload 4, 2) := by decide +kernel
theorem dX4_read_90 : decode cX4_read 90 = .ok (.ireturn, 1) := by decide +kernel
set_option maxRecDepth 20000 in
theorem ggX4_matters_X4_isLeaf : GoodIn wsX4_matters wsX4_isLeaf := goodIn_r _ [5, 6, 7, 8, 4, 9, 10, 11, 12, 13, 14, 15, 16, 17, 18, 19, 20, 21, 22, 23, 24, 58, 59, 60, 61, 62, 63, 64, 65, 66, 67, 68, 69, 70] (by decide +kernel) (by decide +kernel)
set_option maxRecDepth 20000 in
theorem gX4_matters_X4_isLeaf : GoodIn wsX4_matters (wsV RX4 122 RX4 yX4_isLeaf wsX4_isLeaf) := goodIn_app (goodIn_of _ (by decide +kernel)) ggX4_matters_X4_isLeaf
set_option maxRecDepth 20000 in
theorem ggX4_matters_X4_isQuestion : GoodIn wsX4_matters wsX4_isQuestion := goodIn_r _ [27, 28, 29, 4, 30, 16, 17, 18] (by decide +kernel) (by decide +kernel)
set_option maxRecDepth 20000 in
theorem gX4_matters_X4_isQuestion : GoodIn wsX4_matters (va_wsS RX4 125 yX4_isQuestion wsX4_isQuestion) := goodIn_app (goodIn_of _ (by decide +kernel)) ggX4_matters_X4_isQuestion
set_option maxRecDepth 20000 in
theorem ggX4_matters_X4_isFine : GoodIn wsX4_matters wsX4_isFine := goodIn_r _ [34, 35, 58, 59, 60, 61, 62, 63, 64, 65, 66, 67, 68, 69, 70] (by decide +kernel) (by decide +kernel)
set_option maxRecDepth 20000 in
theorem gX4_matters_X4_isFine : GoodIn wsX4_matters (wsV RX4 75 RX4 yX4_isFine wsX4_isFine) := goodIn_app (goodIn_of _ (by decide +kernel)) ggX4_matters_X4_isFine
set_option maxRecDepth 20000 in
theorem ggX4_matters_X4_isMatter : GoodIn wsX4_matters wsX4_isMatter := goodIn_r _ [39, 15, 40, 41, 42, 4, 43, 14, 44, 45, 46, 47, 48, 49, 50, 51, 52, 53, 16, 17, 18, 54, 55, 56, 57, 23, 24, 58, 59, 60, 61, 62, 63, 64, 65, 66, 67, 68, 69, 70] (by decide +kernel) (by decide +kernel)
set_option maxRecDepth 20000 in
theorem gX4_matters_X4_isMatter : GoodIn wsX4_matters (wsV RX4 131 RX4 yX4_isMatter wsX4_isMatter) := goodIn_app (goodIn_of _ (by decide +kernel)) ggX4_matters_X4_isMatter
theorem dX4_matters_0 : decode cX4_matters 0 = .ok (.aload_n 0, 1) := by decide +kernel
theorem dX4_matters_1 : decode cX4_matters 1 = .ok (.aload_n 0, 1) := by decide +kernel
theorem dX4_matters_2 : decode cX4_matters 2 = .ok (.iload_n 1, 1) := by decide +kernel
theorem dX4_matters_3 : decode cX4_matters 3 = .ok (.iload_n 2, 1) := by decide +kernel
theorem dX4_matters_4 : decode cX4_matters 4 = .ok (.invokevirtual 122, 3) := by decide +kernel
theorem dX4_matters_7 : decode cX4_matters 7 = .ok (.ifCond .ne 7, 3) := by decide +kernel
theorem dX4_matters_10 : decode cX4_matters 10 = .ok (.iconst 1, 1) := by decide +kernel
theorem dX4_matters_11 : decode cX4_matters 11 = .ok (.goto 19, 3) := by decide +kernel
theorem dX4_matters_14 : decode cX4_matters 14 = .ok (.iload_n 3, 1) := by decide +kernel
theorem dX4_matters_15 : decode cX4_matters 15 = .ok (.iload 4, 2) := by decide +kernel
theorem dX4_matters_17 : decode cX4_matters 17 = .ok (.iload 5, 2) := by decide +kernel
theorem dX4_matters_19 : decode cX4_matters 19 = .ok (.invokestatic 125, 3) := by decide +kernel
theorem dX4_matters_22 : decode cX4_matters 22 = .ok (.ifCond .ne 7, 3) := by decide +kernel
theorem dX4_matters_25 : decode cX4_matters 25 = .ok (.iconst 2, 1) := by decide +kernel
theorem dX4_matters_26 : decode cX4_matters 26 = .ok (.goto 4, 3) := by decide +kernel
theorem dX4_matters_29 : decode cX4_matters 29 = .ok (.iconst 0, 1) := by decide +kernel
theorem dX4_matters_30 : decode cX4_matters 30 = .ok (.invokevirtual 75, 3) := by decide +kernel
theorem dX4_matters_33 : decode cX4_matters 33 = .ok (.ifCond .eq 21, 3) := by decide +kernel
theorem dX4_matters_36 : decode cX4_matters 36 = .ok (.aload_n 0, 1) := by decide +kernel
theorem dX4_matters_37 : decode cX4_matters 37 = .ok (.iload_n 1, 1) := by decide +kernel
theorem dX4_matters_38 : decode cX4_matters 38 = .ok (.iload_n 2, 1) := by decide +kernel
theorem dX4_matters_39 : decode cX4_matters 39 = .ok (.iload_n 3, 1) := by decide +kernel
theorem dX4_matters_40 : decode cX4_matters 40 = .ok (.iload 4, 2) := by decide +kernel
theorem dX4_matters_42 : decode cX4_matters 42 = .ok (.iload 5, 2) := by decide +kernel
theorem dX4_matters_44 : decode cX4_matters 44 = .ok (.invokevirtual 131, 3) := by decide +kernel
theorem dX4_matters_47 : decode cX4_matters 47 = .ok (.ifCond .eq 7, 3) := by decide +kernel
theorem dX4_matters_50 : decode cX4_matters 50 = .ok (.iconst 1, 1) := by decide +kernel
theorem dX4_matters_51 : decode cX4_matters 51 = .ok (.goto 4, 3) := by decide +kernel
theorem dX4_matters_54 : decode cX4_matters 54 = .ok (.iconst 0, 1) := by decide +kernel
theorem dX4_matters_55 : decode cX4_matters 55 = .ok (.ireturn, 1) := by decide +kernel
theorem dX4_isStale_0 : decode cX4_isStale 0 = .ok (.aload_n 0, 1) := by decide +kernel
theorem dX4_isStale_1 : decode cX4_isStale 1 = .ok (.iconst 0, 1) := by decide +kernel
theorem dX4_isStale_2 : decode cX4_isStale 2 = .ok (.putfield 37, 3) := by decide +kernel
theorem dX4_isStale_5 : decode cX4_isStale 5 = .ok (.aload_n 0, 1) := by decide +kernel
theorem dX4_isStale_6 : decode cX4_isStale 6 = .ok (.getfield 90, 3) := by decide +kernel
theorem dX4_isStale_9 : decode cX4_isStale 9 = .ok (.ireturn, 1) := by decide +kernel
set_option maxRecDepth 20000 in
theorem ggX4_buildIndex_X4_rows : GoodIn wsX4_buildIndex wsX4_rows := goodIn_r _ [6, 7, 8, 9, 10, 11, 5, 12, 13, 14, 15, 16, 17, 18, 19, 20, 21, 22, 23, 24, 25, 26, 27] (by decide +kernel) (by decide +kernel)
set_option maxRecDepth 20000 in
theorem gX4_buildIndex_X4_rows : GoodIn wsX4_buildIndex (wsV RX4 135 RX4 yX4_rows wsX4_rows) := goodIn_app (goodIn_of _ (by decide +kernel)) ggX4_buildIndex_X4_rows
theorem dX4_buildIndex_0 : decode cX4_buildIndex 0 = .ok (.aload_n 0, 1) := by decide +kernel
theorem dX4_buildIndex_1 : decode cX4_buildIndex 1 = .ok (.iconst 0, 1) := by decide +kernel
theorem dX4_buildIndex_2 : decode cX4_buildIndex 2 = .ok (.putfield 90, 3) := by decide +kernel
theorem dX4_buildIndex_5 : decode cX4_buildIndex 5 = .ok (.aload_n 0, 1) := by decide +kernel
theorem dX4_buildIndex_6 : decode cX4_buildIndex 6 = .ok (.invokevirtual 135, 3) := by decide +kernel
theorem dX4_buildIndex_9 : decode cX4_buildIndex 9 = .ok (.ireturn, 1) := by decide +kernel
set_option maxRecDepth 20000 in
theorem ggX4_find_X4_isIn : GoodIn wsX4_find wsX4_isIn := goodIn_r _ [7] (by decide +kernel) (by decide +kernel)
set_option maxRecDepth 20000 in
theorem gX4_find_X4_isIn : GoodIn wsX4_find (va_wsS RX4 41 yX4_isIn wsX4_isIn) := goodIn_app (goodIn_of _ (by decide +kernel)) ggX4_find_X4_isIn
set_option maxRecDepth 20000 in
theorem ggX4_find_X4_isFine : GoodIn wsX4_find wsX4_isFine := goodIn_r _ [11, 12, 19, 20, 21, 22, 23, 24, 25, 26, 27, 28, 29, 30, 31] (by decide +kernel) (by decide +kernel)
set_option maxRecDepth 20000 in
theorem gX4_find_X4_isFine : GoodIn wsX4_find (wsV RX4 75 RX4 yX4_isFine wsX4_isFine) := goodIn_app (goodIn_of _ (by decide +kernel)) ggX4_find_X4_isFine
set_option maxRecDepth 20000 in
theorem ggX4_find_X4_isTabled : GoodIn wsX4_find wsX4_isTabled := goodIn_r _ [16, 17, 18, 19, 20, 21, 22, 23, 24, 25, 26, 27, 28, 29, 30, 31] (by decide +kernel) (by decide +kernel)
set_option maxRecDepth 20000 in
theorem gX4_find_X4_isTabled : GoodIn wsX4_find (wsV RX4 110 RX4 yX4_isTabled wsX4_isTabled) := goodIn_app (goodIn_of _ (by decide +kernel)) ggX4_find_X4_isTabled
theorem dX4_find_0 : decode cX4_find 0 = .ok (.aload_n 0, 1) := by decide +kernel
theorem dX4_find_1 : decode cX4_find 1 = .ok (.iload_n 1, 1) := by decide +kernel
theorem dX4_find_2 : decode cX4_find 2 = .ok (.iconst 0, 1) := by decide +kernel
theorem dX4_find_3 : decode cX4_find 3 = .ok (.bipush 99, 2) := by decide +kernel
theorem dX4_find_5 : decode cX4_find 5 = .ok (.invokestatic 41, 3) := by decide +kernel
theorem dX4_find_8 : decode cX4_find 8 = .ok (.ifCond .ne 7, 3) := by decide +kernel
theorem dX4_find_11 : decode cX4_find 11 = .ok (.iconst 1, 1) := by decide +kernel
theorem dX4_find_12 : decode cX4_find 12 = .ok (.goto 15, 3) := by decide +kernel
theorem dX4_find_15 : decode cX4_find 15 = .ok (.aload_n 0, 1) := by decide +kernel
theorem dX4_find_16 : decode cX4_find 16 = .ok (.getfield 90, 3) := by decide +kernel
theorem dX4_find_19 : decode cX4_find 19 = .ok (.ifCond .eq 7, 3) := by decide +kernel
theorem dX4_find_22 : decode cX4_find 22 = .ok (.iconst 2, 1) := by decide +kernel
theorem dX4_find_23 : decode cX4_find 23 = .ok (.goto 4, 3) := by decide +kernel
theorem dX4_find_26 : decode cX4_find 26 = .ok (.iconst 0, 1) := by decide +kernel
theorem dX4_find_27 : decode cX4_find 27 = .ok (.invokevirtual 75, 3) := by decide +kernel
theorem dX4_find_30 : decode cX4_find 30 = .ok (.ifCond .ne 5, 3) := by decide +kernel
theorem dX4_find_33 : decode cX4_find 33 = .ok (.iconst 0, 1) := by decide +kernel
theorem dX4_find_34 : decode cX4_find 34 = .ok (.ireturn, 1) := by decide +kernel
theorem dX4_find_35 : decode cX4_find 35 = .ok (.iconst 0, 1) := by decide +kernel
theorem dX4_find_36 : decode cX4_find 36 = .ok (.istore_n 2, 1) := by decide +kernel
theorem dX4_find_37 : decode cX4_find 37 = .ok (.iconst 0, 1) := by decide +kernel
theorem dX4_find_38 : decode cX4_find 38 = .ok (.istore_n 3, 1) := by decide +kernel
theorem dX4_find_39 : decode cX4_find 39 = .ok (.iload_n 3, 1) := by decide +kernel
theorem dX4_find_40 : decode cX4_find 40 = .ok (.aload_n 0, 1) := by decide +kernel
theorem dX4_find_41 : decode cX4_find 41 = .ok (.getfield 52, 3) := by decide +kernel
theorem dX4_find_44 : decode cX4_find 44 = .ok (.if_icmp .ge 35, 3) := by decide +kernel
theorem dX4_find_47 : decode cX4_find 47 = .ok (.iload_n 2, 1) := by decide +kernel
theorem dX4_find_48 : decode cX4_find 48 = .ok (.aload_n 0, 1) := by decide +kernel
theorem dX4_find_49 : decode cX4_find 49 = .ok (.iload_n 3, 1) := by decide +kernel
theorem dX4_find_50 : decode cX4_find 50 = .ok (.invokevirtual 110, 3) := by decide +kernel
theorem dX4_find_53 : decode cX4_find 53 = .ok (.ifCond .eq 17, 3) := by decide +kernel
theorem dX4_find_56 : decode cX4_find 56 = .ok (.aload_n 0, 1) := by decide +kernel
theorem dX4_find_57 : decode cX4_find 57 = .ok (.getfield 34, 3) := by decide +kernel
theorem dX4_find_60 : decode cX4_find 60 = .ok (.iload_n 3, 1) := by decide +kernel
theorem dX4_find_61 : decode cX4_find 61 = .ok (.iaload, 1) := by decide +kernel
theorem dX4_find_62 : decode cX4_find 62 = .ok (.iload_n 1, 1) := by decide +kernel
theorem dX4_find_63 : decode cX4_find 63 = .ok (.if_icmp .ne 7, 3) := by decide +kernel
theorem dX4_find_66 : decode cX4_find 66 = .ok (.iconst 1, 1) := by decide +kernel
theorem dX4_find_67 : decode cX4_find 67 = .ok (.goto 4, 3) := by decide +kernel
theorem dX4_find_70 : decode cX4_find 70 = .ok (.iconst 0, 1) := by decide +kernel
theorem dX4_find_71 : decode cX4_find 71 = .ok (.iadd, 1) := by decide +kernel
theorem dX4_find_72 : decode cX4_find 72 = .ok (.istore_n 2, 1) := by decide +kernel
theorem dX4_find_73 : decode cX4_find 73 = .ok (.iinc 3 1, 3) := by decide +kernel
theorem dX4_find_76 : decode cX4_find 76 = .ok (.goto (-37), 3) := by decide +kernel
theorem dX4_find_79 : decode cX4_find 79 = .ok (.iload_n 2, 1) := by decide +kernel
theorem dX4_find_80 : decode cX4_find 80 = .ok (.ireturn, 1) := by decide +kernel
set_option maxRecDepth 20000 in
theorem ggX4_findIn_X4_isAny : GoodIn wsX4_findIn wsX4_isAny := goodIn_r _ [8, 9, 10, 11, 7, 12, 13, 14, 15, 16, 17, 23, 24, 25, 26, 27, 28, 29, 30, 31, 32, 33, 34, 35] (by decide +kernel) (by decide +kernel)
set_option maxRecDepth 20000 in
theorem gX4_findIn_X4_isAny : GoodIn wsX4_findIn (wsV RX4 116 RX4 yX4_isAny wsX4_isAny) := goodIn_app (goodIn_of _ (by decide +kernel)) ggX4_findIn_X4_isAny
set_option maxRecDepth 20000 in
theorem ggX4_findIn_X4_isIn : GoodIn wsX4_findIn wsX4_isIn := goodIn_r _ [17] (by decide +kernel) (by decide +kernel)
set_option maxRecDepth 20000 in
theorem gX4_findIn_X4_isIn : GoodIn wsX4_findIn (va_wsS RX4 41 yX4_isIn wsX4_isIn) := goodIn_app (goodIn_of _ (by decide +kernel)) ggX4_findIn_X4_isIn
set_option maxRecDepth 20000 in
theorem ggX4_findIn_X4_isFine : GoodIn wsX4_findIn wsX4_isFine := goodIn_r _ [21, 22, 23, 24, 25, 26, 27, 28, 29, 30, 31, 32, 33, 34, 35] (by decide +kernel) (by decide +kernel)
set_option maxRecDepth 20000 in
theorem gX4_findIn_X4_isFine : GoodIn wsX4_findIn (wsV RX4 75 RX4 yX4_isFine wsX4_isFine) := goodIn_app (goodIn_of _ (by decide +kernel)) ggX4_findIn_X4_isFine
theorem dX4_findIn_0 : decode cX4_findIn 0 = .ok (.aload_n 0, 1) := by decide +kernel
theorem dX4_findIn_1 : decode cX4_findIn 1 = .ok (.aload_n 0, 1) := by decide +kernel
theorem dX4_findIn_2 : decode cX4_findIn 2 = .ok (.iload_n 1, 1) := by decide +kernel
theorem dX4_findIn_3 : decode cX4_findIn 3 = .ok (.invokevirtual 116, 3) := by decide +kernel
theorem dX4_findIn_6 : decode cX4_findIn 6 = .ok (.ifCond .ne 7, 3) := by decide +kernel
theorem dX4_findIn_9 : decode cX4_findIn 9 = .ok (.iconst 1, 1) := by decide +kernel
theorem dX4_findIn_10 : decode cX4_findIn 10 = .ok (.goto 18, 3) := by decide +kernel
theorem dX4_findIn_13 : decode cX4_findIn 13 = .ok (.iload_n 2, 1) := by decide +kernel
theorem dX4_findIn_14 : decode cX4_findIn 14 = .ok (.iconst 0, 1) := by decide +kernel
theorem dX4_findIn_15 : decode cX4_findIn 15 = .ok (.bipush 99, 2) := by decide +kernel
theorem dX4_findIn_17 : decode cX4_findIn 17 = .ok (.invokestatic 41, 3) := by decide +kernel
theorem dX4_findIn_20 : decode cX4_findIn 20 = .ok (.ifCond .ne 7, 3) := by decide +kernel
theorem dX4_findIn_23 : decode cX4_findIn 23 = .ok (.iconst 2, 1) := by decide +kernel
theorem dX4_findIn_24 : decode cX4_findIn 24 = .ok (.goto 4, 3) := by decide +kernel
theorem dX4_findIn_27 : decode cX4_findIn 27 = .ok (.iconst 0, 1) := by decide +kernel
theorem dX4_findIn_28 : decode cX4_findIn 28 = .ok (.invokevirtual 75, 3) := by decide +kernel
theorem dX4_findIn_31 : decode cX4_findIn 31 = .ok (.ifCond .ne 5, 3) := by decide +kernel
theorem dX4_findIn_34 : decode cX4_findIn 34 = .ok (.iconst 0, 1) := by decide +kernel
theorem dX4_findIn_35 : decode cX4_findIn 35 = .ok (.ireturn, 1) := by decide +kernel
theorem dX4_findIn_36 : decode cX4_findIn 36 = .ok (.iconst 0, 1) := by decide +kernel
theorem dX4_findIn_37 : decode cX4_findIn 37 = .ok (.istore_n 3, 1) := by decide +kernel
theorem dX4_findIn_38 : decode cX4_findIn 38 = .ok (.iconst 0, 1) := by decide +kernel
theorem dX4_findIn_39 : decode cX4_findIn 39 = .ok (.istore 4, 2) := by decide +kernel
theorem dX4_findIn_41 : decode cX4_findIn 41 = .ok (.iload 4, 2) := by decide +kernel
theorem dX4_findIn_43 : decode cX4_findIn 43 = .ok (.aload_n 0, 1) := by decide +kernel
theorem dX4_findIn_44 : decode cX4_findIn 44 = .ok (.getfield 52, 3) := by decide +kernel
theorem dX4_findIn_47 : decode cX4_findIn 47 = .ok (.if_icmp .ge 39, 3) := by decide +kernel
theorem dX4_findIn_50 : decode cX4_findIn 50 = .ok (.iload_n 3, 1) := by decide +kernel
theorem dX4_findIn_51 : decode cX4_findIn 51 = .ok (.aload_n 0, 1) := by decide +kernel
theorem dX4_findIn_52 : decode cX4_findIn 52 = .ok (.getfield 25, 3) := by decide +kernel
theorem dX4_findIn_55 : decode cX4_findIn 55 = .ok (.iload 4, 2) := by decide +kernel
theorem dX4_findIn_57 : decode cX4_findIn 57 = .ok (.iaload, 1) := by decide +kernel
theorem dX4_findIn_58 : decode cX4_findIn 58 = .ok (.iload_n 1, 1) := by decide +kernel
theorem dX4_findIn_59 : decode cX4_findIn 59 = .ok (.if_icmp .ne 18, 3) := by decide +kernel
theorem dX4_findIn_62 : decode cX4_findIn 62 = .ok (.aload_n 0, 1) := by decide +kernel
theorem dX4_findIn_63 : decode cX4_findIn 63 = .ok (.getfield 34, 3) := by decide +kernel
theorem dX4_findIn_66 : decode cX4_findIn 66 = .ok (.iload 4, 2) := by decide +kernel
theorem dX4_findIn_68 : decode cX4_findIn 68 = .ok (.iaload, 1) := by decide +kernel
theorem dX4_findIn_69 : decode cX4_findIn 69 = .ok (.iload_n 2, 1) := by decide +kernel
theorem dX4_findIn_70 : decode cX4_findIn 70 = .ok (.if_icmp .ne 7, 3) := by decide +kernel
theorem dX4_findIn_73 : decode cX4_findIn 73 = .ok (.iconst 1, 1) := by decide +kernel
theorem dX4_findIn_74 : decode cX4_findIn 74 = .ok (.goto 4, 3) := by decide +kernel
theorem dX4_findIn_77 : decode cX4_findIn 77 = .ok (.iconst 0, 1) := by decide +kernel
theorem dX4_findIn_78 : decode cX4_findIn 78 = .ok (.iadd, 1) := by decide +kernel
theorem dX4_findIn_79 : decode cX4_findIn 79 = .ok (.istore_n 3, 1) := by decide +kernel
theorem dX4_findIn_80 : decode cX4_findIn 80 = .ok (.iinc 4 1, 3) := by decide +kernel
theorem dX4_findIn_83 : decode cX4_findIn 83 = .ok (.goto (-42), 3) := by decide +kernel
theorem dX4_findIn_86 : decode cX4_findIn 86 = .ok (.iload_n 3, 1) := by decide +kernel
theorem dX4_findIn_87 : decode cX4_findIn 87 = .ok (.ireturn, 1) := by decide +kernel
theorem dJ9_max_7cf53_0 : decode cJ9_max_7cf53 0 = .ok (.iload_n 0, 1) := by decide +kernel
theorem dJ9_max_7cf53_1 : decode cJ9_max_7cf53 1 = .ok (.iload_n 1, 1) := by decide +kernel
theorem dJ9_max_7cf53_2 : decode cJ9_max_7cf53 2 = .ok (.if_icmp .lt 7, 3) := by decide +kernel
theorem dJ9_max_7cf53_5 : decode cJ9_max_7cf53 5 = .ok (.iload_n 0, 1) := by decide +kernel
theorem dJ9_max_7cf53_6 : decode cJ9_max_7cf53 6 = .ok (.goto 4, 3) := by decide +kernel
theorem dJ9_max_7cf53_9 : decode cJ9_max_7cf53 9 = .ok (.iload_n 1, 1) := by decide +kernel
theorem dJ9_max_7cf53_10 : decode cJ9_max_7cf53 10 = .ok (.ireturn, 1) := by decide +kernel
theorem dJ9_min_7cf53_0 : decode cJ9_min_7cf53 0 = .ok (.iload_n 0, 1) := by decide +kernel
theorem dJ9_min_7cf53_1 : decode cJ9_min_7cf53 1 = .ok (.iload_n 1, 1) := by decide +kernel
theorem dJ9_min_7cf53_2 : decode cJ9_min_7cf53 2 = .ok (.if_icmp .gt 7, 3) := by decide +kernel
theorem dJ9_min_7cf53_5 : decode cJ9_min_7cf53 5 = .ok (.iload_n 0, 1) := by decide +kernel
theorem dJ9_min_7cf53_6 : decode cJ9_min_7cf53 6 = .ok (.goto 4, 3) := by decide +kernel
theorem dJ9_min_7cf53_9 : decode cJ9_min_7cf53 9 = .ok (.iload_n 1, 1) := by decide +kernel
theorem dJ9_min_7cf53_10 : decode cJ9_min_7cf53 10 = .ok (.ireturn, 1) := by decide +kernel
