theorem dX3_checkKey_0 : decode cX3_checkKey 0 = .ok (.iload_n 0, 1) := by decide +kernel
theorem dX3_checkKey_1 : decode cX3_checkKey 1 = .ok (.ifCond .lt 10, 3) := by decide +kernel
theorem dX3_checkKey_4 : decode cX3_checkKey 4 = .ok (.iload_n 0, 1) := by decide +kernel
theorem dX3_checkKey_5 : decode cX3_checkKey 5 = .ok (.sipush 1000, 3) := by decide +kernel
theorem dX3_checkKey_8 : decode cX3_checkKey 8 = .ok (.if_icmp .lt 13, 3) := by decide +kernel
theorem dX3_checkKey_11 : decode cX3_checkKey 11 = .ok (.new 64, 3) := by decide +kernel
theorem dX3_checkKey_14 : decode cX3_checkKey 14 = .ok (.dup, 1) := by decide +kernel
theorem dX3_checkKey_15 : decode cX3_checkKey 15 = .ok (.ldc 189, 2) := by decide +kernel
theorem dX3_checkKey_17 : decode cX3_checkKey 17 = .ok (.invokespecial 68, 3) := by decide +kernel
theorem dX3_checkKey_20 : decode cX3_checkKey 20 = .ok (.athrow, 1) := by decide +kernel
theorem dX3_checkKey_21 : decode cX3_checkKey 21 = .ok (.return_, 1) := by decide +kernel
theorem dX3_checkSort_0 : decode cX3_checkSort 0 = .ok (.iload_n 0, 1) := by decide +kernel
theorem dX3_checkSort_1 : decode cX3_checkSort 1 = .ok (.ifCond .lt 9, 3) := by decide +kernel
theorem dX3_checkSort_4 : decode cX3_checkSort 4 = .ok (.iload_n 0, 1) := by decide +kernel
theorem dX3_checkSort_5 : decode cX3_checkSort 5 = .ok (.bipush 10, 2) := by decide +kernel
theorem dX3_checkSort_7 : decode cX3_checkSort 7 = .ok (.if_icmp .lt 13, 3) := by decide +kernel
theorem dX3_checkSort_10 : decode cX3_checkSort 10 = .ok (.new 64, 3) := by decide +kernel
theorem dX3_checkSort_13 : decode cX3_checkSort 13 = .ok (.dup, 1) := by decide +kernel
theorem dX3_checkSort_14 : decode cX3_checkSort 14 = .ok (.ldc 191, 2) := by decide +kernel
theorem dX3_checkSort_16 : decode cX3_checkSort 16 = .ok (.invokespecial 68, 3) := by decide +kernel
theorem dX3_checkSort_19 : decode cX3_checkSort 19 = .ok (.athrow, 1) := by decide +kernel
theorem dX3_checkSort_20 : decode cX3_checkSort 20 = .ok (.return_, 1) := by decide +kernel
theorem dX3_checkValue_0 : decode cX3_checkValue 0 = .ok (.iload_n 0, 1) := by decide +kernel
theorem dX3_checkValue_1 : decode cX3_checkValue 1 = .ok (.ifCond .lt 9, 3) := by decide +kernel
theorem dX3_checkValue_4 : decode cX3_checkValue 4 = .ok (.iload_n 0, 1) := by decide +kernel
theorem dX3_checkValue_5 : decode cX3_checkValue 5 = .ok (.bipush 100, 2) := by decide +kernel
theorem dX3_checkValue_7 : decode cX3_checkValue 7 = .ok (.if_icmp .lt 13, 3) := by decide +kernel
theorem dX3_checkValue_10 : decode cX3_checkValue 10 = .ok (.new 64, 3) := by decide +kernel
theorem dX3_checkValue_13 : decode cX3_checkValue 13 = .ok (.dup, 1) := by decide +kernel
theorem dX3_checkValue_14 : decode cX3_checkValue 14 = .ok (.ldc 193, 2) := by decide +kernel
theorem dX3_checkValue_16 : decode cX3_checkValue 16 = .ok (.invokespecial 68, 3) := by decide +kernel
theorem dX3_checkValue_19 : decode cX3_checkValue 19 = .ok (.athrow, 1) := by decide +kernel
theorem dX3_checkValue_20 : decode cX3_checkValue 20 = .ok (.return_, 1) := by decide +kernel
set_option maxRecDepth 20000 in
theorem ggX3_checkRange_X3_checkKey : GoodIn wsX3_checkRange wsX3_checkKey := goodIn_ca (goodIn_r _ [6, 1, 2] (by decide +kernel) (by decide +kernel)) (goodIn_sub (fun _ h => List.mem_cons_of_mem _ (List.mem_append_right _ h)) (by decide +kernel))
set_option maxRecDepth 20000 in
theorem gX3_checkRange_X3_checkKey : GoodIn wsX3_checkRange (va_wsS RX3 103 yX3_checkKey wsX3_checkKey) := goodIn_app (goodIn_of _ (by decide +kernel)) ggX3_checkRange_X3_checkKey
theorem dX3_checkRange_0 : decode cX3_checkRange 0 = .ok (.iload_n 0, 1) := by decide +kernel
theorem dX3_checkRange_1 : decode cX3_checkRange 1 = .ok (.invokestatic 103, 3) := by decide +kernel
theorem dX3_checkRange_4 : decode cX3_checkRange 4 = .ok (.iload_n 1, 1) := by decide +kernel
theorem dX3_checkRange_5 : decode cX3_checkRange 5 = .ok (.iload_n 0, 1) := by decide +kernel
theorem dX3_checkRange_6 : decode cX3_checkRange 6 = .ok (.if_icmp .le 10, 3) := by decide +kernel
theorem dX3_checkRange_9 : decode cX3_checkRange 9 = .ok (.iload_n 1, 1) := by decide +kernel
theorem dX3_checkRange_10 : decode cX3_checkRange 10 = .ok (.sipush 1000, 3) := by decide +kernel
theorem dX3_checkRange_13 : decode cX3_checkRange 13 = .ok (.if_icmp .le 13, 3) := by decide +kernel
theorem dX3_checkRange_16 : decode cX3_checkRange 16 = .ok (.new 64, 3) := by decide +kernel
theorem dX3_checkRange_19 : decode cX3_checkRange 19 = .ok (.dup, 1) := by decide +kernel
theorem dX3_checkRange_20 : decode cX3_checkRange 20 = .ok (.ldc 195, 2) := by decide +kernel
theorem dX3_checkRange_22 : decode cX3_checkRange 22 = .ok (.invokespecial 68, 3) := by decide +kernel
theorem dX3_checkRange_25 : decode cX3_checkRange 25 = .ok (.athrow, 1) := by decide +kernel
theorem dX3_checkRange_26 : decode cX3_checkRange 26 = .ok (.return_, 1) := by decide +kernel
set_option maxRecDepth 20000 in
theorem ggX3_checkKind_X3_leastDetail : GoodIn wsX3_checkKind wsX3_leastDetail := goodIn_r _ [6] (by decide +kernel) (by decide +kernel)
set_option maxRecDepth 20000 in
theorem gX3_checkKind_X3_leastDetail : GoodIn wsX3_checkKind (va_wsS RX3 199 yX3_leastDetail wsX3_leastDetail) := goodIn_app (goodIn_of _ (by decide +kernel)) ggX3_checkKind_X3_leastDetail
set_option maxRecDepth 20000 in
theorem ggX3_checkKind_X3_mostDetail : GoodIn wsX3_checkKind wsX3_mostDetail := goodIn_r _ [9] (by decide +kernel) (by decide +kernel)
set_option maxRecDepth 20000 in
theorem gX3_checkKind_X3_mostDetail : GoodIn wsX3_checkKind (va_wsS RX3 203 yX3_mostDetail wsX3_mostDetail) := goodIn_app (goodIn_of _ (by decide +kernel)) ggX3_checkKind_X3_mostDetail
theorem dX3_checkKind_0 : decode cX3_checkKind 0 = .ok (.iload_n 0, 1) := by decide +kernel
theorem dX3_checkKind_1 : decode cX3_checkKind 1 = .ok (.ifCond .eq 23, 3) := by decide +kernel
theorem dX3_checkKind_4 : decode cX3_checkKind 4 = .ok (.iload_n 0, 1) := by decide +kernel
theorem dX3_checkKind_5 : decode cX3_checkKind 5 = .ok (.iconst 1, 1) := by decide +kernel
theorem dX3_checkKind_6 : decode cX3_checkKind 6 = .ok (.if_icmp .eq 18, 3) := by decide +kernel
theorem dX3_checkKind_9 : decode cX3_checkKind 9 = .ok (.iload_n 0, 1) := by decide +kernel
theorem dX3_checkKind_10 : decode cX3_checkKind 10 = .ok (.iconst 2, 1) := by decide +kernel
theorem dX3_checkKind_11 : decode cX3_checkKind 11 = .ok (.if_icmp .eq 13, 3) := by decide +kernel
theorem dX3_checkKind_14 : decode cX3_checkKind 14 = .ok (.new 64, 3) := by decide +kernel
theorem dX3_checkKind_17 : decode cX3_checkKind 17 = .ok (.dup, 1) := by decide +kernel
theorem dX3_checkKind_18 : decode cX3_checkKind 18 = .ok (.ldc 197, 2) := by decide +kernel
theorem dX3_checkKind_20 : decode cX3_checkKind 20 = .ok (.invokespecial 68, 3) := by decide +kernel
theorem dX3_checkKind_23 : decode cX3_checkKind 23 = .ok (.athrow, 1) := by decide +kernel
theorem dX3_checkKind_24 : decode cX3_checkKind 24 = .ok (.iload_n 1, 1) := by decide +kernel
theorem dX3_checkKind_25 : decode cX3_checkKind 25 = .ok (.iload_n 0, 1) := by decide +kernel
theorem dX3_checkKind_26 : decode cX3_checkKind 26 = .ok (.invokestatic 199, 3) := by decide +kernel
theorem dX3_checkKind_29 : decode cX3_checkKind 29 = .ok (.if_icmp .lt 11, 3) := by decide +kernel
theorem dX3_checkKind_32 : decode cX3_checkKind 32 = .ok (.iload_n 1, 1) := by decide +kernel
theorem dX3_checkKind_33 : decode cX3_checkKind 33 = .ok (.iload_n 0, 1) := by decide +kernel
theorem dX3_checkKind_34 : decode cX3_checkKind 34 = .ok (.invokestatic 203, 3) := by decide +kernel
theorem dX3_checkKind_37 : decode cX3_checkKind 37 = .ok (.if_icmp .le 13, 3) := by decide +kernel
theorem dX3_checkKind_40 : decode cX3_checkKind 40 = .ok (.new 64, 3) := by decide +kernel
theorem dX3_checkKind_43 : decode cX3_checkKind 43 = .ok (.dup, 1) := by decide +kernel
theorem dX3_checkKind_44 : decode cX3_checkKind 44 = .ok (.ldc 206, 2) := by decide +kernel
theorem dX3_checkKind_46 : decode cX3_checkKind 46 = .ok (.invokespecial 68, 3) := by decide +kernel
theorem dX3_checkKind_49 : decode cX3_checkKind 49 = .ok (.athrow, 1) := by decide +kernel
theorem dX3_checkKind_50 : decode cX3_checkKind 50 = .ok (.return_, 1) := by decide +kernel
theorem dX3_leastDetail_0 : decode cX3_leastDetail 0 = .ok (.iload_n 0, 1) := by decide +kernel
theorem dX3_leastDetail_1 : decode cX3_leastDetail 1 = .ok (.ifCond .ne 7, 3) := by decide +kernel
theorem dX3_leastDetail_4 : decode cX3_leastDetail 4 = .ok (.iconst 0, 1) := by decide +kernel
theorem dX3_leastDetail_5 : decode cX3_leastDetail 5 = .ok (.goto 4, 3) := by decide +kernel
theorem dX3_leastDetail_8 : decode cX3_leastDetail 8 = .ok (.iconst 1, 1) := by decide +kernel
theorem dX3_leastDetail_9 : decode cX3_leastDetail 9 = .ok (.ireturn, 1) := by decide +kernel
theorem dX3_mostDetail_0 : decode cX3_mostDetail 0 = .ok (.iload_n 0, 1) := by decide +kernel
theorem dX3_mostDetail_1 : decode cX3_mostDetail 1 = .ok (.lookupswitch 33 #[(1, 27), (2, 31)], 27) := by decide +kernel
theorem dX3_mostDetail_28 : decode cX3_mostDetail 28 = .ok (.sipush 1022, 3) := by decide +kernel
theorem dX3_mostDetail_31 : decode cX3_mostDetail 31 = .ok (.ireturn, 1) := by decide +kernel
theorem dX3_mostDetail_32 : decode cX3_mostDetail 32 = .ok (.iconst 5, 1) := by decide +kernel
theorem dX3_mostDetail_33 : decode cX3_mostDetail 33 = .ok (.ireturn, 1) := by decide +kernel
theorem dX3_mostDetail_34 : decode cX3_mostDetail 34 = .ok (.iconst 0, 1) := by decide +kernel
theorem dX3_mostDetail_35 : decode cX3_mostDetail 35 = .ok (.ireturn, 1) := by decide +kernel
set_option maxRecDepth 20000 in
theorem ggX3_checkedQuestion_X3_checkKey : GoodIn wsX3_checkedQuestion wsX3_checkKey := goodIn_ca (goodIn_r _ [9, 1, 2] (by decide +kernel) (by decide +kernel)) (goodIn_sub (fun _ h => List.mem_cons_of_mem _ (List.mem_append_right _ h)) (by decide +kernel))
set_option maxRecDepth 20000 in
theorem gX3_checkedQuestion_X3_checkKey : GoodIn wsX3_checkedQuestion (va_wsS RX3 103 yX3_checkKey wsX3_checkKey) := goodIn_app (goodIn_of _ (by decide +kernel)) ggX3_checkedQuestion_X3_checkKey
set_option maxRecDepth 20000 in
theorem ggX3_checkedQuestion_X1_init : GoodIn wsX3_checkedQuestion wsX1_init := goodIn_r _ [12, 13, 14, 15, 16, 17, 18, 19, 20, 21] (by decide +kernel) (by decide +kernel)
set_option maxRecDepth 20000 in
theorem gX3_checkedQuestion_X1_init : GoodIn wsX3_checkedQuestion (wsX1_init) := ggX3_checkedQuestion_X1_init
theorem dX3_checkedQuestion_0 : decode cX3_checkedQuestion 0 = .ok (.iload_n 0, 1) := by decide +kernel
theorem dX3_checkedQuestion_1 : decode cX3_checkedQuestion 1 = .ok (.invokestatic 103, 3) := by decide +kernel
theorem dX3_checkedQuestion_4 : decode cX3_checkedQuestion 4 = .ok (.iload_n 1, 1) := by decide +kernel
theorem dX3_checkedQuestion_5 : decode cX3_checkedQuestion 5 = .ok (.iload_n 0, 1) := by decide +kernel
theorem dX3_checkedQuestion_6 : decode cX3_checkedQuestion 6 = .ok (.if_icmp .lt 10, 3) := by decide +kernel
theorem dX3_checkedQuestion_9 : decode cX3_checkedQuestion 9 = .ok (.iload_n 1, 1) := by decide +kernel
theorem dX3_checkedQuestion_10 : decode cX3_checkedQuestion 10 = .ok (.sipush 1000, 3) := by decide +kernel
theorem dX3_checkedQuestion_13 : decode cX3_checkedQuestion 13 = .ok (.if_icmp .lt 13, 3) := by decide +kernel
theorem dX3_checkedQuestion_16 : decode cX3_checkedQuestion 16 = .ok (.new 64, 3) := by decide +kernel
theorem dX3_checkedQuestion_19 : decode cX3_checkedQuestion 19 = .ok (.dup, 1) := by decide +kernel
theorem dX3_checkedQuestion_20 : decode cX3_checkedQuestion 20 = .ok (.ldc 208, 2) := by decide +kernel
theorem dX3_checkedQuestion_22 : decode cX3_checkedQuestion 22 = .ok (.invokespecial 68, 3) := by decide +kernel
theorem dX3_checkedQuestion_25 : decode cX3_checkedQuestion 25 = .ok (.athrow, 1) := by decide +kernel
theorem dX3_checkedQuestion_26 : decode cX3_checkedQuestion 26 = .ok (.iload_n 2, 1) := by decide +kernel
theorem dX3_checkedQuestion_27 : decode cX3_checkedQuestion 27 = .ok (.ifCond .lt 10, 3) := by decide +kernel
theorem dX3_checkedQuestion_30 : decode cX3_checkedQuestion 30 = .ok (.iload_n 2, 1) := by decide +kernel
theorem dX3_checkedQuestion_31 : decode cX3_checkedQuestion 31 = .ok (.sipush 1023, 3) := by decide +kernel
theorem dX3_checkedQuestion_34 : decode cX3_checkedQuestion 34 = .ok (.if_icmp .le 13, 3) := by decide +kernel
theorem dX3_checkedQuestion_37 : decode cX3_checkedQuestion 37 = .ok (.new 64, 3) := by decide +kernel
theorem dX3_checkedQuestion_40 : decode cX3_checkedQuestion 40 = .ok (.dup, 1) := by decide +kernel
theorem dX3_checkedQuestion_41 : decode cX3_checkedQuestion 41 = .ok (.ldc 210, 2) := by decide +kernel
theorem dX3_checkedQuestion_43 : decode cX3_checkedQuestion 43 = .ok (.invokespecial 68, 3) := by decide +kernel
theorem dX3_checkedQuestion_46 : decode cX3_checkedQuestion 46 = .ok (.athrow, 1) := by decide +kernel
theorem dX3_checkedQuestion_47 : decode cX3_checkedQuestion 47 = .ok (.new 212, 3) := by decide +kernel
theorem dX3_checkedQuestion_50 : decode cX3_checkedQuestion 50 = .ok (.dup, 1) := by decide +kernel
theorem dX3_checkedQuestion_51 : decode cX3_checkedQuestion 51 = .ok (.iload_n 0, 1) := by decide +kernel
theorem dX3_checkedQuestion_52 : decode cX3_checkedQuestion 52 = .ok (.iload_n 1, 1) := by decide +kernel
theorem dX3_checkedQuestion_53 : decode cX3_checkedQuestion 53 = .ok (.iload_n 2, 1) := by decide +kernel
theorem dX3_checkedQuestion_54 : decode cX3_checkedQuestion 54 = .ok (.invokespecial 214, 3) := by decide +kernel
theorem dX3_checkedQuestion_57 : decode cX3_checkedQuestion 57 = .ok (.areturn, 1) := by decide +kernel
theorem dX3_knownPart_0 : decode cX3_knownPart 0 = .ok (.iload_n 1, 1) := by decide +kernel
theorem dX3_knownPart_1 : decode cX3_knownPart 1 = .ok (.ifCond .lt 21, 3) := by decide +kernel
theorem dX3_knownPart_4 : decode cX3_knownPart 4 = .ok (.iload_n 1, 1) := by decide +kernel
theorem dX3_knownPart_5 : decode cX3_knownPart 5 = .ok (.aload_n 0, 1) := by decide +kernel
theorem dX3_knownPart_6 : decode cX3_knownPart 6 = .ok (.getfield 18, 3) := by decide +kernel
theorem dX3_knownPart_9 : decode cX3_knownPart 9 = .ok (.arraylength, 1) := by decide +kernel
theorem dX3_knownPart_10 : decode cX3_knownPart 10 = .ok (.if_icmp .ge 12, 3) := by decide +kernel
theorem dX3_knownPart_13 : decode cX3_knownPart 13 = .ok (.aload_n 0, 1) := by decide +kernel
theorem dX3_knownPart_14 : decode cX3_knownPart 14 = .ok (.getfield 18, 3) := by decide +kernel
theorem dX3_knownPart_17 : decode cX3_knownPart 17 = .ok (.iload_n 1, 1) := by decide +kernel
theorem dX3_knownPart_18 : decode cX3_knownPart 18 = .ok (.aaload, 1) := by decide +kernel
theorem dX3_knownPart_19 : decode cX3_knownPart 19 = .ok (.goto 4, 3) := by decide +kernel
theorem dX3_knownPart_22 : decode cX3_knownPart 22 = .ok (.aconst_null, 1) := by decide +kernel
theorem dX3_knownPart_23 : decode cX3_knownPart 23 = .ok (.astore_n 2, 1) := by decide +kernel
theorem dX3_knownPart_24 : decode cX3_knownPart 24 = .ok (.aload_n 2, 1) := by decide +kernel
theorem dX3_knownPart_25 : decode cX3_knownPart 25 = .ok (.ifnonnull 13, 3) := by decide +kernel
theorem dX3_knownPart_28 : decode cX3_knownPart 28 = .ok (.new 217, 3) := by decide +kernel
theorem dX3_knownPart_31 : decode cX3_knownPart 31 = .ok (.dup, 1) := by decide +kernel
theorem dX3_knownPart_32 : decode cX3_knownPart 32 = .ok (.ldc 219, 2) := by decide +kernel
theorem dX3_knownPart_34 : decode cX3_knownPart 34 = .ok (.invokespecial 221, 3) := by decide +kernel
theorem dX3_knownPart_37 : decode cX3_knownPart 37 = .ok (.athrow, 1) := by decide +kernel
theorem dX3_knownPart_38 : decode cX3_knownPart 38 = .ok (.aload_n 2, 1) := by decide +kernel
theorem dX3_knownPart_39 : decode cX3_knownPart 39 = .ok (.areturn, 1) := by decide +kernel
set_option maxRecDepth 20000 in
theorem ggX3_livingPart_X3_knownPart : GoodIn wsX3_livingPart wsX3_knownPart := goodIn_ca (goodIn_r _ [8, 1, 2, 9, 16, 17, 18, 19, 20, 21] (by decide +kernel) (by decide +kernel)) (goodIn_sub (fun _ h => List.mem_cons_of_mem _ (List.mem_append_right _ h)) (by decide +kernel))
set_option maxRecDepth 20000 in
theorem gX3_livingPart_X3_knownPart : GoodIn wsX3_livingPart (wsV RX3 147 RX3 yX3_knownPart wsX3_knownPart) := goodIn_app (goodIn_of _ (by decide +kernel)) ggX3_livingPart_X3_knownPart
theorem dX3_livingPart_0 : decode cX3_livingPart 0 = .ok (.aload_n 0, 1) := by decide +kernel
theorem dX3_livingPart_1 : decode cX3_livingPart 1 = .ok (.iload_n 1, 1) := by decide +kernel
theorem dX3_livingPart_2 : decode cX3_livingPart 2 = .ok (.invokevirtual 147, 3) := by decide +kernel
theorem dX3_livingPart_5 : decode cX3_livingPart 5 = .ok (.astore_n 2, 1) := by decide +kernel
theorem dX3_livingPart_6 : decode cX3_livingPart 6 = .ok (.aload_n 2, 1) := by decide +kernel
theorem dX3_livingPart_7 : decode cX3_livingPart 7 = .ok (.getfield 87, 3) := by decide +kernel
theorem dX3_livingPart_10 : decode cX3_livingPart 10 = .ok (.iconst 2, 1) := by decide +kernel
theorem dX3_livingPart_11 : decode cX3_livingPart 11 = .ok (.if_icmp .ne 13, 3) := by decide +kernel
theorem dX3_livingPart_14 : decode cX3_livingPart 14 = .ok (.new 217, 3) := by decide +kernel
theorem dX3_livingPart_17 : decode cX3_livingPart 17 = .ok (.dup, 1) := by decide +kernel
theorem dX3_livingPart_18 : decode cX3_livingPart 18 = .ok (.ldc 222, 2) := by decide +kernel
theorem dX3_livingPart_20 : decode cX3_livingPart 20 = .ok (.invokespecial 221, 3) := by decide +kernel
theorem dX3_livingPart_23 : decode cX3_livingPart 23 = .ok (.athrow, 1) := by decide +kernel
theorem dX3_livingPart_24 : decode cX3_livingPart 24 = .ok (.aload_n 2, 1) := by decide +kernel
theorem dX3_livingPart_25 : decode cX3_livingPart 25 = .ok (.areturn, 1) := by decide +kernel
set_option maxRecDepth 20000 in
theorem ggX3_livingPartWithRange_X3_livingPart : GoodIn wsX3_livingPartWithRange wsX3_livingPart := goodIn_ca (goodIn_r _ [8, 1, 2, 9, 10, 11, 12, 7, 13, 14, 21, 22, 23, 24, 25, 26, 15, 16, 17, 18, 19, 20] (by decide +kernel) (by decide +kernel)) (goodIn_sub (fun _ h => List.mem_cons_of_mem _ (List.mem_append_right _ h)) (by decide +kernel))
set_option maxRecDepth 20000 in
theorem gX3_livingPartWithRange_X3_livingPart : GoodIn wsX3_livingPartWithRange (wsV RX3 186 RX3 yX3_livingPart wsX3_livingPart) := goodIn_app (goodIn_of _ (by decide +kernel)) ggX3_livingPartWithRange_X3_livingPart
theorem dX3_livingPartWithRange_0 : decode cX3_livingPartWithRange 0 = .ok (.aload_n 0, 1) := by decide +kernel
theorem dX3_livingPartWithRange_1 : decode cX3_livingPartWithRange 1 = .ok (.iload_n 1, 1) := by decide +kernel
theorem dX3_livingPartWithRange_2 : decode cX3_livingPartWithRange 2 = .ok (.invokevirtual 186, 3) := by decide +kernel
theorem dX3_livingPartWithRange_5 : decode cX3_livingPartWithRange 5 = .ok (.astore_n 2, 1) := by decide +kernel
theorem dX3_livingPartWithRange_6 : decode cX3_livingPartWithRange 6 = .ok (.aload_n 2, 1) := by decide +kernel
theorem dX3_livingPartWithRange_7 : decode cX3_livingPartWithRange 7 = .ok (.aload_n 0, 1) := by decide +kernel
theorem dX3_livingPartWithRange_8 : decode cX3_livingPartWithRange 8 = .ok (.getfield 14, 3) := by decide +kernel
theorem dX3_livingPartWithRange_11 : decode cX3_livingPartWithRange 11 = .ok (.if_acmp .ne 13, 3) := by decide +kernel
theorem dX3_livingPartWithRange_14 : decode cX3_livingPartWithRange 14 = .ok (.new 217, 3) := by decide +kernel
theorem dX3_livingPartWithRange_17 : decode cX3_livingPartWithRange 17 = .ok (.dup, 1) := by decide +kernel
theorem dX3_livingPartWithRange_18 : decode cX3_livingPartWithRange 18 = .ok (.ldc 224, 2) := by decide +kernel
theorem dX3_livingPartWithRange_20 : decode cX3_livingPartWithRange 20 = .ok (.invokespecial 221, 3) := by decide +kernel
theorem dX3_livingPartWithRange_23 : decode cX3_livingPartWithRange 23 = .ok (.athrow, 1) := by decide +kernel
theorem dX3_livingPartWithRange_24 : decode cX3_livingPartWithRange 24 = .ok (.aload_n 2, 1) := by decide +kernel
theorem dX3_livingPartWithRange_25 : decode cX3_livingPartWithRange 25 = .ok (.areturn, 1) := by decide +kernel
set_option maxRecDepth 20000 in
theorem ggX3_livingPartWithLeaf_X3_livingPart : GoodIn wsX3_livingPartWithLeaf wsX3_livingPart := goodIn_ca (goodIn_r _ [7, 1, 2, 8, 9, 10, 11, 6, 12, 13, 21, 22, 23, 24, 25, 26, 27, 28, 29, 30, 31, 32] (by decide +kernel) (by decide +kernel)) (goodIn_sub (fun _ h => List.mem_cons_of_mem _ (List.mem_append_right _ h)) (by decide +kernel))
set_option maxRecDepth 20000 in
theorem gX3_livingPartWithLeaf_X3_livingPart : GoodIn wsX3_livingPartWithLeaf (wsV RX3 186 RX3 yX3_livingPart wsX3_livingPart) := goodIn_app (goodIn_of _ (by decide +kernel)) ggX3_livingPartWithLeaf_X3_livingPart
set_option maxRecDepth 20000 in
theorem ggX3_livingPartWithLeaf_X0_leaves : GoodIn wsX3_livingPartWithLeaf wsX0_leaves := goodIn_r _ [18, 19, 20, 21, 22, 23, 24, 25, 26] (by decide +kernel) (by decide +kernel)
set_option maxRecDepth 20000 in
theorem gX3_livingPartWithLeaf_X0_leaves : GoodIn wsX3_livingPartWithLeaf (wsV RX3 226 RX0 yX0_leaves wsX0_leaves) := goodIn_app (goodIn_of _ (by decide +kernel)) ggX3_livingPartWithLeaf_X0_leaves
theorem dX3_livingPartWithLeaf_0 : decode cX3_livingPartWithLeaf 0 = .ok (.aload_n 0, 1) := by decide +kernel
theorem dX3_livingPartWithLeaf_1 : decode cX3_livingPartWithLeaf 1 = .ok (.iload_n 1, 1) := by decide +kernel
theorem dX3_livingPartWithLeaf_2 : decode cX3_livingPartWithLeaf 2 = .ok (.invokevirtual 186, 3) := by decide +kernel
theorem dX3_livingPartWithLeaf_5 : decode cX3_livingPartWithLeaf 5 = .ok (.astore_n 3, 1) := by decide +kernel
theorem dX3_livingPartWithLeaf_6 : decode cX3_livingPartWithLeaf 6 = .ok (.iload_n 2, 1) := by decide +kernel
theorem dX3_livingPartWithLeaf_7 : decode cX3_livingPartWithLeaf 7 = .ok (.ifCond .lt 11, 3) := by decide +kernel
theorem dX3_livingPartWithLeaf_10 : decode cX3_livingPartWithLeaf 10 = .ok (.iload_n 2, 1) := by decide +kernel
theorem dX3_livingPartWithLeaf_11 : decode cX3_livingPartWithLeaf 11 = .ok (.aload_n 3, 1) := by decide +kernel
theorem dX3_livingPartWithLeaf_12 : decode cX3_livingPartWithLeaf 12 = .ok (.invokevirtual 226, 3) := by decide +kernel
theorem dX3_livingPartWithLeaf_15 : decode cX3_livingPartWithLeaf 15 = .ok (.if_icmp .lt 13, 3) := by decide +kernel
theorem dX3_livingPartWithLeaf_18 : decode cX3_livingPartWithLeaf 18 = .ok (.new 217, 3) := by decide +kernel
theorem dX3_livingPartWithLeaf_21 : decode cX3_livingPartWithLeaf 21 = .ok (.dup, 1) := by decide +kernel
theorem dX3_livingPartWithLeaf_22 : decode cX3_livingPartWithLeaf 22 = .ok (.ldc 229, 2) := by decide +kernel
theorem dX3_livingPartWithLeaf_24 : decode cX3_livingPartWithLeaf 24 = .ok (.invokespecial 221, 3) := by decide +kernel
theorem dX3_livingPartWithLeaf_27 : decode cX3_livingPartWithLeaf 27 = .ok (.athrow, 1) := by decide +kernel
theorem dX3_livingPartWithLeaf_28 : decode cX3_livingPartWithLeaf 28 = .ok (.aload_n 3, 1) := by decide +kernel
theorem dX3_livingPartWithLeaf_29 : decode cX3_livingPartWithLeaf 29 = .ok (.areturn, 1) := by decide +kernel
theorem dX3_presentRow_0 : decode cX3_presentRow 0 = .ok (.iload_n 1, 1) := by decide +kernel
theorem dX3_presentRow_1 : decode cX3_presentRow 1 = .ok (.ifCond .lt 21, 3) := by decide +kernel
theorem dX3_presentRow_4 : decode cX3_presentRow 4 = .ok (.iload_n 1, 1) := by decide +kernel
theorem dX3_presentRow_5 : decode cX3_presentRow 5 = .ok (.aload_n 0, 1) := by decide +kernel
theorem dX3_presentRow_6 : decode cX3_presentRow 6 = .ok (.getfield 24, 3) := by decide +kernel
theorem dX3_presentRow_9 : decode cX3_presentRow 9 = .ok (.arraylength, 1) := by decide +kernel
theorem dX3_presentRow_10 : decode cX3_presentRow 10 = .ok (.if_icmp .ge 12, 3) := by decide +kernel
theorem dX3_presentRow_13 : decode cX3_presentRow 13 = .ok (.aload_n 0, 1) := by decide +kernel
theorem dX3_presentRow_14 : decode cX3_presentRow 14 = .ok (.getfield 24, 3) := by decide +kernel
theorem dX3_presentRow_17 : decode cX3_presentRow 17 = .ok (.iload_n 1, 1) := by decide +kernel
theorem dX3_presentRow_18 : decode cX3_presentRow 18 = .ok (.aaload, 1) := by decide +kernel
theorem dX3_presentRow_19 : decode cX3_presentRow 19 = .ok (.goto 4, 3) := by decide +kernel
theorem dX3_presentRow_22 : decode cX3_presentRow 22 = .ok (.aconst_null, 1) := by decide +kernel
theorem dX3_presentRow_23 : decode cX3_presentRow 23 = .ok (.astore_n 2, 1) := by decide +kernel
theorem dX3_presentRow_24 : decode cX3_presentRow 24 = .ok (.aload_n 2, 1) := by decide +kernel
theorem dX3_presentRow_25 : decode cX3_presentRow 25 = .ok (.ifnonnull 13, 3) := by decide +kernel
theorem dX3_presentRow_28 : decode cX3_presentRow 28 = .ok (.new 217, 3) := by decide +kernel
theorem dX3_presentRow_31 : decode cX3_presentRow 31 = .ok (.dup, 1) := by decide +kernel
theorem dX3_presentRow_32 : decode cX3_presentRow 32 = .ok (.ldc 231, 2) := by decide +kernel
theorem dX3_presentRow_34 : decode cX3_presentRow 34 = .ok (.invokespecial 221, 3) := by decide +kernel
theorem dX3_presentRow_37 : decode cX3_presentRow 37 = .ok (.athrow, 1) := by decide +kernel
theorem dX3_presentRow_38 : decode cX3_presentRow 38 = .ok (.aload_n 2, 1) := by decide +kernel
theorem dX3_presentRow_39 : decode cX3_presentRow 39 = .ok (.areturn, 1) := by decide +kernel
theorem dX3_refuseUnlessAttached_0 : decode cX3_refuseUnlessAttached 0 = .ok (.aload_n 0, 1) := by decide +kernel
theorem dX3_refuseUnlessAttached_1 : decode cX3_refuseUnlessAttached 1 = .ok (.getfield 87, 3) := by decide +kernel
theorem dX3_refuseUnlessAttached_4 : decode cX3_refuseUnlessAttached 4 = .ok (.ifCond .eq 13, 3) := by decide +kernel
theorem dX3_refuseUnlessAttached_7 : decode cX3_refuseUnlessAttached 7 = .ok (.new 80, 3) := by decide +kernel
theorem dX3_refuseUnlessAttached_10 : decode cX3_refuseUnlessAttached 10 = .ok (.dup, 1) := by decide +kernel
theorem dX3_refuseUnlessAttached_11 : decode cX3_refuseUnlessAttached 11 = .ok (.ldc 233, 2) := by decide +kernel
theorem dX3_refuseUnlessAttached_13 : decode cX3_refuseUnlessAttached 13 = .ok (.invokespecial 84, 3) := by decide +kernel
theorem dX3_refuseUnlessAttached_16 : decode cX3_refuseUnlessAttached 16 = .ok (.athrow, 1) := by decide +kernel
theorem dX3_refuseUnlessAttached_17 : decode cX3_refuseUnlessAttached 17 = .ok (.return_, 1) := by decide +kernel
theorem dX3_refuseUnlessDetached_0 : decode cX3_refuseUnlessDetached 0 = .ok (.aload_n 0, 1) := by decide +kernel
theorem dX3_refuseUnlessDetached_1 : decode cX3_refuseUnlessDetached 1 = .ok (.getfield 87, 3) := by decide +kernel
theorem dX3_refuseUnlessDetached_4 : decode cX3_refuseUnlessDetached 4 = .ok (.iconst 1, 1) := by decide +kernel
theorem dX3_refuseUnlessDetached_5 : decode cX3_refuseUnlessDetached 5 = .ok (.if_icmp .eq 13, 3) := by decide +kernel
theorem dX3_refuseUnlessDetached_8 : decode cX3_refuseUnlessDetached 8 = .ok (.new 80, 3) := by decide +kernel
theorem dX3_refuseUnlessDetached_11 : decode cX3_refuseUnlessDetached 11 = .ok (.dup, 1) := by decide +kernel
theorem dX3_refuseUnlessDetached_12 : decode cX3_refuseUnlessDetached 12 = .ok (.ldc 235, 2) := by decide +kernel
theorem dX3_refuseUnlessDetached_14 : decode cX3_refuseUnlessDetached 14 = .ok (.invokespecial 84, 3) := by decide +kernel
theorem dX3_refuseUnlessDetached_17 : decode cX3_refuseUnlessDetached 17 = .ok (.athrow, 1) := by decide +kernel
theorem dX3_refuseUnlessDetached_18 : decode cX3_refuseUnlessDetached 18 = .ok (.return_, 1) := by decide +kernel
set_option maxRecDepth 20000 in
theorem ggX3_refuseOverlap_X0_overlaps : GoodIn wsX3_refuseOverlap wsX0_overlaps := goodIn_r _ [9, 10, 11, 18, 19, 20, 21, 22, 23] (by decide +kernel) (by decide +kernel)
set_option maxRecDepth 20000 in
theorem gX3_refuseOverlap_X0_overlaps : GoodIn wsX3_refuseOverlap (wsV RX3 237 RX0 yX0_overlaps wsX0_overlaps) := goodIn_app (goodIn_of _ (by decide +kernel)) ggX3_refuseOverlap_X0_overlaps
theorem dX3_refuseOverlap_0 : decode cX3_refuseOverlap 0 = .ok (.aload_n 0, 1) := by decide +kernel
theorem dX3_refuseOverlap_1 : decode cX3_refuseOverlap 1 = .ok (.getfield 18, 3) := by decide +kernel
theorem dX3_refuseOverlap_4 : decode cX3_refuseOverlap 4 = .ok (.astore_n 2, 1) := by decide +kernel
theorem dX3_refuseOverlap_5 : decode cX3_refuseOverlap 5 = .ok (.aload_n 2, 1) := by decide +kernel
theorem dX3_refuseOverlap_6 : decode cX3_refuseOverlap 6 = .ok (.arraylength, 1) := by decide +kernel
theorem dX3_refuseOverlap_7 : decode cX3_refuseOverlap 7 = .ok (.istore_n 3, 1) := by decide +kernel
theorem dX3_refuseOverlap_8 : decode cX3_refuseOverlap 8 = .ok (.iconst 0, 1) := by decide +kernel
theorem dX3_refuseOverlap_9 : decode cX3_refuseOverlap 9 = .ok (.istore 4, 2) := by decide +kernel
theorem dX3_refuseOverlap_11 : decode cX3_refuseOverlap 11 = .ok (.iload 4, 2) := by decide +kernel
theorem dX3_refuseOverlap_13 : decode cX3_refuseOverlap 13 = .ok (.iload_n 3, 1) := by decide +kernel
theorem dX3_refuseOverlap_14 : decode cX3_refuseOverlap 14 = .ok (.if_icmp .ge 47, 3) := by decide +kernel
theorem dX3_refuseOverlap_17 : decode cX3_refuseOverlap 17 = .ok (.aload_n 2, 1) := by decide +kernel
theorem dX3_refuseOverlap_18 : decode cX3_refuseOverlap 18 = .ok (.iload 4, 2) := by decide +kernel
theorem dX3_refuseOverlap_20 : decode cX3_refuseOverlap 20 = .ok (.aaload, 1) := by decide +kernel
theorem dX3_refuseOverlap_21 : decode cX3_refuseOverlap 21 = .ok (.astore 5, 2) := by decide +kernel
theorem dX3_refuseOverlap_23 : decode cX3_refuseOverlap 23 = .ok (.aload 5, 2) := by decide +kernel
theorem dX3_refuseOverlap_25 : decode cX3_refuseOverlap 25 = .ok (.ifnull 30, 3) := by decide +kernel
theorem dX3_refuseOverlap_28 : decode cX3_refuseOverlap 28 = .ok (.aload 5, 2) := by decide +kernel
theorem dX3_refuseOverlap_30 : decode cX3_refuseOverlap 30 = .ok (.getfield 87, 3) := by decide +kernel
theorem dX3_refuseOverlap_33 : decode cX3_refuseOverlap 33 = .ok (.ifCond .ne 22, 3) := by decide +kernel
theorem dX3_refuseOverlap_36 : decode cX3_refuseOverlap 36 = .ok (.aload 5, 2) := by decide +kernel
theorem dX3_refuseOverlap_38 : decode cX3_refuseOverlap 38 = .ok (.aload_n 1, 1) := by decide +kernel
theorem dX3_refuseOverlap_39 : decode cX3_refuseOverlap 39 = .ok (.invokevirtual 237, 3) := by decide +kernel
theorem dX3_refuseOverlap_42 : decode cX3_refuseOverlap 42 = .ok (.ifCond .eq 13, 3) := by decide +kernel
theorem dX3_refuseOverlap_45 : decode cX3_refuseOverlap 45 = .ok (.new 80, 3) := by decide +kernel
theorem dX3_refuseOverlap_48 : decode cX3_refuseOverlap 48 = .ok (.dup, 1) := by decide +kernel
theorem dX3_refuseOverlap_49 : decode cX3_refuseOverlap 49 = .ok (.ldc 241, 2) := by decide +kernel
theorem dX3_refuseOverlap_51 : decode cX3_refuseOverlap 51 = .ok (.invokespecial 84, 3) := by decide +kernel
theorem dX3_refuseOverlap_54 : decode cX3_refuseOverlap 54 = .ok (.athrow, 1) := by decide +kernel
theorem dX3_refuseOverlap_55 : decode cX3_refuseOverlap 55 = .ok (.iinc 4 1, 3) := by decide +kernel
theorem dX3_refuseOverlap_58 : decode cX3_refuseOverlap 58 = .ok (.goto (-47), 3) := by decide +kernel
theorem dX3_refuseOverlap_61 : decode cX3_refuseOverlap 61 = .ok (.return_, 1) := by decide +kernel
set_option maxRecDepth 20000 in
theorem ggX3_refuseRowsOfRest_X0_covers : GoodIn wsX3_refuseRowsOfRest wsX0_covers := goodIn_r _ [11, 12, 13, 24, 25, 26, 27, 28, 29] (by decide +kernel) (by decide +kernel)
set_option maxRecDepth 20000 in
theorem gX3_refuseRowsOfRest_X0_covers : GoodIn wsX3_refuseRowsOfRest (wsV RX3 243 RX0 yX0_covers wsX0_covers) := goodIn_app (goodIn_of _ (by decide +kernel)) ggX3_refuseRowsOfRest_X0_covers
theorem dX3_refuseRowsOfRest_0 : decode cX3_refuseRowsOfRest 0 = .ok (.aload_n 0, 1) := by decide +kernel
theorem dX3_refuseRowsOfRest_1 : decode cX3_refuseRowsOfRest 1 = .ok (.getfield 24, 3) := by decide +kernel
theorem dX3_refuseRowsOfRest_4 : decode cX3_refuseRowsOfRest 4 = .ok (.astore_n 2, 1) := by decide +kernel
theorem dX3_refuseRowsOfRest_5 : decode cX3_refuseRowsOfRest 5 = .ok (.aload_n 2, 1) := by decide +kernel
theorem dX3_refuseRowsOfRest_6 : decode cX3_refuseRowsOfRest 6 = .ok (.arraylength, 1) := by decide +kernel
theorem dX3_refuseRowsOfRest_7 : decode cX3_refuseRowsOfRest 7 = .ok (.istore_n 3, 1) := by decide +kernel
theorem dX3_refuseRowsOfRest_8 : decode cX3_refuseRowsOfRest 8 = .ok (.iconst 0, 1) := by decide +kernel
theorem dX3_refuseRowsOfRest_9 : decode cX3_refuseRowsOfRest 9 = .ok (.istore 4, 2) := by decide +kernel
theorem dX3_refuseRowsOfRest_11 : decode cX3_refuseRowsOfRest 11 = .ok (.iload 4, 2) := by decide +kernel
theorem dX3_refuseRowsOfRest_13 : decode cX3_refuseRowsOfRest 13 = .ok (.iload_n 3, 1) := by decide +kernel
theorem dX3_refuseRowsOfRest_14 : decode cX3_refuseRowsOfRest 14 = .ok (.if_icmp .ge 54, 3) := by decide +kernel
theorem dX3_refuseRowsOfRest_17 : decode cX3_refuseRowsOfRest 17 = .ok (.aload_n 2, 1) := by decide +kernel
theorem dX3_refuseRowsOfRest_18 : decode cX3_refuseRowsOfRest 18 = .ok (.iload 4, 2) := by decide +kernel
theorem dX3_refuseRowsOfRest_20 : decode cX3_refuseRowsOfRest 20 = .ok (.aaload, 1) := by decide +kernel
theorem dX3_refuseRowsOfRest_21 : decode cX3_refuseRowsOfRest 21 = .ok (.astore 5, 2) := by decide +kernel
theorem dX3_refuseRowsOfRest_23 : decode cX3_refuseRowsOfRest 23 = .ok (.aload 5, 2) := by decide +kernel
theorem dX3_refuseRowsOfRest_25 : decode cX3_refuseRowsOfRest 25 = .ok (.ifnull 37, 3) := by decide +kernel
theorem dX3_refuseRowsOfRest_28 : decode cX3_refuseRowsOfRest 28 = .ok (.aload 5, 2) := by decide +kernel
theorem dX3_refuseRowsOfRest_30 : decode cX3_refuseRowsOfRest 30 = .ok (.getfield 128, 3) := by decide +kernel
theorem dX3_refuseRowsOfRest_33 : decode cX3_refuseRowsOfRest 33 = .ok (.aload_n 0, 1) := by decide +kernel
theorem dX3_refuseRowsOfRest_34 : decode cX3_refuseRowsOfRest 34 = .ok (.getfield 14, 3) := by decide +kernel
theorem dX3_refuseRowsOfRest_37 : decode cX3_refuseRowsOfRest 37 = .ok (.if_acmp .ne 25, 3) := by decide +kernel
theorem dX3_refuseRowsOfRest_40 : decode cX3_refuseRowsOfRest 40 = .ok (.aload_n 1, 1) := by decide +kernel
theorem dX3_refuseRowsOfRest_41 : decode cX3_refuseRowsOfRest 41 = .ok (.aload 5, 2) := by decide +kernel
theorem dX3_refuseRowsOfRest_43 : decode cX3_refuseRowsOfRest 43 = .ok (.getfield 135, 3) := by decide +kernel
theorem dX3_refuseRowsOfRest_46 : decode cX3_refuseRowsOfRest 46 = .ok (.invokevirtual 243, 3) := by decide +kernel
theorem dX3_refuseRowsOfRest_49 : decode cX3_refuseRowsOfRest 49 = .ok (.ifCond .eq 13, 3) := by decide +kernel
theorem dX3_refuseRowsOfRest_52 : decode cX3_refuseRowsOfRest 52 = .ok (.new 80, 3) := by decide +kernel
theorem dX3_refuseRowsOfRest_55 : decode cX3_refuseRowsOfRest 55 = .ok (.dup, 1) := by decide +kernel
theorem dX3_refuseRowsOfRest_56 : decode cX3_refuseRowsOfRest 56 = .ok (.ldc 247, 2) := by decide +kernel
theorem dX3_refuseRowsOfRest_58 : decode cX3_refuseRowsOfRest 58 = .ok (.invokespecial 84, 3) := by decide +kernel
theorem dX3_refuseRowsOfRest_61 : decode cX3_refuseRowsOfRest 61 = .ok (.athrow, 1) := by decide +kernel
theorem dX3_refuseRowsOfRest_62 : decode cX3_refuseRowsOfRest 62 = .ok (.iinc 4 1, 3) := by decide +kernel
theorem dX3_refuseRowsOfRest_65 : decode cX3_refuseRowsOfRest 65 = .ok (.goto (-54), 3) := by decide +kernel
theorem dX3_refuseRowsOfRest_68 : decode cX3_refuseRowsOfRest 68 = .ok (.return_, 1) := by decide +kernel
set_option maxRecDepth 20000 in
theorem ggX3_refuseForeignRows_X0_covers : GoodIn wsX3_refuseForeignRows wsX0_covers := goodIn_r _ [10, 11, 12, 23, 24, 25, 26, 27, 28] (by decide +kernel) (by decide +kernel)
set_option maxRecDepth 20000 in
theorem gX3_refuseForeignRows_X0_covers : GoodIn wsX3_refuseForeignRows (wsV RX3 243 RX0 yX0_covers wsX0_covers) := goodIn_app (goodIn_of _ (by decide +kernel)) ggX3_refuseForeignRows_X0_covers
theorem dX3_refuseForeignRows_0 : decode cX3_refuseForeignRows 0 = .ok (.aload_n 0, 1) := by decide +kernel
theorem dX3_refuseForeignRows_1 : decode cX3_refuseForeignRows 1 = .ok (.getfield 24, 3) := by decide +kernel
theorem dX3_refuseForeignRows_4 : decode cX3_refuseForeignRows 4 = .ok (.astore_n 3, 1) := by decide +kernel
theorem dX3_refuseForeignRows_5 : decode cX3_refuseForeignRows 5 = .ok (.aload_n 3, 1) := by decide +kernel
theorem dX3_refuseForeignRows_6 : decode cX3_refuseForeignRows 6 = .ok (.arraylength, 1) := by decide +kernel
theorem dX3_refuseForeignRows_7 : decode cX3_refuseForeignRows 7 = .ok (.istore 4, 2) := by decide +kernel
theorem dX3_refuseForeignRows_9 : decode cX3_refuseForeignRows 9 = .ok (.iconst 0, 1) := by decide +kernel
theorem dX3_refuseForeignRows_10 : decode cX3_refuseForeignRows 10 = .ok (.istore 5, 2) := by decide +kernel
theorem dX3_refuseForeignRows_12 : decode cX3_refuseForeignRows 12 = .ok (.iload 5, 2) := by decide +kernel
theorem dX3_refuseForeignRows_14 : decode cX3_refuseForeignRows 14 = .ok (.iload 4, 2) := by decide +kernel
theorem dX3_refuseForeignRows_16 : decode cX3_refuseForeignRows 16 = .ok (.if_icmp .ge 51, 3) := by decide +kernel
theorem dX3_refuseForeignRows_19 : decode cX3_refuseForeignRows 19 = .ok (.aload_n 3, 1) := by decide +kernel
theorem dX3_refuseForeignRows_20 : decode cX3_refuseForeignRows 20 = .ok (.iload 5, 2) := by decide +kernel
theorem dX3_refuseForeignRows_22 : decode cX3_refuseForeignRows 22 = .ok (.aaload, 1) := by decide +kernel
theorem dX3_refuseForeignRows_23 : decode cX3_refuseForeignRows 23 = .ok (.astore 6, 2) := by decide +kernel
theorem dX3_refuseForeignRows_25 : decode cX3_refuseForeignRows 25 = .ok (.aload 6, 2) := by decide +kernel
theorem dX3_refuseForeignRows_27 : decode cX3_refuseForeignRows 27 = .ok (.ifnull 34, 3) := by decide +kernel
theorem dX3_refuseForeignRows_30 : decode cX3_refuseForeignRows 30 = .ok (.aload 6, 2) := by decide +kernel
theorem dX3_refuseForeignRows_32 : decode cX3_refuseForeignRows 32 = .ok (.getfield 128, 3) := by decide +kernel
theorem dX3_refuseForeignRows_35 : decode cX3_refuseForeignRows 35 = .ok (.aload_n 1, 1) := by decide +kernel
theorem dX3_refuseForeignRows_36 : decode cX3_refuseForeignRows 36 = .ok (.if_acmp .ne 25, 3) := by decide +kernel
theorem dX3_refuseForeignRows_39 : decode cX3_refuseForeignRows 39 = .ok (.aload_n 2, 1) := by decide +kernel
theorem dX3_refuseForeignRows_40 : decode cX3_refuseForeignRows 40 = .ok (.aload 6, 2) := by decide +kernel
theorem dX3_refuseForeignRows_42 : decode cX3_refuseForeignRows 42 = .ok (.getfield 135, 3) := by decide +kernel
theorem dX3_refuseForeignRows_45 : decode cX3_refuseForeignRows 45 = .ok (.invokevirtual 243, 3) := by decide +kernel
theorem dX3_refuseForeignRows_48 : decode cX3_refuseForeignRows 48 = .ok (.ifCond .ne 13, 3) := by decide +kernel
theorem dX3_refuseForeignRows_51 : decode cX3_refuseForeignRows 51 = .ok (.new 80, 3) := by decide +kernel
theorem dX3_refuseForeignRows_54 : decode cX3_refuseForeignRows 54 = .ok (.dup, 1) := by decide +kernel
theorem dX3_refuseForeignRows_55 : decode cX3_refuseForeignRows 55 = .ok (.ldc 249, 2) := by decide +kernel
theorem dX3_refuseForeignRows_57 : decode cX3_refuseForeignRows 57 = .ok (.invokespecial 84, 3) := by decide +kernel
theorem dX3_refuseForeignRows_60 : decode cX3_refuseForeignRows 60 = .ok (.athrow, 1) := by decide +kernel
theorem dX3_refuseForeignRows_61 : decode cX3_refuseForeignRows 61 = .ok (.iinc 5 1, 3) := by decide +kernel
theorem dX3_refuseForeignRows_64 : decode cX3_refuseForeignRows 64 = .ok (.goto (-52), 3) := by decide +kernel
theorem dX3_refuseForeignRows_67 : decode cX3_refuseForeignRows 67 = .ok (.return_, 1) := by decide +kernel
set_option maxRecDepth 20000 in
theorem ggX3_plannedPart_X3_checkRange : GoodIn wsX3_plannedPart wsX3_checkRange := goodIn_ca (goodIn_r _ [8, 9, 10, 11, 12, 7, 13] (by decide +kernel) (by decide +kernel)) (goodIn_sub (fun _ h => List.mem_cons_of_mem _ (List.mem_append_right _ h)) (by decide +kernel))
set_option maxRecDepth 20000 in
theorem gX3_plannedPart_X3_checkRange : GoodIn wsX3_plannedPart (va_wsS RX3 251 yX3_checkRange wsX3_checkRange) := goodIn_app (goodIn_of _ (by decide +kernel)) ggX3_plannedPart_X3_checkRange
set_option maxRecDepth 20000 in
theorem ggX3_plannedPart_X3_checkKind : GoodIn wsX3_plannedPart wsX3_checkKind := goodIn_ca (goodIn_r _ [16, 9, 10, 17, 18, 7, 19, 20, 21, 22] (by decide +kernel) (by decide +kernel)) (goodIn_sub (fun _ h => List.mem_cons_of_mem _ (List.mem_append_right _ h)) (by decide +kernel))
set_option maxRecDepth 20000 in
theorem gX3_plannedPart_X3_checkKind : GoodIn wsX3_plannedPart (va_wsS RX3 255 yX3_checkKind wsX3_checkKind) := goodIn_app (goodIn_of _ (by decide +kernel)) ggX3_plannedPart_X3_checkKind
set_option maxRecDepth 20000 in
theorem ggX3_plannedPart_X0_init : GoodIn wsX3_plannedPart wsX0_init := goodIn_r _ [25, 26, 27, 28, 29, 30, 31, 32, 33, 34, 35, 36, 37, 38, 39, 40] (by decide +kernel) (by decide +kernel)
set_option maxRecDepth 20000 in
theorem gX3_plannedPart_X0_init : GoodIn wsX3_plannedPart (wsX0_init) := ggX3_plannedPart_X0_init
theorem dX3_plannedPart_0 : decode cX3_plannedPart 0 = .ok (.iload_n 1, 1) := by decide +kernel
theorem dX3_plannedPart_1 : decode cX3_plannedPart 1 = .ok (.iload_n 2, 1) := by decide +kernel
theorem dX3_plannedPart_2 : decode cX3_plannedPart 2 = .ok (.invokestatic 251, 3) := by decide +kernel
theorem dX3_plannedPart_5 : decode cX3_plannedPart 5 = .ok (.iload_n 3, 1) := by decide +kernel
theorem dX3_plannedPart_6 : decode cX3_plannedPart 6 = .ok (.iload 4, 2) := by decide +kernel
theorem dX3_plannedPart_8 : decode cX3_plannedPart 8 = .ok (.invokestatic 255, 3) := by decide +kernel
theorem dX3_plannedPart_11 : decode cX3_plannedPart 11 = .ok (.new 7, 3) := by decide +kernel
theorem dX3_plannedPart_14 : decode cX3_plannedPart 14 = .ok (.dup, 1) := by decide +kernel
theorem dX3_plannedPart_15 : decode cX3_plannedPart 15 = .ok (.aload_n 0, 1) := by decide +kernel
theorem dX3_plannedPart_16 : decode cX3_plannedPart 16 = .ok (.getfield 144, 3) := by decide +kernel
theorem dX3_plannedPart_19 : decode cX3_plannedPart 19 = .ok (.iconst 1, 1) := by decide +kernel
theorem dX3_plannedPart_20 : decode cX3_plannedPart 20 = .ok (.iadd, 1) := by decide +kernel
theorem dX3_plannedPart_21 : decode cX3_plannedPart 21 = .ok (.iload_n 1, 1) := by decide +kernel
theorem dX3_plannedPart_22 : decode cX3_plannedPart 22 = .ok (.iload_n 2, 1) := by decide +kernel
theorem dX3_plannedPart_23 : decode cX3_plannedPart 23 = .ok (.iload_n 3, 1) := by decide +kernel
theorem dX3_plannedPart_24 : decode cX3_plannedPart 24 = .ok (.iload 4, 2) := by decide +kernel
theorem dX3_plannedPart_26 : decode cX3_plannedPart 26 = .ok (.invokespecial 11, 3) := by decide +kernel
theorem dX3_plannedPart_29 : decode cX3_plannedPart 29 = .ok (.areturn, 1) := by decide +kernel
theorem dX3_keepPart_0 : decode cX3_keepPart 0 = .ok (.aload_n 1, 1) := by decide +kernel
theorem dX3_keepPart_1 : decode cX3_keepPart 1 = .ok (.getfield 42, 3) := by decide +kernel
theorem dX3_keepPart_4 : decode cX3_keepPart 4 = .ok (.aload_n 0, 1) := by decide +kernel
theorem dX3_keepPart_5 : decode cX3_keepPart 5 = .ok (.getfield 18, 3) := by decide +kernel
theorem dX3_keepPart_8 : decode cX3_keepPart 8 = .ok (.arraylength, 1) := by decide +kernel
theorem dX3_keepPart_9 : decode cX3_keepPart 9 = .ok (.if_icmp .lt 14, 3) := by decide +kernel
theorem dX3_keepPart_12 : decode cX3_keepPart 12 = .ok (.new 80, 3) := by decide +kernel
theorem dX3_keepPart_15 : decode cX3_keepPart 15 = .ok (.dup, 1) := by decide +kernel
theorem dX3_keepPart_16 : decode cX3_keepPart 16 = .ok (.ldc_w 258, 3) := by decide +kernel
theorem dX3_keepPart_19 : decode cX3_keepPart 19 = .ok (.invokespecial 84, 3) := by decide +kernel
theorem dX3_keepPart_22 : decode cX3_keepPart 22 = .ok (.athrow, 1) := by decide +kernel
theorem dX3_keepPart_23 : decode cX3_keepPart 23 = .ok (.aload_n 0, 1) := by decide +kernel
theorem dX3_keepPart_24 : decode cX3_keepPart 24 = .ok (.getfield 18, 3) := by decide +kernel
theorem dX3_keepPart_27 : decode cX3_keepPart 27 = .ok (.aload_n 1, 1) := by decide +kernel
theorem dX3_keepPart_28 : decode cX3_keepPart 28 = .ok (.getfield 42, 3) := by decide +kernel
theorem dX3_keepPart_31 : decode cX3_keepPart 31 = .ok (.aload_n 1, 1) := by decide +kernel
theorem dX3_keepPart_32 : decode cX3_keepPart 32 = .ok (.aastore, 1) := by decide +kernel
theorem dX3_keepPart_33 : decode cX3_keepPart 33 = .ok (.aload_n 0, 1) := by decide +kernel
theorem dX3_keepPart_34 : decode cX3_keepPart 34 = .ok (.aload_n 1, 1) := by decide +kernel
theorem dX3_keepPart_35 : decode cX3_keepPart 35 = .ok (.getfield 42, 3) := by decide +kernel
theorem dX3_keepPart_38 : decode cX3_keepPart 38 = .ok (.putfield 144, 3) := by decide +kernel
theorem dX3_keepPart_41 : decode cX3_keepPart 41 = .ok (.return_, 1) := by decide +kernel
set_option maxRecDepth 20000 in
theorem ggX3_holderOf_X0_covers : GoodIn wsX3_holderOf wsX0_covers := goodIn_r _ [8, 9, 10, 17, 18, 19, 20, 21, 22] (by decide +kernel) (by decide +kernel)
set_option maxRecDepth 20000 in
theorem gX3_holderOf_X0_covers : GoodIn wsX3_holderOf (wsV RX3 243 RX0 yX0_covers wsX0_covers) := goodIn_app (goodIn_of _ (by decide +kernel)) ggX3_holderOf_X0_covers
theorem dX3_holderOf_0 : decode cX3_holderOf 0 = .ok (.aload_n 0, 1) := by decide +kernel
theorem dX3_holderOf_1 : decode cX3_holderOf 1 = .ok (.getfield 18, 3) := by decide +kernel
theorem dX3_holderOf_4 : decode cX3_holderOf 4 = .ok (.astore_n 2, 1) := by decide +kernel
theorem dX3_holderOf_5 : decode cX3_holderOf 5 = .ok (.aload_n 2, 1) := by decide +kernel
theorem dX3_holderOf_6 : decode cX3_holderOf 6 = .ok (.arraylength, 1) := by decide +kernel
theorem dX3_holderOf_7 : decode cX3_holderOf 7 = .ok (.istore_n 3, 1) := by decide +kernel
theorem dX3_holderOf_8 : decode cX3_holderOf 8 = .ok (.iconst 0, 1) := by decide +kernel
theorem dX3_holderOf_9 : decode cX3_holderOf 9 = .ok (.istore 4, 2) := by decide +kernel
theorem dX3_holderOf_11 : decode cX3_holderOf 11 = .ok (.iload 4, 2) := by decide +kernel
theorem dX3_holderOf_13 : decode cX3_holderOf 13 = .ok (.iload_n 3, 1) := by decide +kernel
theorem dX3_holderOf_14 : decode cX3_holderOf 14 = .ok (.if_icmp .ge 40, 3) := by decide +kernel
theorem dX3_holderOf_17 : decode cX3_holderOf 17 = .ok (.aload_n 2, 1) := by decide +kernel
theorem dX3_holderOf_18 : decode cX3_holderOf 18 = .ok (.iload 4, 2) := by decide +kernel
theorem dX3_holderOf_20 : decode cX3_holderOf 20 = .ok (.aaload, 1) := by decide +kernel
theorem dX3_holderOf_21 : decode cX3_holderOf 21 = .ok (.astore 5, 2) := by decide +kernel
theorem dX3_holderOf_23 : decode cX3_holderOf 23 = .ok (.aload 5, 2) := by decide +kernel
theorem dX3_holderOf_25 : decode cX3_holderOf 25 = .ok (.ifnull 23, 3) := by decide +kernel
theorem dX3_holderOf_28 : decode cX3_holderOf 28 = .ok (.aload 5, 2) := by decide +kernel
theorem dX3_holderOf_30 : decode cX3_holderOf 30 = .ok (.getfield 87, 3) := by decide +kernel
theorem dX3_holderOf_33 : decode cX3_holderOf 33 = .ok (.ifCond .ne 15, 3) := by decide +kernel
theorem dX3_holderOf_36 : decode cX3_holderOf 36 = .ok (.aload 5, 2) := by decide +kernel
theorem dX3_holderOf_38 : decode cX3_holderOf 38 = .ok (.iload_n 1, 1) := by decide +kernel
theorem dX3_holderOf_39 : decode cX3_holderOf 39 = .ok (.invokevirtual 243, 3) := by decide +kernel
theorem dX3_holderOf_42 : decode cX3_holderOf 42 = .ok (.ifCond .eq 6, 3) := by decide +kernel
theorem dX3_holderOf_45 : decode cX3_holderOf 45 = .ok (.aload 5, 2) := by decide +kernel
theorem dX3_holderOf_47 : decode cX3_holderOf 47 = .ok (.areturn, 1) := by decide +kernel
theorem dX3_holderOf_48 : decode cX3_holderOf 48 = .ok (.iinc 4 1, 3) := by decide +kernel
theorem dX3_holderOf_51 : decode cX3_holderOf 51 = .ok (.goto (-40), 3) := by decide +kernel
theorem dX3_holderOf_54 : decode cX3_holderOf 54 = .ok (.aload_n 0, 1) := by decide +kernel
theorem dX3_holderOf_55 : decode cX3_holderOf 55 = .ok (.getfield 14, 3) := by decide +kernel
theorem dX3_holderOf_58 : decode cX3_holderOf 58 = .ok (.areturn, 1) := by decide +kernel
set_option maxRecDepth 20000 in
theorem ggX3_moveRows_X0_covers : GoodIn wsX3_moveRows wsX0_covers := goodIn_r _ [8, 9, 10, 21, 22, 23, 24, 25, 26] (by decide +kernel) (by decide +kernel)
set_option maxRecDepth 20000 in
theorem gX3_moveRows_X0_covers : GoodIn wsX3_moveRows (wsV RX3 243 RX0 yX0_covers wsX0_covers) := goodIn_app (goodIn_of _ (by decide +kernel)) ggX3_moveRows_X0_covers
theorem dX3_moveRows_0 : decode cX3_moveRows 0 = .ok (.aload_n 0, 1) := by decide +kernel
theorem dX3_moveRows_1 : decode cX3_moveRows 1 = .ok (.getfield 24, 3) := by decide +kernel
theorem dX3_moveRows_4 : decode cX3_moveRows 4 = .ok (.astore_n 3, 1) := by decide +kernel
theorem dX3_moveRows_5 : decode cX3_moveRows 5 = .ok (.aload_n 3, 1) := by decide +kernel
theorem dX3_moveRows_6 : decode cX3_moveRows 6 = .ok (.arraylength, 1) := by decide +kernel
theorem dX3_moveRows_7 : decode cX3_moveRows 7 = .ok (.istore 4, 2) := by decide +kernel
theorem dX3_moveRows_9 : decode cX3_moveRows 9 = .ok (.iconst 0, 1) := by decide +kernel
theorem dX3_moveRows_10 : decode cX3_moveRows 10 = .ok (.istore 5, 2) := by decide +kernel
theorem dX3_moveRows_12 : decode cX3_moveRows 12 = .ok (.iload 5, 2) := by decide +kernel
theorem dX3_moveRows_14 : decode cX3_moveRows 14 = .ok (.iload 4, 2) := by decide +kernel
theorem dX3_moveRows_16 : decode cX3_moveRows 16 = .ok (.if_icmp .ge 47, 3) := by decide +kernel
theorem dX3_moveRows_19 : decode cX3_moveRows 19 = .ok (.aload_n 3, 1) := by decide +kernel
theorem dX3_moveRows_20 : decode cX3_moveRows 20 = .ok (.iload 5, 2) := by decide +kernel
theorem dX3_moveRows_22 : decode cX3_moveRows 22 = .ok (.aaload, 1) := by decide +kernel
theorem dX3_moveRows_23 : decode cX3_moveRows 23 = .ok (.astore 6, 2) := by decide +kernel
theorem dX3_moveRows_25 : decode cX3_moveRows 25 = .ok (.aload 6, 2) := by decide +kernel
theorem dX3_moveRows_27 : decode cX3_moveRows 27 = .ok (.ifnull 30, 3) := by decide +kernel
theorem dX3_moveRows_30 : decode cX3_moveRows 30 = .ok (.aload 6, 2) := by decide +kernel
theorem dX3_moveRows_32 : decode cX3_moveRows 32 = .ok (.getfield 128, 3) := by decide +kernel
theorem dX3_moveRows_35 : decode cX3_moveRows 35 = .ok (.aload_n 1, 1) := by decide +kernel
theorem dX3_moveRows_36 : decode cX3_moveRows 36 = .ok (.if_acmp .ne 21, 3) := by decide +kernel
theorem dX3_moveRows_39 : decode cX3_moveRows 39 = .ok (.aload_n 2, 1) := by decide +kernel
theorem dX3_moveRows_40 : decode cX3_moveRows 40 = .ok (.aload 6, 2) := by decide +kernel
theorem dX3_moveRows_42 : decode cX3_moveRows 42 = .ok (.getfield 135, 3) := by decide +kernel
theorem dX3_moveRows_45 : decode cX3_moveRows 45 = .ok (.invokevirtual 243, 3) := by decide +kernel
theorem dX3_moveRows_48 : decode cX3_moveRows 48 = .ok (.ifCond .eq 9, 3) := by decide +kernel
theorem dX3_moveRows_51 : decode cX3_moveRows 51 = .ok (.aload 6, 2) := by decide +kernel
theorem dX3_moveRows_53 : decode cX3_moveRows 53 = .ok (.aload_n 2, 1) := by decide +kernel
theorem dX3_moveRows_54 : decode cX3_moveRows 54 = .ok (.putfield 128, 3) := by decide +kernel
theorem dX3_moveRows_57 : decode cX3_moveRows 57 = .ok (.iinc 5 1, 3) := by decide +kernel
theorem dX3_moveRows_60 : decode cX3_moveRows 60 = .ok (.goto (-48), 3) := by decide +kernel
theorem dX3_moveRows_63 : decode cX3_moveRows 63 = .ok (.return_, 1) := by decide +kernel
theorem dX3_swapRows_0 : decode cX3_swapRows 0 = .ok (.aload_n 0, 1) := by decide +kernel
theorem dX3_swapRows_1 : decode cX3_swapRows 1 = .ok (.getfield 24, 3) := by decide +kernel
theorem dX3_swapRows_4 : decode cX3_swapRows 4 = .ok (.astore_n 3, 1) := by decide +kernel
theorem dX3_swapRows_5 : decode cX3_swapRows 5 = .ok (.aload_n 3, 1) := by decide +kernel
theorem dX3_swapRows_6 : decode cX3_swapRows 6 = .ok (.arraylength, 1) := by decide +kernel
theorem dX3_swapRows_7 : decode cX3_swapRows 7 = .ok (.istore 4, 2) := by decide +kernel
theorem dX3_swapRows_9 : decode cX3_swapRows 9 = .ok (.iconst 0, 1) := by decide +kernel
theorem dX3_swapRows_10 : decode cX3_swapRows 10 = .ok (.istore 5, 2) := by decide +kernel
theorem dX3_swapRows_12 : decode cX3_swapRows 12 = .ok (.iload 5, 2) := by decide +kernel
theorem dX3_swapRows_14 : decode cX3_swapRows 14 = .ok (.iload 4, 2) := by decide +kernel
theorem dX3_swapRows_16 : decode cX3_swapRows 16 = .ok (.if_icmp .ge 56, 3) := by decide +kernel
theorem dX3_swapRows_19 : decode cX3_swapRows 19 = .ok (.aload_n 3, 1) := by decide +kernel
theorem dX3_swapRows_20 : decode cX3_swapRows 20 = .ok (.iload 5, 2) := by decide +kernel
theorem dX3_swapRows_22 : decode cX3_swapRows 22 = .ok (.aaload, 1) := by decide +kernel
theorem dX3_swapRows_23 : decode cX3_swapRows 23 = .ok (.astore 6, 2) := by decide +kernel
theorem dX3_swapRows_25 : decode cX3_swapRows 25 = .ok (.aload 6, 2) := by decide +kernel
theorem dX3_swapRows_27 : decode cX3_swapRows 27 = .ok (.ifnonnull 6, 3) := by decide +kernel
theorem dX3_swapRows_30 : decode cX3_swapRows 30 = .ok (.goto 36, 3) := by decide +kernel
theorem dX3_swapRows_33 : decode cX3_swapRows 33 = .ok (.aload 6, 2) := by decide +kernel
theorem dX3_swapRows_35 : decode cX3_swapRows 35 = .ok (.getfield 128, 3) := by decide +kernel
theorem dX3_swapRows_38 : decode cX3_swapRows 38 = .ok (.aload_n 1, 1) := by decide +kernel
theorem dX3_swapRows_39 : decode cX3_swapRows 39 = .ok (.if_acmp .ne 12, 3) := by decide +kernel
theorem dX3_swapRows_42 : decode cX3_swapRows 42 = .ok (.aload 6, 2) := by decide +kernel
theorem dX3_swapRows_44 : decode cX3_swapRows 44 = .ok (.aload_n 2, 1) := by decide +kernel
theorem dX3_swapRows_45 : decode cX3_swapRows 45 = .ok (.putfield 128, 3) := by decide +kernel
theorem dX3_swapRows_48 : decode cX3_swapRows 48 = .ok (.goto 18, 3) := by decide +kernel
theorem dX3_swapRows_51 : decode cX3_swapRows 51 = .ok (.aload 6, 2) := by decide +kernel
theorem dX3_swapRows_53 : decode cX3_swapRows 53 = .ok (.getfield 128, 3) := by decide +kernel
theorem dX3_swapRows_56 : decode cX3_swapRows 56 = .ok (.aload_n 2, 1) := by decide +kernel
theorem dX3_swapRows_57 : decode cX3_swapRows 57 = .ok (.if_acmp .ne 9, 3) := by decide +kernel
theorem dX3_swapRows_60 : decode cX3_swapRows 60 = .ok (.aload 6, 2) := by decide +kernel
theorem dX3_swapRows_62 : decode cX3_swapRows 62 = .ok (.aload_n 1, 1) := by decide +kernel
theorem dX3_swapRows_63 : decode cX3_swapRows 63 = .ok (.putfield 128, 3) := by decide +kernel
theorem dX3_swapRows_66 : decode cX3_swapRows 66 = .ok (.iinc 5 1, 3) := by decide +kernel
theorem dX3_swapRows_69 : decode cX3_swapRows 69 = .ok (.goto (-57), 3) := by decide +kernel
theorem dX3_swapRows_72 : decode cX3_swapRows 72 = .ok (.return_, 1) := by decide +kernel
theorem dX3_rowsOf_0 : decode cX3_rowsOf 0 = .ok (.iconst 0, 1) := by decide +kernel
theorem dX3_rowsOf_1 : decode cX3_rowsOf 1 = .ok (.istore_n 2, 1) := by decide +kernel
theorem dX3_rowsOf_2 : decode cX3_rowsOf 2 = .ok (.aload_n 0, 1) := by decide +kernel
theorem dX3_rowsOf_3 : decode cX3_rowsOf 3 = .ok (.getfield 24, 3) := by decide +kernel
theorem dX3_rowsOf_6 : decode cX3_rowsOf 6 = .ok (.astore_n 3, 1) := by decide +kernel
theorem dX3_rowsOf_7 : decode cX3_rowsOf 7 = .ok (.aload_n 3, 1) := by decide +kernel
theorem dX3_rowsOf_8 : decode cX3_rowsOf 8 = .ok (.arraylength, 1) := by decide +kernel
theorem dX3_rowsOf_9 : decode cX3_rowsOf 9 = .ok (.istore 4, 2) := by decide +kernel
theorem dX3_rowsOf_11 : decode cX3_rowsOf 11 = .ok (.iconst 0, 1) := by decide +kernel
theorem dX3_rowsOf_12 : decode cX3_rowsOf 12 = .ok (.istore 5, 2) := by decide +kernel
theorem dX3_rowsOf_14 : decode cX3_rowsOf 14 = .ok (.iload 5, 2) := by decide +kernel
theorem dX3_rowsOf_16 : decode cX3_rowsOf 16 = .ok (.iload 4, 2) := by decide +kernel
theorem dX3_rowsOf_18 : decode cX3_rowsOf 18 = .ok (.if_icmp .ge 32, 3) := by decide +kernel
theorem dX3_rowsOf_21 : decode cX3_rowsOf 21 = .ok (.aload_n 3, 1) := by decide +kernel
theorem dX3_rowsOf_22 : decode cX3_rowsOf 22 = .ok (.iload 5, 2) := by decide +kernel
theorem dX3_rowsOf_24 : decode cX3_rowsOf 24 = .ok (.aaload, 1) := by decide +kernel
theorem dX3_rowsOf_25 : decode cX3_rowsOf 25 = .ok (.astore 6, 2) := by decide +kernel
theorem dX3_rowsOf_27 : decode cX3_rowsOf 27 = .ok (.aload 6, 2) := by decide +kernel
theorem dX3_rowsOf_29 : decode cX3_rowsOf 29 = .ok (.ifnull 15, 3) := by decide +kernel
theorem dX3_rowsOf_32 : decode cX3_rowsOf 32 = .ok (.aload 6, 2) := by decide +kernel
theorem dX3_rowsOf_34 : decode cX3_rowsOf 34 = .ok (.getfield 128, 3) := by decide +kernel
theorem dX3_rowsOf_37 : decode cX3_rowsOf 37 = .ok (.aload_n 1, 1) := by decide +kernel
theorem dX3_rowsOf_38 : decode cX3_rowsOf 38 = .ok (.if_acmp .ne 6, 3) := by decide +kernel
theorem dX3_rowsOf_41 : decode cX3_rowsOf 41 = .ok (.iinc 2 1, 3) := by decide +kernel
theorem dX3_rowsOf_44 : decode cX3_rowsOf 44 = .ok (.iinc 5 1, 3) := by decide +kernel
theorem dX3_rowsOf_47 : decode cX3_rowsOf 47 = .ok (.goto (-33), 3) := by decide +kernel
theorem dX3_rowsOf_50 : decode cX3_rowsOf 50 = .ok (.iload_n 2, 1) := by decide +kernel
theorem dX3_rowsOf_51 : decode cX3_rowsOf 51 = .ok (.ireturn, 1) := by decide +kernel
set_option maxRecDepth 20000 in
theorem ggX3_mayMatter_X3_restMayHold : GoodIn wsX3_mayMatter wsX3_restMayHold := goodIn_r _ [10, 3, 11, 12, 13, 14, 9, 15, 16, 1, 17, 18, 19, 20, 21, 22, 23, 61, 62, 63, 64, 65, 66, 52, 53, 54, 55, 56, 57] (by decide +kernel) (by decide +kernel)
set_option maxRecDepth 20000 in
theorem gX3_mayMatter_X3_restMayHold : GoodIn wsX3_mayMatter (wsV RX3 269 RX3 yX3_restMayHold wsX3_restMayHold) := goodIn_app (goodIn_of _ (by decide +kernel)) ggX3_mayMatter_X3_restMayHold
set_option maxRecDepth 20000 in
theorem ggX3_mayMatter_X0_mayHold : GoodIn wsX3_mayMatter wsX0_mayHold := goodIn_r _ [27, 22, 28, 29, 30, 31, 32, 23, 33, 34, 35, 36, 37, 38, 39, 40, 41, 20, 42, 43, 44, 45, 46, 47, 48, 49, 50, 51, 52, 53, 54, 55, 56, 57, 58, 59, 60] (by decide +kernel) (by decide +kernel)
set_option maxRecDepth 20000 in
theorem gX3_mayMatter_X0_mayHold : GoodIn wsX3_mayMatter (wsV RX3 273 RX0 yX0_mayHold wsX0_mayHold) := goodIn_app (goodIn_of _ (by decide +kernel)) ggX3_mayMatter_X0_mayHold
theorem dX3_mayMatter_0 : decode cX3_mayMatter 0 = .ok (.aload_n 1, 1) := by decide +kernel
theorem dX3_mayMatter_1 : decode cX3_mayMatter 1 = .ok (.getfield 87, 3) := by decide +kernel
theorem dX3_mayMatter_4 : decode cX3_mayMatter 4 = .ok (.ifCond .ne 10, 3) := by decide +kernel
theorem dX3_mayMatter_7 : decode cX3_mayMatter 7 = .ok (.aload_n 3, 1) := by decide +kernel
theorem dX3_mayMatter_8 : decode cX3_mayMatter 8 = .ok (.getfield 260, 3) := by decide +kernel
theorem dX3_mayMatter_11 : decode cX3_mayMatter 11 = .ok (.ifCond .ne 5, 3) := by decide +kernel
theorem dX3_mayMatter_14 : decode cX3_mayMatter 14 = .ok (.iconst 0, 1) := by decide +kernel
theorem dX3_mayMatter_15 : decode cX3_mayMatter 15 = .ok (.ireturn, 1) := by decide +kernel
theorem dX3_mayMatter_16 : decode cX3_mayMatter 16 = .ok (.aload_n 1, 1) := by decide +kernel
theorem dX3_mayMatter_17 : decode cX3_mayMatter 17 = .ok (.aload_n 0, 1) := by decide +kernel
theorem dX3_mayMatter_18 : decode cX3_mayMatter 18 = .ok (.getfield 14, 3) := by decide +kernel
theorem dX3_mayMatter_21 : decode cX3_mayMatter 21 = .ok (.if_acmp .ne 16, 3) := by decide +kernel
theorem dX3_mayMatter_24 : decode cX3_mayMatter 24 = .ok (.aload_n 0, 1) := by decide +kernel
theorem dX3_mayMatter_25 : decode cX3_mayMatter 25 = .ok (.aload_n 3, 1) := by decide +kernel
theorem dX3_mayMatter_26 : decode cX3_mayMatter 26 = .ok (.getfield 263, 3) := by decide +kernel
theorem dX3_mayMatter_29 : decode cX3_mayMatter 29 = .ok (.aload_n 3, 1) := by decide +kernel
theorem dX3_mayMatter_30 : decode cX3_mayMatter 30 = .ok (.getfield 266, 3) := by decide +kernel
theorem dX3_mayMatter_33 : decode cX3_mayMatter 33 = .ok (.invokevirtual 269, 3) := by decide +kernel
theorem dX3_mayMatter_36 : decode cX3_mayMatter 36 = .ok (.ireturn, 1) := by decide +kernel
theorem dX3_mayMatter_37 : decode cX3_mayMatter 37 = .ok (.aload_n 1, 1) := by decide +kernel
theorem dX3_mayMatter_38 : decode cX3_mayMatter 38 = .ok (.iload_n 2, 1) := by decide +kernel
theorem dX3_mayMatter_39 : decode cX3_mayMatter 39 = .ok (.aload_n 3, 1) := by decide +kernel
theorem dX3_mayMatter_40 : decode cX3_mayMatter 40 = .ok (.invokevirtual 273, 3) := by decide +kernel
theorem dX3_mayMatter_43 : decode cX3_mayMatter 43 = .ok (.ireturn, 1) := by decide +kernel
set_option maxRecDepth 20000 in
theorem ggX3_restMayHold_X3_holderOf : GoodIn wsX3_restMayHold wsX3_holderOf := goodIn_r _ [7, 8, 9, 1, 10, 11, 12, 13, 14, 15, 16, 17, 18, 19, 20, 21, 22, 23, 24, 25, 26, 27, 28] (by decide +kernel) (by decide +kernel)
set_option maxRecDepth 20000 in
theorem gX3_restMayHold_X3_holderOf : GoodIn wsX3_restMayHold (wsV RX3 118 RX3 yX3_holderOf wsX3_holderOf) := goodIn_app (goodIn_of _ (by decide +kernel)) ggX3_restMayHold_X3_holderOf
theorem dX3_restMayHold_0 : decode cX3_restMayHold 0 = .ok (.iload_n 1, 1) := by decide +kernel
theorem dX3_restMayHold_1 : decode cX3_restMayHold 1 = .ok (.istore_n 3, 1) := by decide +kernel
theorem dX3_restMayHold_2 : decode cX3_restMayHold 2 = .ok (.iconst 0, 1) := by decide +kernel
theorem dX3_restMayHold_3 : decode cX3_restMayHold 3 = .ok (.istore 4, 2) := by decide +kernel
theorem dX3_restMayHold_5 : decode cX3_restMayHold 5 = .ok (.iload 4, 2) := by decide +kernel
theorem dX3_restMayHold_7 : decode cX3_restMayHold 7 = .ok (.bipush 15, 2) := by decide +kernel
theorem dX3_restMayHold_9 : decode cX3_restMayHold 9 = .ok (.if_icmp .gt 38, 3) := by decide +kernel
theorem dX3_restMayHold_12 : decode cX3_restMayHold 12 = .ok (.iload_n 3, 1) := by decide +kernel
theorem dX3_restMayHold_13 : decode cX3_restMayHold 13 = .ok (.iload_n 2, 1) := by decide +kernel
theorem dX3_restMayHold_14 : decode cX3_restMayHold 14 = .ok (.if_icmp .gt 33, 3) := by decide +kernel
theorem dX3_restMayHold_17 : decode cX3_restMayHold 17 = .ok (.aload_n 0, 1) := by decide +kernel
theorem dX3_restMayHold_18 : decode cX3_restMayHold 18 = .ok (.iload_n 3, 1) := by decide +kernel
theorem dX3_restMayHold_19 : decode cX3_restMayHold 19 = .ok (.invokevirtual 118, 3) := by decide +kernel
theorem dX3_restMayHold_22 : decode cX3_restMayHold 22 = .ok (.astore 5, 2) := by decide +kernel
theorem dX3_restMayHold_24 : decode cX3_restMayHold 24 = .ok (.aload 5, 2) := by decide +kernel
theorem dX3_restMayHold_26 : decode cX3_restMayHold 26 = .ok (.aload_n 0, 1) := by decide +kernel
theorem dX3_restMayHold_27 : decode cX3_restMayHold 27 = .ok (.getfield 14, 3) := by decide +kernel
theorem dX3_restMayHold_30 : decode cX3_restMayHold 30 = .ok (.if_acmp .ne 5, 3) := by decide +kernel
theorem dX3_restMayHold_33 : decode cX3_restMayHold 33 = .ok (.iconst 1, 1) := by decide +kernel
theorem dX3_restMayHold_34 : decode cX3_restMayHold 34 = .ok (.ireturn, 1) := by decide +kernel
theorem dX3_restMayHold_35 : decode cX3_restMayHold 35 = .ok (.aload 5, 2) := by decide +kernel
theorem dX3_restMayHold_37 : decode cX3_restMayHold 37 = .ok (.getfield 61, 3) := by decide +kernel
theorem dX3_restMayHold_40 : decode cX3_restMayHold 40 = .ok (.istore_n 3, 1) := by decide +kernel
theorem dX3_restMayHold_41 : decode cX3_restMayHold 41 = .ok (.iinc 4 1, 3) := by decide +kernel
theorem dX3_restMayHold_44 : decode cX3_restMayHold 44 = .ok (.goto (-39), 3) := by decide +kernel
theorem dX3_restMayHold_47 : decode cX3_restMayHold 47 = .ok (.iconst 0, 1) := by decide +kernel
theorem dX3_restMayHold_48 : decode cX3_restMayHold 48 = .ok (.ireturn, 1) := by decide +kernel
set_option maxRecDepth 20000 in
theorem ggX3_leavesThatMayMatter_X0_leaves : GoodIn wsX3_leavesThatMayMatter wsX0_leaves := goodIn_r _ [5, 6, 7, 60, 61, 62, 63, 64, 65] (by decide +kernel) (by decide +kernel)
set_option maxRecDepth 20000 in
theorem gX3_leavesThatMayMatter_X0_leaves : GoodIn wsX3_leavesThatMayMatter (wsV RX3 226 RX0 yX0_leaves wsX0_leaves) := goodIn_app (goodIn_of _ (by decide +kernel)) ggX3_leavesThatMayMatter_X0_leaves
set_option maxRecDepth 20000 in
theorem ggX3_leavesThatMayMatter_X3_mayMatter : GoodIn wsX3_leavesThatMayMatter wsX3_mayMatter := goodIn_r _ [12, 13, 14, 15, 16, 17, 18, 19, 20, 11, 21, 22, 23, 24, 25, 26, 27, 28, 29, 30, 4, 31, 32, 33, 34, 35, 36, 37, 38, 39, 40, 41, 42, 43, 44, 45, 46, 6, 47, 48, 49, 50, 51, 7, 52, 53, 54, 55, 56, 57, 58, 59, 60, 61, 62, 63, 64, 65, 66, 67, 68, 69, 70, 71, 72, 73, 74] (by decide +kernel) (by decide +kernel)
set_option maxRecDepth 20000 in
theorem gX3_leavesThatMayMatter_X3_mayMatter : GoodIn wsX3_leavesThatMayMatter (wsV RX3 177 RX3 yX3_mayMatter wsX3_mayMatter) := goodIn_app (goodIn_of _ (by decide +kernel)) ggX3_leavesThatMayMatter_X3_mayMatter
theorem dX3_leavesThatMayMatter_0 : decode cX3_leavesThatMayMatter 0 = .ok (.iconst 0, 1) := by decide +kernel
theorem dX3_leavesThatMayMatter_1 : decode cX3_leavesThatMayMatter 1 = .ok (.istore_n 3, 1) := by decide +kernel
theorem dX3_leavesThatMayMatter_2 : decode cX3_leavesThatMayMatter 2 = .ok (.iconst 0, 1) := by decide +kernel
theorem dX3_leavesThatMayMatter_3 : decode cX3_leavesThatMayMatter 3 = .ok (.istore 4, 2) := by decide +kernel
theorem dX3_leavesThatMayMatter_5 : decode cX3_leavesThatMayMatter 5 = .ok (.iload 4, 2) := by decide +kernel
theorem dX3_leavesThatMayMatter_7 : decode cX3_leavesThatMayMatter 7 = .ok (.aload_n 1, 1) := by decide +kernel
theorem dX3_leavesThatMayMatter_8 : decode cX3_leavesThatMayMatter 8 = .ok (.invokevirtual 226, 3) := by decide +kernel
theorem dX3_leavesThatMayMatter_11 : decode cX3_leavesThatMayMatter 11 = .ok (.if_icmp .ge 23, 3) := by decide +kernel
theorem dX3_leavesThatMayMatter_14 : decode cX3_leavesThatMayMatter 14 = .ok (.aload_n 0, 1) := by decide +kernel
theorem dX3_leavesThatMayMatter_15 : decode cX3_leavesThatMayMatter 15 = .ok (.aload_n 1, 1) := by decide +kernel
theorem dX3_leavesThatMayMatter_16 : decode cX3_leavesThatMayMatter 16 = .ok (.iload 4, 2) := by decide +kernel
theorem dX3_leavesThatMayMatter_18 : decode cX3_leavesThatMayMatter 18 = .ok (.aload_n 2, 1) := by decide +kernel
theorem dX3_leavesThatMayMatter_19 : decode cX3_leavesThatMayMatter 19 = .ok (.invokevirtual 177, 3) := by decide +kernel
theorem dX3_leavesThatMayMatter_22 : decode cX3_leavesThatMayMatter 22 = .ok (.ifCond .eq 6, 3) := by decide +kernel
theorem dX3_leavesThatMayMatter_25 : decode cX3_leavesThatMayMatter 25 = .ok (.iinc 3 1, 3) := by decide +kernel
theorem dX3_leavesThatMayMatter_28 : decode cX3_leavesThatMayMatter 28 = .ok (.iinc 4 1, 3) := by decide +kernel
theorem dX3_leavesThatMayMatter_31 : decode cX3_leavesThatMayMatter 31 = .ok (.goto (-26), 3) := by decide +kernel
theorem dX3_leavesThatMayMatter_34 : decode cX3_leavesThatMayMatter 34 = .ok (.iload_n 3, 1) := by decide +kernel
theorem dX3_leavesThatMayMatter_35 : decode cX3_leavesThatMayMatter 35 = .ok (.ireturn, 1) := by decide +kernel
set_option maxRecDepth 20000 in
theorem ggX3_countInPart_X0_leaves : GoodIn wsX3_countInPart wsX0_leaves := goodIn_r _ [5, 6, 7, 86, 87, 88, 89, 90, 91] (by decide +kernel) (by decide +kernel)
set_option maxRecDepth 20000 in
theorem gX3_countInPart_X0_leaves : GoodIn wsX3_countInPart (wsV RX3 226 RX0 yX0_leaves wsX0_leaves) := goodIn_app (goodIn_of _ (by decide +kernel)) ggX3_countInPart_X0_leaves
set_option maxRecDepth 20000 in
theorem ggX3_countInPart_X3_mayMatter : GoodIn wsX3_countInPart wsX3_mayMatter := goodIn_r _ [12, 13, 14, 15, 16, 17, 18, 19, 20, 11, 21, 22, 23, 24, 25, 26, 27, 28, 29, 30, 4, 31, 32, 33, 34, 35, 36, 37, 38, 39, 40, 41, 42, 43, 44, 45, 46, 6, 47, 48, 49, 50, 51, 7, 52, 53, 54, 55, 56, 57, 58, 59, 86, 87, 88, 89, 90, 91, 92, 93, 94, 95, 96, 97, 98, 99, 100] (by decide +kernel) (by decide +kernel)
set_option maxRecDepth 20000 in
theorem gX3_countInPart_X3_mayMatter : GoodIn wsX3_countInPart (wsV RX3 177 RX3 yX3_mayMatter wsX3_mayMatter) := goodIn_app (goodIn_of _ (by decide +kernel)) ggX3_countInPart_X3_mayMatter
set_option maxRecDepth 20000 in
theorem ggX3_countInPart_X3_countInLeaf : GoodIn wsX3_countInPart wsX3_countInLeaf := goodIn_r _ [63, 64, 65, 66, 67, 68, 69, 70, 71, 72, 73, 74, 75, 4, 76, 6, 7, 77, 11, 78, 56, 57, 58, 59, 79, 80, 81, 82, 83, 84, 85, 95, 96, 97, 98, 99, 100, 101, 102, 103, 104, 86, 87, 88, 89, 90, 91, 92, 93, 94] (by decide +kernel) (by decide +kernel)
set_option maxRecDepth 20000 in
theorem gX3_countInPart_X3_countInLeaf : GoodIn wsX3_countInPart (wsV RX3 277 RX3 yX3_countInLeaf wsX3_countInLeaf) := goodIn_app (goodIn_of _ (by decide +kernel)) ggX3_countInPart_X3_countInLeaf
theorem dX3_countInPart_0 : decode cX3_countInPart 0 = .ok (.iconst 0, 1) := by decide +kernel
theorem dX3_countInPart_1 : decode cX3_countInPart 1 = .ok (.istore_n 3, 1) := by decide +kernel
theorem dX3_countInPart_2 : decode cX3_countInPart 2 = .ok (.iconst 0, 1) := by decide +kernel
theorem dX3_countInPart_3 : decode cX3_countInPart 3 = .ok (.istore 4, 2) := by decide +kernel
theorem dX3_countInPart_5 : decode cX3_countInPart 5 = .ok (.iload 4, 2) := by decide +kernel
theorem dX3_countInPart_7 : decode cX3_countInPart 7 = .ok (.aload_n 1, 1) := by decide +kernel
theorem dX3_countInPart_8 : decode cX3_countInPart 8 = .ok (.invokevirtual 226, 3) := by decide +kernel
theorem dX3_countInPart_11 : decode cX3_countInPart 11 = .ok (.if_icmp .ge 31, 3) := by decide +kernel
theorem dX3_countInPart_14 : decode cX3_countInPart 14 = .ok (.aload_n 0, 1) := by decide +kernel
theorem dX3_countInPart_15 : decode cX3_countInPart 15 = .ok (.aload_n 1, 1) := by decide +kernel
theorem dX3_countInPart_16 : decode cX3_countInPart 16 = .ok (.iload 4, 2) := by decide +kernel
theorem dX3_countInPart_18 : decode cX3_countInPart 18 = .ok (.aload_n 2, 1) := by decide +kernel
theorem dX3_countInPart_19 : decode cX3_countInPart 19 = .ok (.invokevirtual 177, 3) := by decide +kernel
theorem dX3_countInPart_22 : decode cX3_countInPart 22 = .ok (.ifCond .eq 14, 3) := by decide +kernel
theorem dX3_countInPart_25 : decode cX3_countInPart 25 = .ok (.iload_n 3, 1) := by decide +kernel
theorem dX3_countInPart_26 : decode cX3_countInPart 26 = .ok (.aload_n 0, 1) := by decide +kernel
theorem dX3_countInPart_27 : decode cX3_countInPart 27 = .ok (.aload_n 1, 1) := by decide +kernel
theorem dX3_countInPart_28 : decode cX3_countInPart 28 = .ok (.iload 4, 2) := by decide +kernel
theorem dX3_countInPart_30 : decode cX3_countInPart 30 = .ok (.aload_n 2, 1) := by decide +kernel
theorem dX3_countInPart_31 : decode cX3_countInPart 31 = .ok (.invokevirtual 277, 3) := by decide +kernel
theorem dX3_countInPart_34 : decode cX3_countInPart 34 = .ok (.iadd, 1) := by decide +kernel
theorem dX3_countInPart_35 : decode cX3_countInPart 35 = .ok (.istore_n 3, 1) := by decide +kernel
theorem dX3_countInPart_36 : decode cX3_countInPart 36 = .ok (.iinc 4 1, 3) := by decide +kernel
theorem dX3_countInPart_39 : decode cX3_countInPart 39 = .ok (.goto (-34), 3) := by decide +kernel
theorem dX3_countInPart_42 : decode cX3_countInPart 42 = .ok (.iload_n 3, 1) := by decide +kernel
theorem dX3_countInPart_43 : decode cX3_countInPart 43 = .ok (.ireturn, 1) := by decide +kernel
set_option maxRecDepth 20000 in
theorem ggX3_countInLeaf_X2_liesIn : GoodIn wsX3_countInLeaf wsX2_liesIn := goodIn_r _ [6, 7, 8, 9, 10, 11, 12, 13, 14, 15, 16, 17, 18, 19, 20, 21, 22, 23, 37, 38, 39, 40, 41, 42, 43, 44, 45, 46] (by decide +kernel) (by decide +kernel)
set_option maxRecDepth 20000 in
theorem gX3_countInLeaf_X2_liesIn : GoodIn wsX3_countInLeaf (wsV RX3 154 RX2 yX2_liesIn wsX2_liesIn) := goodIn_app (goodIn_of _ (by decide +kernel)) ggX3_countInLeaf_X2_liesIn
set_option maxRecDepth 20000 in
theorem ggX3_countInLeaf_X2_fits : GoodIn wsX3_countInLeaf wsX2_fits := goodIn_r _ [27, 8, 28, 29, 30, 9, 17, 18, 19, 37, 38, 39, 40, 47, 48, 49] (by decide +kernel) (by decide +kernel)
set_option maxRecDepth 20000 in
theorem gX3_countInLeaf_X2_fits : GoodIn wsX3_countInLeaf (wsV RX3 170 RX2 yX2_fits wsX2_fits) := goodIn_app (goodIn_of _ (by decide +kernel)) ggX3_countInLeaf_X2_fits
theorem dX3_countInLeaf_0 : decode cX3_countInLeaf 0 = .ok (.iconst 0, 1) := by decide +kernel
theorem dX3_countInLeaf_1 : decode cX3_countInLeaf 1 = .ok (.istore 4, 2) := by decide +kernel
theorem dX3_countInLeaf_3 : decode cX3_countInLeaf 3 = .ok (.aload_n 0, 1) := by decide +kernel
theorem dX3_countInLeaf_4 : decode cX3_countInLeaf 4 = .ok (.getfield 24, 3) := by decide +kernel
theorem dX3_countInLeaf_7 : decode cX3_countInLeaf 7 = .ok (.astore 5, 2) := by decide +kernel
theorem dX3_countInLeaf_9 : decode cX3_countInLeaf 9 = .ok (.aload 5, 2) := by decide +kernel
theorem dX3_countInLeaf_11 : decode cX3_countInLeaf 11 = .ok (.arraylength, 1) := by decide +kernel
theorem dX3_countInLeaf_12 : decode cX3_countInLeaf 12 = .ok (.istore 6, 2) := by decide +kernel
theorem dX3_countInLeaf_14 : decode cX3_countInLeaf 14 = .ok (.iconst 0, 1) := by decide +kernel
theorem dX3_countInLeaf_15 : decode cX3_countInLeaf 15 = .ok (.istore 7, 2) := by decide +kernel
theorem dX3_countInLeaf_17 : decode cX3_countInLeaf 17 = .ok (.iload 7, 2) := by decide +kernel
theorem dX3_countInLeaf_19 : decode cX3_countInLeaf 19 = .ok (.iload 6, 2) := by decide +kernel
theorem dX3_countInLeaf_21 : decode cX3_countInLeaf 21 = .ok (.if_icmp .ge 43, 3) := by decide +kernel
theorem dX3_countInLeaf_24 : decode cX3_countInLeaf 24 = .ok (.aload 5, 2) := by decide +kernel
theorem dX3_countInLeaf_26 : decode cX3_countInLeaf 26 = .ok (.iload 7, 2) := by decide +kernel
theorem dX3_countInLeaf_28 : decode cX3_countInLeaf 28 = .ok (.aaload, 1) := by decide +kernel
theorem dX3_countInLeaf_29 : decode cX3_countInLeaf 29 = .ok (.astore 8, 2) := by decide +kernel
theorem dX3_countInLeaf_31 : decode cX3_countInLeaf 31 = .ok (.aload 8, 2) := by decide +kernel
theorem dX3_countInLeaf_33 : decode cX3_countInLeaf 33 = .ok (.ifnull 25, 3) := by decide +kernel
theorem dX3_countInLeaf_36 : decode cX3_countInLeaf 36 = .ok (.aload 8, 2) := by decide +kernel
theorem dX3_countInLeaf_38 : decode cX3_countInLeaf 38 = .ok (.aload_n 1, 1) := by decide +kernel
theorem dX3_countInLeaf_39 : decode cX3_countInLeaf 39 = .ok (.iload_n 2, 1) := by decide +kernel
theorem dX3_countInLeaf_40 : decode cX3_countInLeaf 40 = .ok (.invokevirtual 154, 3) := by decide +kernel
theorem dX3_countInLeaf_43 : decode cX3_countInLeaf 43 = .ok (.ifCond .eq 15, 3) := by decide +kernel
theorem dX3_countInLeaf_46 : decode cX3_countInLeaf 46 = .ok (.aload 8, 2) := by decide +kernel
theorem dX3_countInLeaf_48 : decode cX3_countInLeaf 48 = .ok (.aload_n 3, 1) := by decide +kernel
theorem dX3_countInLeaf_49 : decode cX3_countInLeaf 49 = .ok (.invokevirtual 170, 3) := by decide +kernel
theorem dX3_countInLeaf_52 : decode cX3_countInLeaf 52 = .ok (.ifCond .eq 6, 3) := by decide +kernel
theorem dX3_countInLeaf_55 : decode cX3_countInLeaf 55 = .ok (.iinc 4 1, 3) := by decide +kernel
theorem dX3_countInLeaf_58 : decode cX3_countInLeaf 58 = .ok (.iinc 7 1, 3) := by decide +kernel
theorem dX3_countInLeaf_61 : decode cX3_countInLeaf 61 = .ok (.goto (-44), 3) := by decide +kernel
theorem dX3_countInLeaf_64 : decode cX3_countInLeaf 64 = .ok (.iload 4, 2) := by decide +kernel
theorem dX3_countInLeaf_66 : decode cX3_countInLeaf 66 = .ok (.ireturn, 1) := by decide +kernel
theorem dX3_hasSort_0 : decode cX3_hasSort 0 = .ok (.iload_n 0, 1) := by decide +kernel
theorem dX3_hasSort_1 : decode cX3_hasSort 1 = .ok (.iload_n 1, 1) := by decide +kernel
theorem dX3_hasSort_2 : decode cX3_hasSort 2 = .ok (.ishr, 1) := by decide +kernel
theorem dX3_hasSort_3 : decode cX3_hasSort 3 = .ok (.iconst 1, 1) := by decide +kernel
theorem dX3_hasSort_4 : decode cX3_hasSort 4 = .ok (.iand, 1) := by decide +kernel
theorem dX3_hasSort_5 : decode cX3_hasSort 5 = .ok (.iconst 1, 1) := by decide +kernel
theorem dX3_hasSort_6 : decode cX3_hasSort 6 = .ok (.if_icmp .ne 7, 3) := by decide +kernel
theorem dX3_hasSort_9 : decode cX3_hasSort 9 = .ok (.iconst 1, 1) := by decide +kernel
theorem dX3_hasSort_10 : decode cX3_hasSort 10 = .ok (.goto 4, 3) := by decide +kernel
theorem dX3_hasSort_13 : decode cX3_hasSort 13 = .ok (.iconst 0, 1) := by decide +kernel
theorem dX3_hasSort_14 : decode cX3_hasSort 14 = .ok (.ireturn, 1) := by decide +kernel
theorem dJ9_max_7cf53_0 : decode cJ9_max_7cf53 0 = .ok (.iload_n 0, 1) := by decide +kernel
theorem dJ9_max_7cf53_1 : decode cJ9_max_7cf53 1 = .ok (.iload_n 1, 1) := by decide +kernel
theorem dJ9_max_7cf53_2 : decode cJ9_max_7cf53 2 = .ok (.if_icmp .lt 7, 3) := by decide +kernel
theorem dJ9_max_7cf53_5 : decode cJ9_max_7cf53 5 = .ok (.iload_n 0, 1) := by decide +kernel
theorem dJ9_max_7cf53_6 : decode cJ9_max_7cf53 6 = .ok (.goto 4, 3) := by decide +kernel
theorem dJ9_max_7cf53_9 : decode cJ9_max_7cf53 9 = .ok (.iload_n 1, 1) := by decide +kernel
theorem dJ9_max_7cf53_10 : decode cJ9_max_7cf53 10 = .ok (.ireturn, 1) := by decide +kernel
theorem dJ9_min_7cf53_0 : decode cJ9_min_7cf53 0 = .ok (.iload_n 0, 1) := by decide +kernel
theorem dJ9_min_7cf53_1 : decode cJ9_min_7cf53 1 = .ok (.iload_n 1, 1) := by decide +kernel
theorem dJ9_min_7cf53_2 : decode cJ9_min_7cf53 2 = .ok (.if_icmp .gt 7, 3) := by decide +kernel
theorem dJ9_min_7cf53_5 : decode cJ9_min_7cf53 5 = .ok (.iload_n 0, 1) := by decide +kernel
theorem dJ9_min_7cf53_6 : decode cJ9_min_7cf53 6 = .ok (.goto 4, 3) := by decide +kernel
theorem dJ9_min_7cf53_9 : decode cJ9_min_7cf53 9 = .ok (.iload_n 1, 1) := by decide +kernel
theorem dJ9_min_7cf53_10 : decode cJ9_min_7cf53 10 = .ok (.ireturn, 1) := by decide +kernel
