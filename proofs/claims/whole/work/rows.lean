section
-- ===== PART A: goes FIRST, ahead of the names: the tables' words, and 'selects' of the private methods out of them =====
/-- a private method of a class that the tables say can be made, by its rows of tables_1 -/
def lw_okq (q : MethodName × Nat) : Prop := (q.1.cls ≠ "java/lang/invoke/MethodHandle" ∧ q.1.cls ≠ "java/lang/invoke/VarHandle") ∧ Cond.instantiable q.1.cls q.2 ∈ tables_1 ∧ Cond.privateMethod q.1 ∈ tables_1 ∧ Cond.instanceMethod q.1 ∈ tables_1
theorem lw_p0 : lw_okq (⟨"ParcelledTable", "plannedPart", "(IIII)LParcelledTable$Part;"⟩, 6) := ⟨⟨by decide +kernel, by decide +kernel⟩, List.mem_of_getElem? (i := 14) (by decide +kernel), List.mem_of_getElem? (i := 107) (by decide +kernel), List.mem_of_getElem? (i := 108) (by decide +kernel)⟩
theorem lw_p1 : lw_okq (⟨"java/lang/Throwable", "fillInStackTrace", "(I)Ljava/lang/Throwable;"⟩, 6) := ⟨⟨by decide +kernel, by decide +kernel⟩, List.mem_of_getElem? (i := 155) (by decide +kernel), List.mem_of_getElem? (i := 153) (by decide +kernel), List.mem_of_getElem? (i := 154) (by decide +kernel)⟩
theorem lw_p2 : lw_okq (⟨"ParcelledTable", "refuseOverlap", "(LParcelledTable$Part;)V"⟩, 6) := ⟨⟨by decide +kernel, by decide +kernel⟩, List.mem_of_getElem? (i := 14) (by decide +kernel), List.mem_of_getElem? (i := 197) (by decide +kernel), List.mem_of_getElem? (i := 198) (by decide +kernel)⟩
theorem lw_p3 : lw_okq (⟨"ParcelledTable", "refuseRowsOfRest", "(LParcelledTable$Part;)V"⟩, 6) := ⟨⟨by decide +kernel, by decide +kernel⟩, List.mem_of_getElem? (i := 14) (by decide +kernel), List.mem_of_getElem? (i := 221) (by decide +kernel), List.mem_of_getElem? (i := 222) (by decide +kernel)⟩
theorem lw_p4 : lw_okq (⟨"ParcelledTable", "keepPart", "(LParcelledTable$Part;)V"⟩, 6) := ⟨⟨by decide +kernel, by decide +kernel⟩, List.mem_of_getElem? (i := 14) (by decide +kernel), List.mem_of_getElem? (i := 230) (by decide +kernel), List.mem_of_getElem? (i := 231) (by decide +kernel)⟩
theorem lw_p5 : lw_okq (⟨"ParcelledTable", "moveRows", "(LParcelledTable$Part;LParcelledTable$Part;)V"⟩, 6) := ⟨⟨by decide +kernel, by decide +kernel⟩, List.mem_of_getElem? (i := 14) (by decide +kernel), List.mem_of_getElem? (i := 242) (by decide +kernel), List.mem_of_getElem? (i := 243) (by decide +kernel)⟩
theorem lw_p6 : lw_okq (⟨"ParcelledTable", "rowsOf", "(LParcelledTable$Part;)I"⟩, 6) := ⟨⟨by decide +kernel, by decide +kernel⟩, List.mem_of_getElem? (i := 14) (by decide +kernel), List.mem_of_getElem? (i := 246) (by decide +kernel), List.mem_of_getElem? (i := 247) (by decide +kernel)⟩
theorem lw_p7 : lw_okq (⟨"ParcelledTable", "livingPartWithRange", "(I)LParcelledTable$Part;"⟩, 6) := ⟨⟨by decide +kernel, by decide +kernel⟩, List.mem_of_getElem? (i := 14) (by decide +kernel), List.mem_of_getElem? (i := 258) (by decide +kernel), List.mem_of_getElem? (i := 259) (by decide +kernel)⟩
theorem lw_p8 : lw_okq (⟨"ParcelledTable", "livingPart", "(I)LParcelledTable$Part;"⟩, 6) := ⟨⟨by decide +kernel, by decide +kernel⟩, List.mem_of_getElem? (i := 14) (by decide +kernel), List.mem_of_getElem? (i := 262) (by decide +kernel), List.mem_of_getElem? (i := 263) (by decide +kernel)⟩
theorem lw_p9 : lw_okq (⟨"ParcelledTable", "knownPart", "(I)LParcelledTable$Part;"⟩, 6) := ⟨⟨by decide +kernel, by decide +kernel⟩, List.mem_of_getElem? (i := 14) (by decide +kernel), List.mem_of_getElem? (i := 266) (by decide +kernel), List.mem_of_getElem? (i := 267) (by decide +kernel)⟩
theorem lw_p10 : lw_okq (⟨"ParcelledTable", "refuseForeignRows", "(LParcelledTable$Part;LParcelledTable$Part;)V"⟩, 6) := ⟨⟨by decide +kernel, by decide +kernel⟩, List.mem_of_getElem? (i := 14) (by decide +kernel), List.mem_of_getElem? (i := 327) (by decide +kernel), List.mem_of_getElem? (i := 328) (by decide +kernel)⟩
theorem lw_p11 : lw_okq (⟨"ParcelledTable", "swapRows", "(LParcelledTable$Part;LParcelledTable$Part;)V"⟩, 6) := ⟨⟨by decide +kernel, by decide +kernel⟩, List.mem_of_getElem? (i := 14) (by decide +kernel), List.mem_of_getElem? (i := 332) (by decide +kernel), List.mem_of_getElem? (i := 333) (by decide +kernel)⟩
theorem lw_p12 : lw_okq (⟨"ParcelledTable", "holderOf", "(I)LParcelledTable$Part;"⟩, 6) := ⟨⟨by decide +kernel, by decide +kernel⟩, List.mem_of_getElem? (i := 14) (by decide +kernel), List.mem_of_getElem? (i := 353) (by decide +kernel), List.mem_of_getElem? (i := 354) (by decide +kernel)⟩
theorem lw_p13 : lw_okq (⟨"ParcelledTable", "presentRow", "(I)LParcelledTable$Row;"⟩, 6) := ⟨⟨by decide +kernel, by decide +kernel⟩, List.mem_of_getElem? (i := 14) (by decide +kernel), List.mem_of_getElem? (i := 385) (by decide +kernel), List.mem_of_getElem? (i := 386) (by decide +kernel)⟩
theorem lw_p14 : lw_okq (⟨"ParcelledTable$Part", "leafByHash", "(I)I"⟩, 6) := ⟨⟨by decide +kernel, by decide +kernel⟩, List.mem_of_getElem? (i := 22) (by decide +kernel), List.mem_of_getElem? (i := 401) (by decide +kernel), List.mem_of_getElem? (i := 402) (by decide +kernel)⟩
theorem lw_p15 : lw_okq (⟨"ParcelledTable", "livingPartWithLeaf", "(II)LParcelledTable$Part;"⟩, 6) := ⟨⟨by decide +kernel, by decide +kernel⟩, List.mem_of_getElem? (i := 14) (by decide +kernel), List.mem_of_getElem? (i := 440) (by decide +kernel), List.mem_of_getElem? (i := 441) (by decide +kernel)⟩
def lw_privs_1 : List (MethodName × Nat) := [(⟨"ParcelledTable", "plannedPart", "(IIII)LParcelledTable$Part;"⟩, 6), (⟨"java/lang/Throwable", "fillInStackTrace", "(I)Ljava/lang/Throwable;"⟩, 6), (⟨"ParcelledTable", "refuseOverlap", "(LParcelledTable$Part;)V"⟩, 6), (⟨"ParcelledTable", "refuseRowsOfRest", "(LParcelledTable$Part;)V"⟩, 6), (⟨"ParcelledTable", "keepPart", "(LParcelledTable$Part;)V"⟩, 6), (⟨"ParcelledTable", "moveRows", "(LParcelledTable$Part;LParcelledTable$Part;)V"⟩, 6), (⟨"ParcelledTable", "rowsOf", "(LParcelledTable$Part;)I"⟩, 6), (⟨"ParcelledTable", "livingPartWithRange", "(I)LParcelledTable$Part;"⟩, 6), (⟨"ParcelledTable", "livingPart", "(I)LParcelledTable$Part;"⟩, 6), (⟨"ParcelledTable", "knownPart", "(I)LParcelledTable$Part;"⟩, 6), (⟨"ParcelledTable", "refuseForeignRows", "(LParcelledTable$Part;LParcelledTable$Part;)V"⟩, 6), (⟨"ParcelledTable", "swapRows", "(LParcelledTable$Part;LParcelledTable$Part;)V"⟩, 6), (⟨"ParcelledTable", "holderOf", "(I)LParcelledTable$Part;"⟩, 6), (⟨"ParcelledTable", "presentRow", "(I)LParcelledTable$Row;"⟩, 6), (⟨"ParcelledTable$Part", "leafByHash", "(I)I"⟩, 6), (⟨"ParcelledTable", "livingPartWithLeaf", "(II)LParcelledTable$Part;"⟩, 6)]
theorem lw_r1 : ∀ q ∈ lw_privs_1, lw_okq q := List.forall_mem_cons.mpr ⟨lw_p0, List.forall_mem_cons.mpr ⟨lw_p1, List.forall_mem_cons.mpr ⟨lw_p2, List.forall_mem_cons.mpr ⟨lw_p3, List.forall_mem_cons.mpr ⟨lw_p4, List.forall_mem_cons.mpr ⟨lw_p5, List.forall_mem_cons.mpr ⟨lw_p6, List.forall_mem_cons.mpr ⟨lw_p7, List.forall_mem_cons.mpr ⟨lw_p8, List.forall_mem_cons.mpr ⟨lw_p9, List.forall_mem_cons.mpr ⟨lw_p10, List.forall_mem_cons.mpr ⟨lw_p11, List.forall_mem_cons.mpr ⟨lw_p12, List.forall_mem_cons.mpr ⟨lw_p13, List.forall_mem_cons.mpr ⟨lw_p14, List.forall_mem_cons.mpr ⟨lw_p15, fun _ h => absurd h List.not_mem_nil⟩⟩⟩⟩⟩⟩⟩⟩⟩⟩⟩⟩⟩⟩⟩⟩
theorem lw_p16 : lw_okq (⟨"ParcelledTable", "countInPart", "(LParcelledTable$Part;LParcelledTable$Question;)I"⟩, 6) := ⟨⟨by decide +kernel, by decide +kernel⟩, List.mem_of_getElem? (i := 14) (by decide +kernel), List.mem_of_getElem? (i := 490) (by decide +kernel), List.mem_of_getElem? (i := 491) (by decide +kernel)⟩
theorem lw_p17 : lw_okq (⟨"ParcelledTable", "mayMatter", "(LParcelledTable$Part;ILParcelledTable$Question;)Z"⟩, 6) := ⟨⟨by decide +kernel, by decide +kernel⟩, List.mem_of_getElem? (i := 14) (by decide +kernel), List.mem_of_getElem? (i := 494) (by decide +kernel), List.mem_of_getElem? (i := 495) (by decide +kernel)⟩
theorem lw_p18 : lw_okq (⟨"ParcelledTable", "restMayHold", "(II)Z"⟩, 6) := ⟨⟨by decide +kernel, by decide +kernel⟩, List.mem_of_getElem? (i := 14) (by decide +kernel), List.mem_of_getElem? (i := 498) (by decide +kernel), List.mem_of_getElem? (i := 499) (by decide +kernel)⟩
theorem lw_p19 : lw_okq (⟨"ParcelledTable$Part", "sortsByList", "(I)I"⟩, 6) := ⟨⟨by decide +kernel, by decide +kernel⟩, List.mem_of_getElem? (i := 22) (by decide +kernel), List.mem_of_getElem? (i := 512) (by decide +kernel), List.mem_of_getElem? (i := 513) (by decide +kernel)⟩
theorem lw_p20 : lw_okq (⟨"ParcelledTable$Part", "hashReaches", "(III)Z"⟩, 6) := ⟨⟨by decide +kernel, by decide +kernel⟩, List.mem_of_getElem? (i := 22) (by decide +kernel), List.mem_of_getElem? (i := 516) (by decide +kernel), List.mem_of_getElem? (i := 517) (by decide +kernel)⟩
theorem lw_p21 : lw_okq (⟨"ParcelledTable", "countInLeaf", "(LParcelledTable$Part;ILParcelledTable$Question;)I"⟩, 6) := ⟨⟨by decide +kernel, by decide +kernel⟩, List.mem_of_getElem? (i := 14) (by decide +kernel), List.mem_of_getElem? (i := 520) (by decide +kernel), List.mem_of_getElem? (i := 521) (by decide +kernel)⟩
theorem lw_p22 : lw_okq (⟨"ParcelledTable", "leavesThatMayMatter", "(LParcelledTable$Part;LParcelledTable$Question;)I"⟩, 6) := ⟨⟨by decide +kernel, by decide +kernel⟩, List.mem_of_getElem? (i := 14) (by decide +kernel), List.mem_of_getElem? (i := 543) (by decide +kernel), List.mem_of_getElem? (i := 544) (by decide +kernel)⟩
theorem lw_p23 : lw_okq (⟨"ParcelledTableModel", "overlaps", "(II)Z"⟩, 13) := ⟨⟨by decide +kernel, by decide +kernel⟩, List.mem_of_getElem? (i := 569) (by decide +kernel), List.mem_of_getElem? (i := 633) (by decide +kernel), List.mem_of_getElem? (i := 634) (by decide +kernel)⟩
theorem lw_p24 : lw_okq (⟨"ParcelledTableModel", "isAttached", "(I)Z"⟩, 13) := ⟨⟨by decide +kernel, by decide +kernel⟩, List.mem_of_getElem? (i := 569) (by decide +kernel), List.mem_of_getElem? (i := 637) (by decide +kernel), List.mem_of_getElem? (i := 638) (by decide +kernel)⟩
theorem lw_p25 : lw_okq (⟨"ParcelledTableModel", "isInRest", "(II)Z"⟩, 13) := ⟨⟨by decide +kernel, by decide +kernel⟩, List.mem_of_getElem? (i := 569) (by decide +kernel), List.mem_of_getElem? (i := 641) (by decide +kernel), List.mem_of_getElem? (i := 642) (by decide +kernel)⟩
theorem lw_p26 : lw_okq (⟨"ParcelledTableModel", "isFine", "(I)Z"⟩, 13) := ⟨⟨by decide +kernel, by decide +kernel⟩, List.mem_of_getElem? (i := 569) (by decide +kernel), List.mem_of_getElem? (i := 645) (by decide +kernel), List.mem_of_getElem? (i := 646) (by decide +kernel)⟩
theorem lw_p27 : lw_okq (⟨"ParcelledTableModel", "makes", "(IIII)I"⟩, 13) := ⟨⟨by decide +kernel, by decide +kernel⟩, List.mem_of_getElem? (i := 569) (by decide +kernel), List.mem_of_getElem? (i := 649) (by decide +kernel), List.mem_of_getElem? (i := 650) (by decide +kernel)⟩
theorem lw_p28 : lw_okq (⟨"ParcelledTableModel", "moves", "(II)V"⟩, 13) := ⟨⟨by decide +kernel, by decide +kernel⟩, List.mem_of_getElem? (i := 569) (by decide +kernel), List.mem_of_getElem? (i := 657) (by decide +kernel), List.mem_of_getElem? (i := 658) (by decide +kernel)⟩
theorem lw_p29 : lw_okq (⟨"ParcelledTableModel", "hasKey", "(II)Z"⟩, 13) := ⟨⟨by decide +kernel, by decide +kernel⟩, List.mem_of_getElem? (i := 569) (by decide +kernel), List.mem_of_getElem? (i := 661) (by decide +kernel), List.mem_of_getElem? (i := 662) (by decide +kernel)⟩
theorem lw_p30 : lw_okq (⟨"ParcelledTableModel", "rowsOf", "(I)I"⟩, 13) := ⟨⟨by decide +kernel, by decide +kernel⟩, List.mem_of_getElem? (i := 569) (by decide +kernel), List.mem_of_getElem? (i := 665) (by decide +kernel), List.mem_of_getElem? (i := 666) (by decide +kernel)⟩
theorem lw_p31 : lw_okq (⟨"ParcelledTableModel", "isPart", "(I)Z"⟩, 13) := ⟨⟨by decide +kernel, by decide +kernel⟩, List.mem_of_getElem? (i := 569) (by decide +kernel), List.mem_of_getElem? (i := 673) (by decide +kernel), List.mem_of_getElem? (i := 674) (by decide +kernel)⟩
def lw_privs_2 : List (MethodName × Nat) := [(⟨"ParcelledTable", "countInPart", "(LParcelledTable$Part;LParcelledTable$Question;)I"⟩, 6), (⟨"ParcelledTable", "mayMatter", "(LParcelledTable$Part;ILParcelledTable$Question;)Z"⟩, 6), (⟨"ParcelledTable", "restMayHold", "(II)Z"⟩, 6), (⟨"ParcelledTable$Part", "sortsByList", "(I)I"⟩, 6), (⟨"ParcelledTable$Part", "hashReaches", "(III)Z"⟩, 6), (⟨"ParcelledTable", "countInLeaf", "(LParcelledTable$Part;ILParcelledTable$Question;)I"⟩, 6), (⟨"ParcelledTable", "leavesThatMayMatter", "(LParcelledTable$Part;LParcelledTable$Question;)I"⟩, 6), (⟨"ParcelledTableModel", "overlaps", "(II)Z"⟩, 13), (⟨"ParcelledTableModel", "isAttached", "(I)Z"⟩, 13), (⟨"ParcelledTableModel", "isInRest", "(II)Z"⟩, 13), (⟨"ParcelledTableModel", "isFine", "(I)Z"⟩, 13), (⟨"ParcelledTableModel", "makes", "(IIII)I"⟩, 13), (⟨"ParcelledTableModel", "moves", "(II)V"⟩, 13), (⟨"ParcelledTableModel", "hasKey", "(II)Z"⟩, 13), (⟨"ParcelledTableModel", "rowsOf", "(I)I"⟩, 13), (⟨"ParcelledTableModel", "isPart", "(I)Z"⟩, 13)]
theorem lw_r2 : ∀ q ∈ lw_privs_2, lw_okq q := List.forall_mem_cons.mpr ⟨lw_p16, List.forall_mem_cons.mpr ⟨lw_p17, List.forall_mem_cons.mpr ⟨lw_p18, List.forall_mem_cons.mpr ⟨lw_p19, List.forall_mem_cons.mpr ⟨lw_p20, List.forall_mem_cons.mpr ⟨lw_p21, List.forall_mem_cons.mpr ⟨lw_p22, List.forall_mem_cons.mpr ⟨lw_p23, List.forall_mem_cons.mpr ⟨lw_p24, List.forall_mem_cons.mpr ⟨lw_p25, List.forall_mem_cons.mpr ⟨lw_p26, List.forall_mem_cons.mpr ⟨lw_p27, List.forall_mem_cons.mpr ⟨lw_p28, List.forall_mem_cons.mpr ⟨lw_p29, List.forall_mem_cons.mpr ⟨lw_p30, List.forall_mem_cons.mpr ⟨lw_p31, fun _ h => absurd h List.not_mem_nil⟩⟩⟩⟩⟩⟩⟩⟩⟩⟩⟩⟩⟩⟩⟩⟩
theorem lw_p32 : lw_okq (⟨"ParcelledTableModel", "fits", "(II)Z"⟩, 13) := ⟨⟨by decide +kernel, by decide +kernel⟩, List.mem_of_getElem? (i := 569) (by decide +kernel), List.mem_of_getElem? (i := 693) (by decide +kernel), List.mem_of_getElem? (i := 694) (by decide +kernel)⟩
theorem lw_p33 : lw_okq (⟨"ParcelledTableModel", "partWith", "(I)I"⟩, 13) := ⟨⟨by decide +kernel, by decide +kernel⟩, List.mem_of_getElem? (i := 569) (by decide +kernel), List.mem_of_getElem? (i := 704) (by decide +kernel), List.mem_of_getElem? (i := 705) (by decide +kernel)⟩
theorem lw_p34 : lw_okq (⟨"ParcelledTableModel", "isRow", "(I)Z"⟩, 13) := ⟨⟨by decide +kernel, by decide +kernel⟩, List.mem_of_getElem? (i := 569) (by decide +kernel), List.mem_of_getElem? (i := 712) (by decide +kernel), List.mem_of_getElem? (i := 713) (by decide +kernel)⟩
theorem lw_p35 : lw_okq (⟨"ParcelledTableModel", "isTabled", "(I)Z"⟩, 13) := ⟨⟨by decide +kernel, by decide +kernel⟩, List.mem_of_getElem? (i := 569) (by decide +kernel), List.mem_of_getElem? (i := 716) (by decide +kernel), List.mem_of_getElem? (i := 717) (by decide +kernel)⟩
theorem lw_p36 : lw_okq (⟨"ParcelledTableModel", "place", "(I)I"⟩, 13) := ⟨⟨by decide +kernel, by decide +kernel⟩, List.mem_of_getElem? (i := 569) (by decide +kernel), List.mem_of_getElem? (i := 720) (by decide +kernel), List.mem_of_getElem? (i := 721) (by decide +kernel)⟩
theorem lw_p37 : lw_okq (⟨"ParcelledTableModel", "leaf", "(III)I"⟩, 13) := ⟨⟨by decide +kernel, by decide +kernel⟩, List.mem_of_getElem? (i := 569) (by decide +kernel), List.mem_of_getElem? (i := 724) (by decide +kernel), List.mem_of_getElem? (i := 725) (by decide +kernel)⟩
theorem lw_p38 : lw_okq (⟨"ParcelledTableModel", "isLeaf", "(II)Z"⟩, 13) := ⟨⟨by decide +kernel, by decide +kernel⟩, List.mem_of_getElem? (i := 569) (by decide +kernel), List.mem_of_getElem? (i := 752) (by decide +kernel), List.mem_of_getElem? (i := 753) (by decide +kernel)⟩
theorem lw_p39 : lw_okq (⟨"ParcelledTableModel", "isAny", "(I)Z"⟩, 13) := ⟨⟨by decide +kernel, by decide +kernel⟩, List.mem_of_getElem? (i := 569) (by decide +kernel), List.mem_of_getElem? (i := 756) (by decide +kernel), List.mem_of_getElem? (i := 757) (by decide +kernel)⟩
theorem lw_p40 : lw_okq (⟨"ParcelledTableModel", "leaves", "(I)I"⟩, 13) := ⟨⟨by decide +kernel, by decide +kernel⟩, List.mem_of_getElem? (i := 569) (by decide +kernel), List.mem_of_getElem? (i := 760) (by decide +kernel), List.mem_of_getElem? (i := 761) (by decide +kernel)⟩
theorem lw_p41 : lw_okq (⟨"ParcelledTableModel", "counted", "(III)I"⟩, 13) := ⟨⟨by decide +kernel, by decide +kernel⟩, List.mem_of_getElem? (i := 569) (by decide +kernel), List.mem_of_getElem? (i := 775) (by decide +kernel), List.mem_of_getElem? (i := 776) (by decide +kernel)⟩
theorem lw_p42 : lw_okq (⟨"ParcelledTableModel", "isMatter", "(IIIII)Z"⟩, 13) := ⟨⟨by decide +kernel, by decide +kernel⟩, List.mem_of_getElem? (i := 569) (by decide +kernel), List.mem_of_getElem? (i := 787) (by decide +kernel), List.mem_of_getElem? (i := 788) (by decide +kernel)⟩
def lw_privs_3 : List (MethodName × Nat) := [(⟨"ParcelledTableModel", "fits", "(II)Z"⟩, 13), (⟨"ParcelledTableModel", "partWith", "(I)I"⟩, 13), (⟨"ParcelledTableModel", "isRow", "(I)Z"⟩, 13), (⟨"ParcelledTableModel", "isTabled", "(I)Z"⟩, 13), (⟨"ParcelledTableModel", "place", "(I)I"⟩, 13), (⟨"ParcelledTableModel", "leaf", "(III)I"⟩, 13), (⟨"ParcelledTableModel", "isLeaf", "(II)Z"⟩, 13), (⟨"ParcelledTableModel", "isAny", "(I)Z"⟩, 13), (⟨"ParcelledTableModel", "leaves", "(I)I"⟩, 13), (⟨"ParcelledTableModel", "counted", "(III)I"⟩, 13), (⟨"ParcelledTableModel", "isMatter", "(IIIII)Z"⟩, 13)]
theorem lw_r3 : ∀ q ∈ lw_privs_3, lw_okq q := List.forall_mem_cons.mpr ⟨lw_p32, List.forall_mem_cons.mpr ⟨lw_p33, List.forall_mem_cons.mpr ⟨lw_p34, List.forall_mem_cons.mpr ⟨lw_p35, List.forall_mem_cons.mpr ⟨lw_p36, List.forall_mem_cons.mpr ⟨lw_p37, List.forall_mem_cons.mpr ⟨lw_p38, List.forall_mem_cons.mpr ⟨lw_p39, List.forall_mem_cons.mpr ⟨lw_p40, List.forall_mem_cons.mpr ⟨lw_p41, List.forall_mem_cons.mpr ⟨lw_p42, fun _ h => absurd h List.not_mem_nil⟩⟩⟩⟩⟩⟩⟩⟩⟩⟩⟩
def lw_privs : List (MethodName × Nat) := lw_privs_1 ++ (lw_privs_2 ++ (lw_privs_3))
def lw_tbl : List Cond := k2_sels lw_privs ++ tables_1
theorem lw_privs_ok : ∀ q ∈ lw_privs, lw_okq q := by
  show ∀ q ∈ lw_privs_1 ++ (lw_privs_2 ++ (lw_privs_3)), lw_okq q
  exact List.forall_mem_append.mpr ⟨lw_r1, List.forall_mem_append.mpr ⟨lw_r2, lw_r3⟩⟩
-- ===== end of PART A; then your names; then what follows =====
end
section
/-! ===== BEGIN words of one list among another's, by their places ===== -/
theorem goodIn_r {big : List Cond} (ws : List Cond) (ps : List Nat) (hp : ws = ps.filterMap (fun i => big[i]?)) (h : ws.all goodWord = true) : GoodIn big ws := by
  intro w hw
  have h1 := List.all_eq_true.mp h w hw
  rw [hp] at hw
  obtain ⟨i, -, hi⟩ := List.mem_filterMap.mp hw
  have hm : w ∈ big := by first | exact List.mem_of_getElem? hi | exact List.getElem?_mem hi
  exact ⟨hm, good_of_word h1⟩
theorem goodIn_app {big a b : List Cond} (ha : GoodIn big a) (hb : GoodIn big b) : GoodIn big (a ++ b) := fun w h => (List.mem_append.mp h).elim (ha w) (hb w)
theorem goodIn_ca {big a b : List Cond} {c : Cond} (ha : GoodIn big (c :: a)) (hb : GoodIn big b) : GoodIn big (c :: (a ++ b)) := fun w h => (List.mem_cons.mp h).elim (fun e => ha w (List.mem_cons.mpr (Or.inl e))) (fun h => (List.mem_append.mp h).elim (fun h => ha w (List.mem_cons.mpr (Or.inr h))) (hb w))
theorem goodIn_sub {big ws : List Cond} (hm : ∀ w ∈ ws, w ∈ big) (h : ws.all goodWord = true) : GoodIn big ws := fun w hw => ⟨hm w hw, good_of_word (List.all_eq_true.mp h w hw)⟩
/-! ===== END ===== -/

/-! ===== BEGIN exceptions that leave a method, and their catching by the caller (launches without stack traces) ===== -/
section VXA
/-! The laws vx_back, vx_callV, vx_callS, vx_callSW, vx_throw0, vx_throwS follow proofs of the library, with one case more: JvmDerived/Free/Laws.lean (Back.of_free), Shelf42/LK1.lean (callV, callS), Shelf/KitTraced.lean (throwNew0V, throwNewS). -/
/-- where a method has thrown q: the class by its name, the cell, what was written, the world -/
def vx_T (XC : String → State → State → Prop) (st : State) (q : Addr) (t : State) (mc ms : Nat) (free : Addr → Prop) : Prop :=
  ∃ (E : String) (ce : Cell) (L : List Loc), XC E st t ∧ t.heap[q]? = some ce ∧ ce.vm = .none ∧ st.vm.findClass E = some ce.cls ∧ st.WarmedH t.vm ∧ st.sameButNew ({ t with vm := st.vm } : State) L mc ms ∧ ∀ z ∈ L, free z.base
def vx_Q (Qc : Array Value → State → Outcome → State → Prop) (XC : String → State → State → Prop) (mc ms : Nat) (free : Addr → Prop) : Array Value → State → Outcome → State → Prop := fun a st o t =>
  (Qc a st o t ∧ ∃ L, FrameEnd st o t L mc ms ∧ ∀ q ∈ L, free q.base) ∨ ∃ q, o = .threw q ∧ vx_T XC st q t mc ms free
/-- a callee that returns or throws -/
def vx_Met (l : Launch) (y : MethodName) (ws : List Cond) (rm : Room) (Pc : Array Value → State → Prop) (Qc : Array Value → State → Outcome → State → Prop) (XC : String → State → State → Prop) (mc ms : Nat) (free : Addr → Prop) : Prop :=
  MetFree l y (headSpec ws rm) Pc (fun _ _ _ _ _ => True) (vx_Q Qc XC mc ms free)
def vx_Post (XC : String → State → State → Prop) (mc ms : Nat) (free : Addr → Prop) : Pt → Array Value → Addr → Pt → Prop := fun A a q B =>
  ∃ (g : JFrame) (mk : MethodId) (t : State) (L : List Loc) (E : String) (ce : Cell), B.U.heap = t.heap ∧ B.U.vm = t.vm ∧ XC E (A.U.calling g mk a) t ∧ t.heap[q]? = some ce ∧ ce.vm = .none ∧ A.U.vm.findClass E = some ce.cls ∧ B.locs = A.locs ++ L ∧ (∀ z ∈ L, free z.base) ∧ B.cells = A.cells + mc ∧ B.slots = A.slots + ms
def vx_Back (l : Launch) (R : Room) (p : Program) (e : Env) (below : List Frame) (s : State) (sargs : Array Value) (y : MethodName) (len W9 : Nat)
    (Pre : Pt → Array Value → Prop) (Post : Pt → Array Value → Option Value → Pt → Prop) (PostX : Pt → Array Value → Addr → Pt → Prop) : Prop :=
  ∀ (m : MethodId) (meth : Method) (c : Code) (A : Pt) (g : JFrame) (ig : Instr) (mk : MethodId) (a : Array Value),
    Stand p l e R s m sargs below meth c A.U A.locs A.cells A.slots → g.method = m → g.locals.size = c.maxLocals → decode c.code g.pc = .ok (ig, len) →
    2 * g.monitorRoom + (g.stack.map fun v => v.category).sum ≤ W9 → A.U.methodNamed? y = some mk → Pre A a →
    (∃ (v : Option Value) (B : Pt), Stand p l e R s m sargs below meth c B.U B.locs B.cells B.slots ∧ Post A a v B ∧
      Steps p.tables e below (doInvoke e (A.U.setTop g) [] mk a).1 (B.U.setTop { g with pc := g.pc + len, stack := v.toList ++ g.stack })) ∨
    (∃ (q : Addr) (B : Pt), Stand p l e R s m sargs below meth c B.U B.locs B.cells B.slots ∧ PostX A a q B ∧
      Steps p.tables e below (doInvoke e (A.U.setTop g) [] mk a).1 ((B.U.setTop g).pushFrame (.throwing q)))
section Payer
variable {l : Launch} {R : Room} {p : Program} {e : Env} {below : List Frame} {s : State} {sargs : Array Value} {y : MethodName} {len W9 : Nat}
theorem vx_back {ws : List Cond} {rm : Room} {Pc : Array Value → State → Prop} {Qc : Array Value → State → Outcome → State → Prop} {XC : String → State → State → Prop} {mc ms : Nat} {free : Addr → Prop} {bytes : ByteArray} {maxL : Nat} {ret : Option FieldType}
    (hM : vx_Met l y ws rm Pc Qc XC mc ms free) (hblind : FrameBlind Pc) (hrc : rm.cells = mc) (hrs : rm.slots = ms)
    (hframes : rm.frames + 1 ≤ R.frames) (hlocals : W9 + (maxL + 11) + rm.locals ≤ R.locals)
    (hws : ∀ w ∈ ws, ∀ a' U, s.WarmedH U.vm → w.before a' U = true) (hcode : Cond.code y bytes maxL ret ∈ ws) (hinit : ∀ a' U, s.WarmedH U.vm → (Cond.initialized y.cls).before a' U = true) :
    vx_Back l R p e below s sargs y len W9 (PreOf R mc ms Pc) (PostOf Qc mc ms free) (vx_Post XC mc ms free) := by
  intro m meth c A g ig mk a X hg hsize hdg hW hn hp
  have h1 : (headSpec ws rm).pre.before a A.U = true := atoms_intro fun w hw => hws w hw _ _ X.warmed
  have h2 : (Cond.code y bytes maxL ret).before a A.U = true := hws _ hcode _ _ X.warmed
  have h3 : (Cond.initialized y.cls).before a A.U = true := hinit _ _ X.warmed
  have h4 : A.cells + (headSpec ws rm).room.cells ≤ R.cells := by rw [show (headSpec ws rm).room.cells = mc from hrc]; exact hp.1
  have h5 : A.slots + (headSpec ws rm).room.slots ≤ R.slots := by rw [show (headSpec ws rm).room.slots = ms from hrs]; exact hp.2.1
  have hPc : Pc a (A.U.calling g mk a) := hblind _ _ _ _ hp.2.2
  obtain ⟨U, Ls, c0, s0⟩ := A
  dsimp only [Pt.U, Pt.locs, Pt.cells, Pt.slots] at h1 h2 h3 h4 h5 X hn hPc ⊢
  obtain ⟨methY, cY, hmY, hcY, -, hlY, -, -, -, -⟩ := Cond.code_spec hn h2
  obtain ⟨kY, hkY, -⟩ := className_of_methodNamed hn
  have hinitY : kY.init = .initialized := Cond.initialized_spec (findClass_of_methodNamed hn) hkY h3
  have h : At U g.method c below := by rw [hg]; exact X.here
  have hlocals9 : W9 + (maxL + 11) + (headSpec ws rm).room.locals ≤ R.locals := hlocals
  have happ : (headSpec ws rm).appliesLoose y e.platform (U.calling g mk a) = true :=
    Spec.appliesLoose_calling (g := g) h hdg hn hkY hinitY
      (X.room_calling (g := g) (R' := (headSpec ws rm).room) hsize hmY hcY hframes (by rw [hlY]; omega) h4 h5) h1
  obtain ⟨mid, hmid⟩ := h.above
  have hfr : (U.setTop g).frames = (.java g :: mid) ++ below := by rw [State.frames_setTop' g h.top, hmid]; rfl
  obtain ⟨o, s₂, hsteps, -, hend, hq⟩ := Steps.callFree hM p X.admits X.cas X.clock (acts := []) hfr happ hPc trivial
  have hq' : vx_Q Qc XC mc ms free a (U.calling g mk a) o s₂ := hq
  rw [State.frames_setTop' g h.top] at hend
  obtain ⟨g₀, hg0⟩ := Option.isSome_iff_exists.mp h.top
  obtain ⟨r, hr⟩ := State.topJava?_eq_some.mp hg0
  have hr' : (({ U with heap := s₂.heap, slotsUsed := s₂.slotsUsed } : State).setVm s₂.vm).frames = .java g₀ :: r := hr
  rcases hq' with ⟨hqc, L, hfe, hL⟩ | ⟨q, rfl, E, ce, L, hx, hce, hcv, hcl, hW₂, hsm, hL⟩
  · obtain ⟨⟨v, rfl⟩, hW₂, e2, q2, q3, q4, q5, q6⟩ := id hfe
    have e3 : s₂ = ({ (U.calling g mk a).setFrames s₂.frames with heap := s₂.heap, slotsUsed := s₂.slotsUsed } : State).setVm s₂.vm := by
      have : s₂ = ({ s₂ with vm := (U.calling g mk a).vm } : State).setVm s₂.vm := rfl
      rw [e2] at this
      exact this
    obtain ⟨c₂, i₂, len₂, hc₂, hd₂, hf₂⟩ := hend
    have hW' : U.WarmedH s₂.vm := hW₂
    have hcc : c₂ = c := by
      have h1 : s₂.code? g.method = U.code? g.method := by
        rw [State.code?_eq, State.code?_eq, hW'.alike.method?]
      exact Option.some.inj (hc₂.symm.trans (h1.trans h.code))
    subst hcc
    have hlen : len₂ = len := by rw [hdg] at hd₂; cases hd₂; rfl
    subst hlen
    have hs₂ : s₂ = (({ U with heap := s₂.heap, slotsUsed := s₂.slotsUsed } : State).setVm s₂.vm).setTop { g with pc := g.pc + len₂, stack := v.toList ++ g.stack } := by
      refine e3.trans ?_
      rw [hf₂, State.calling_eq h.top, State.setFrames_setFrames, State.setTop_of_frames _ hr', hr]
      rfl
    have hsame : U.sameButNew ({ U with heap := s₂.heap, slotsUsed := s₂.slotsUsed } : State) L mc ms := by
      refine ⟨?_, q2, q3, q4, q5, q6⟩
      obtain ⟨t, ht, -⟩ := State.frames_cons hr
      show ({ U with heap := s₂.heap, slotsUsed := s₂.slotsUsed } : State) = { U.setFrames U.frames with heap := s₂.heap, slotsUsed := s₂.slotsUsed }
      rw [State.setFrames_self ht]
    subst hg
    refine Or.inl ⟨v, ⟨(({ U with heap := s₂.heap, slotsUsed := s₂.slotsUsed } : State).setVm s₂.vm), Ls ++ L, c0 + mc, s0 + ms⟩,
      ⟨X.admits, X.cas, X.clock, X.frames, X.room, X.hears, X.method, X.code, (X.here.setHeapUsed s₂.heap s₂.slotsUsed).setVm hW'.alike, X.tail, State.WarmedH.trans X.warmed hW', X.limits, X.bytes, X.same.trans (hsame.setVm s.vm)⟩,
      ⟨g, mk, s₂, L, rfl, rfl, hqc, rfl, hL, rfl, rfl⟩, ?_⟩
    show Steps p.tables e below _ ((({ U with heap := s₂.heap, slotsUsed := s₂.slotsUsed } : State).setVm s₂.vm).setTop { g with pc := g.pc + len₂, stack := v.toList ++ g.stack })
    rw [← hs₂]
    exact hsteps
  · obtain ⟨e2, q2, q3, q4, q5, q6⟩ := id hsm
    have e3 : s₂ = ({ (U.calling g mk a).setFrames s₂.frames with heap := s₂.heap, slotsUsed := s₂.slotsUsed } : State).setVm s₂.vm := by
      have : s₂ = ({ s₂ with vm := (U.calling g mk a).vm } : State).setVm s₂.vm := rfl
      rw [e2] at this
      exact this
    have hf₂ : s₂.frames = .throwing q :: .java g :: U.frames.tail := hend
    have hW' : U.WarmedH s₂.vm := hW₂
    have hs₂ : s₂ = ((({ U with heap := s₂.heap, slotsUsed := s₂.slotsUsed } : State).setVm s₂.vm).setTop g).pushFrame (.throwing q) := by
      refine e3.trans ?_
      rw [hf₂, State.calling_eq h.top, State.setFrames_setFrames, State.pushFrame, State.frames_setTop _ hr', State.setTop_of_frames _ hr', State.setFrames_setFrames, hr]
      rfl
    have hsame : U.sameButNew ({ U with heap := s₂.heap, slotsUsed := s₂.slotsUsed } : State) L mc ms := by
      refine ⟨?_, q2, q3, q4, q5, q6⟩
      obtain ⟨t, ht, -⟩ := State.frames_cons hr
      show ({ U with heap := s₂.heap, slotsUsed := s₂.slotsUsed } : State) = { U.setFrames U.frames with heap := s₂.heap, slotsUsed := s₂.slotsUsed }
      rw [State.setFrames_self ht]
    subst hg
    refine Or.inr ⟨q, ⟨(({ U with heap := s₂.heap, slotsUsed := s₂.slotsUsed } : State).setVm s₂.vm), Ls ++ L, c0 + mc, s0 + ms⟩,
      ⟨X.admits, X.cas, X.clock, X.frames, X.room, X.hears, X.method, X.code, (X.here.setHeapUsed s₂.heap s₂.slotsUsed).setVm hW'.alike, X.tail, State.WarmedH.trans X.warmed hW', X.limits, X.bytes, X.same.trans (hsame.setVm s.vm)⟩,
      ⟨g, mk, s₂, L, E, ce, rfl, rfl, hx, hce, hcv, hcl, rfl, hL, rfl, rfl⟩, ?_⟩
    show Steps p.tables e below _ (((({ U with heap := s₂.heap, slotsUsed := s₂.slotsUsed } : State).setVm s₂.vm).setTop g).pushFrame (.throwing q))
    rw [← hs₂]
    exact hsteps
end Payer
section Calls
variable {p : Program} {l : Launch} {e : Env} {R : Room} {s : State} {m : MethodId} {args : Array Value} {below : List Frame} {meth : Method} {c : Code} {T : State} {locs : List Loc} {cells slots : Nat}
theorem vx_callV (X : Stand p l e R s m args below meth c T locs cells slots) (hexec : p.tables.exec = Jvm.exec) {own C : String} {index : Nat} {y : MethodName} {bytes : ByteArray} {maxL : Nat} {ret : Option FieldType}
    (hown : s.vm.findClass own = some m.cls) (hlink : (Cond.methodLink own index y).before args s = true) (hinst : (Cond.instanceMethod y).before args s = true) (hsel : (Cond.selects C y y).before args s = true)
    (hcode : (Cond.code y bytes maxL ret).before args s = true) (hy : y.cls ≠ "java/lang/invoke/MethodHandle" ∧ y.cls ≠ "java/lang/invoke/VarHandle")
    {W9 : Nat} {Pre : Pt → Array Value → Prop} {Post : Pt → Array Value → Option Value → Pt → Prop} {PostX : Pt → Array Value → Addr → Pt → Prop} (hK : vx_Back l R p e below s args y 3 W9 Pre Post PostX)
    {b : Addr} {cellB : Cell} (hcell : T.heap[b]? = some cellB) (hobj : cellB.vm.isStatics = false) (hcls : s.vm.findClass C = some cellB.cls)
    {g : JFrame} (hg : g.method = m) (hsize : g.locals.size = c.maxLocals) {argsL rest : List Value} (hlen : ∀ sig, parseMethodDescriptor y.desc = some sig → argsL.length = sig.parameters.length)
    (hstack : g.stack = argsL.reverse ++ .ref b :: rest) (hW : 2 * g.monitorRoom + (rest.map fun v => v.category).sum ≤ W9) (hdg : decode c.code g.pc = .ok (.invokevirtual index, 3))
    (hpre : ∀ vm₁, s.WarmedH vm₁ → Pre ⟨T.setVm vm₁, locs, cells, slots⟩ (Value.ref b :: argsL).toArray) :
    (∃ (v : Option Value) (vm₁ : Vm) (B : Pt), s.WarmedH vm₁ ∧ Stand p l e R s m args below meth c B.U B.locs B.cells B.slots ∧ Post ⟨T.setVm vm₁, locs, cells, slots⟩ (Value.ref b :: argsL).toArray v B ∧
      ∀ target, Steps p.tables e below (B.U.setTop { g with pc := g.pc + 3, stack := v.toList ++ rest }) target → Steps p.tables e below (T.setTop g) target) ∨
    (∃ (q : Addr) (vm₁ : Vm) (B : Pt), s.WarmedH vm₁ ∧ Stand p l e R s m args below meth c B.U B.locs B.cells B.slots ∧ PostX ⟨T.setVm vm₁, locs, cells, slots⟩ (Value.ref b :: argsL).toArray q B ∧
      Steps p.tables e below (T.setTop g) ((B.U.setTop { g with stack := rest }).pushFrame (.throwing q))) := by
  obtain ⟨mk, methM, hnamed, hmethM, hstM, habM⟩ := Cond.instanceMethod_spec hinst
  obtain ⟨methM', cM, hmethM', -, -, -, -, -, -, hsigM⟩ := Cond.code_spec hnamed hcode
  cases hmethM.symm.trans hmethM'
  obtain ⟨c2, r2, m2, q1, q2, q3, q4, kP, hkP, hkPi⟩ := Cond.selects_spec hsel
  cases hcls.symm.trans q1
  cases (State.methodFound?_of_named hnamed hy).symm.trans q2
  cases hnamed.symm.trans q3
  have hselP : selectMethod e.platform s.vm cellB.cls mk = .method mk := by rw [Launch.admits_selectMethod X.admits]; exact q4
  obtain ⟨vm₁, X₁, hstep₁⟩ := X.invokevirtual hexec hown hlink hnamed hmethM hstM hkP hkPi hy (a := b) (cell := cellB) hcell
    (fun z h => by rw [h] at hobj; cases hobj) hselP hmethM habM hkP hkPi (g := g) hg (argsL := argsL) (rest := rest) (hlen _ hsigM) hstack hdg
  rcases hK m meth c ⟨T.setVm vm₁, locs, cells, slots⟩ { g with stack := rest } (.invokevirtual index) mk (Value.ref b :: argsL).toArray X₁ hg hsize hdg hW (X₁.named hnamed) (hpre vm₁ X₁.warmed) with ⟨v, B, X', hpost, hsteps⟩ | ⟨q, B, X', hpost, hsteps⟩
  · exact Or.inl ⟨v, vm₁, B, X₁.warmed, X', hpost, fun target h => hstep₁ _ fun acts => by rw [doInvoke_state]; exact hsteps.trans h⟩
  · exact Or.inr ⟨q, vm₁, B, X₁.warmed, X', hpost, hstep₁ _ fun acts => by rw [doInvoke_state]; exact hsteps⟩
theorem vx_callS (X : Stand p l e R s m args below meth c T locs cells slots) (hexec : p.tables.exec = Jvm.exec) {own : String} {index : Nat} {y : MethodName} {bytes : ByteArray} {maxL : Nat} {ret : Option FieldType}
    (hown : s.vm.findClass own = some m.cls) (hlink : (Cond.methodLink own index y).before args s = true) (hstat : (Cond.static y).before args s = true) (hinit : (Cond.initialized y.cls).before args s = true)
    (hcode : (Cond.code y bytes maxL ret).before args s = true) (hy : y.cls ≠ "java/lang/invoke/MethodHandle" ∧ y.cls ≠ "java/lang/invoke/VarHandle")
    {W9 : Nat} {Pre : Pt → Array Value → Prop} {Post : Pt → Array Value → Option Value → Pt → Prop} {PostX : Pt → Array Value → Addr → Pt → Prop} (hK : vx_Back l R p e below s args y 3 W9 Pre Post PostX)
    {g : JFrame} (hg : g.method = m) (hsize : g.locals.size = c.maxLocals) {argsL rest : List Value} (hlen : ∀ sig, parseMethodDescriptor y.desc = some sig → argsL.length = sig.parameters.length)
    (hstack : g.stack = argsL.reverse ++ rest) (hW : 2 * g.monitorRoom + (rest.map fun v => v.category).sum ≤ W9) (hdg : decode c.code g.pc = .ok (.invokestatic index, 3))
    (hpre : ∀ vm₁, s.WarmedH vm₁ → Pre ⟨T.setVm vm₁, locs, cells, slots⟩ argsL.toArray) :
    (∃ (v : Option Value) (vm₁ : Vm) (B : Pt), s.WarmedH vm₁ ∧ Stand p l e R s m args below meth c B.U B.locs B.cells B.slots ∧ Post ⟨T.setVm vm₁, locs, cells, slots⟩ argsL.toArray v B ∧
      ∀ target, Steps p.tables e below (B.U.setTop { g with pc := g.pc + 3, stack := v.toList ++ rest }) target → Steps p.tables e below (T.setTop g) target) ∨
    (∃ (q : Addr) (vm₁ : Vm) (B : Pt), s.WarmedH vm₁ ∧ Stand p l e R s m args below meth c B.U B.locs B.cells B.slots ∧ PostX ⟨T.setVm vm₁, locs, cells, slots⟩ argsL.toArray q B ∧
      Steps p.tables e below (T.setTop g) ((B.U.setTop { g with stack := rest }).pushFrame (.throwing q))) := by
  obtain ⟨mk, hnamed⟩ := Cond.code_named hcode
  obtain ⟨methM, cM, hmethM, -, -, -, -, -, -, hsigM⟩ := Cond.code_spec hnamed hcode
  have hstatic : methM.isStatic = true := Cond.static_spec hnamed hmethM hstat
  obtain ⟨kP, hkP, -⟩ := className_of_methodNamed hnamed
  have hinitP : kP.init = .initialized := Cond.initialized_spec (findClass_of_methodNamed hnamed) hkP hinit
  obtain ⟨vm₁, X₁, hstep₁⟩ := X.invokestatic hexec hown hlink hnamed hmethM hstatic hkP hinitP hy (g := g) hg (argsL := argsL) (rest := rest) (hlen _ hsigM) hstack hdg
  rcases hK m meth c ⟨T.setVm vm₁, locs, cells, slots⟩ { g with stack := rest } (.invokestatic index) mk argsL.toArray X₁ hg hsize hdg hW (X₁.named hnamed) (hpre vm₁ X₁.warmed) with ⟨v, B, X', hpost, hsteps⟩ | ⟨q, B, X', hpost, hsteps⟩
  · exact Or.inl ⟨v, vm₁, B, X₁.warmed, X', hpost, fun target h => hstep₁ _ fun acts => by rw [doInvoke_state]; exact hsteps.trans h⟩
  · exact Or.inr ⟨q, vm₁, B, X₁.warmed, X', hpost, hstep₁ _ fun acts => by rw [doInvoke_state]; exact hsteps⟩
end Calls
theorem vx_cls {s : State} {T : State} {vm₁ : Vm} {E : String} {k : ClassId} (hW : s.WarmedH vm₁) (h : (T.setVm vm₁).vm.findClass E = some k) : s.vm.findClass E = some k := by
  have h1 : vm₁.findClass E = some k := h
  rw [hW.alike.findClass] at h1
  exact h1
/-- the method's frame g, with q thrown over it -/
def vx_W (p : Program) (l : Launch) (e : Env) (R : Room) (s : State) (m : MethodId) (args : Array Value) (below : List Frame) (meth : Method) (c : Code) (H : Heap) (locs : List Loc) (cells slots : Nat) (Q : State → Prop) (g : JFrame) (q : Addr) : Prop :=
  ∀ T : State, T.heap = H → Stand p l e R s m args below meth c T locs cells slots → ∃ t, Steps p.tables e below ((T.setTop g).pushFrame (.throwing q)) t ∧ Q t
def vx_Run (p : Program) (l : Launch) (e : Env) (R : Room) (s : State) (m : MethodId) (args : Array Value) (below : List Frame) (meth : Method) (c : Code) (H : Heap) (locs : List Loc) (cells slots mc ms : Nat) (g : JFrame) (rest : List Value) (Qa : State → Outcome → State → Prop) (XC : String → State → State → Prop) (free : Addr → Prop) : Prop :=
  ∀ T : State, T.heap = H → Stand p l e R s m args below meth c T locs cells slots →
    (∃ (v : Option Value) (st₀ t T' : State) (L : List Loc), st₀.heap = H ∧ Stand p l e R s m args below meth c T' (locs ++ L) (cells + mc) (slots + ms) ∧ (∀ q ∈ L, free q.base) ∧ T'.heap = t.heap ∧ T'.vm = t.vm ∧ Qa st₀ (.returned v) t ∧
      Goes p e below T g T' { g with pc := g.pc + 3, stack := v.toList ++ rest }) ∨
    (∃ (q : Addr) (st₀ t T' : State) (L : List Loc) (E : String) (ce : Cell), st₀.heap = H ∧ Stand p l e R s m args below meth c T' (locs ++ L) (cells + mc) (slots + ms) ∧ (∀ z ∈ L, free z.base) ∧ T'.heap = t.heap ∧ T'.vm = t.vm ∧ XC E st₀ t ∧ t.heap[q]? = some ce ∧ ce.vm = .none ∧ s.vm.findClass E = some ce.cls ∧
      Steps p.tables e below (T.setTop g) ((T'.setTop { g with stack := rest }).pushFrame (.throwing q)))
def vx_X {S : Type} (px : S → Prop) (B : String → S → State → Prop) (A : Nat → Prop) : String → State → State → Prop := fun E st t => ∃ u : S, px u ∧ B E u t ∧ va_F A st t
section Runs
variable {p : Program} {l : Launch} {e : Env} {R : Room} {s : State} {m : MethodId} {args : Array Value} {below : List Frame} {meth : Method} {c : Code} {H : Heap} {locs : List Loc} {cells slots : Nat}
variable {y : MethodName} {bytes cc : ByteArray} {maxL nL mc ms n index : Nat} {ret : Option FieldType} {ws : List Cond} {rm : Room} {Pc : Array Value → State → Prop} {Qc : Array Value → State → Outcome → State → Prop} {XC : String → State → State → Prop} {free : Addr → Prop} {Ts : List Cond} {own C : String} {b : Addr} {As rest : List Value} {g : JFrame}
theorem vx_callBack (cb : CallB R s args own index y bytes maxL ret ws rm mc ms n) (hM : vx_Met l y ws rm Pc Qc XC mc ms free) (hbl : FrameBlind Pc) : vx_Back l R p e below s args y 3 8 (PreOf R mc ms Pc) (PostOf Qc mc ms free) (vx_Post XC mc ms free) := by
  obtain ⟨hrc, hrs, hfr, hlo, hws, hcw, -, hini, -⟩ := cb
  exact vx_back (bytes := bytes) (maxL := maxL) (ret := ret) hM hbl hrc hrs hfr hlo hws hcw (fun a' U hW => word_at hW (Or.inl (by first | rfl | simp [Cond.onTables, Cond.keeps, Cond.steady])) hini)
theorem vx_runV (S : CallFix p m c cc nL s args Ts own) (hM : vx_Met l y ws rm Pc Qc XC mc ms free) (cw : CallW R s args own C index y bytes maxL ret ws rm mc ms n) (hp : PreV s H C b Pc As)
    (hg : g.method = m) (hn : As.length = n) (hsize : g.locals.size = nL) (hstack : g.stack = As.reverse ++ .ref b :: rest) (hW : 2 * g.monitorRoom + (rest.map fun v => v.category).sum ≤ 8) (hdg : decode cc g.pc = .ok (.invokevirtual index, 3)) (hf : cells + mc ≤ R.cells ∧ slots + ms ≤ R.slots) :
    vx_Run p l e R s m args below meth c H locs cells slots mc ms g rest (Qc (Value.ref b :: As).toArray) XC free := by
  have hK : vx_Back l R p e below s args y 3 8 (PreOf R mc ms Pc) (PostOf Qc mc ms free) (vx_Post XC mc ms free) := vx_callBack cw.1 hM hp.1
  obtain ⟨⟨-, -, -, -, -, -, hcode, -, hy, hlen, hl⟩, hin, hse⟩ := cw
  obtain ⟨hx, hb, hml, ho, -⟩ := S
  obtain ⟨-, ⟨cellB, hcB, hoB, hclB⟩, hPc⟩ := hp
  intro T hT X
  rcases vx_callV X hx (C := C) (bytes := bytes) (maxL := maxL) (ret := ret) ho hl hin hse hcode hy hK (by rw [hT]; exact hcB) hoB hclB hg (hsize.trans hml.symm) (argsL := As) (rest := rest) (fun sig h => hn.trans (hlen sig h)) hstack hW (by rw [hb]; exact hdg)
    (fun vm₁ hW₁ => ⟨hf.1, hf.2, hPc (T.setVm vm₁) hT hW₁⟩) with ⟨v, vm₁, ⟨U', l2, c2, s2⟩, hW₁, X', ⟨g', mk, t, L, e1, e2, hq, h1, hL, h2, h3⟩, st⟩ | ⟨q, vm₁, ⟨U', l2, c2, s2⟩, hW₁, X', ⟨g', mk, t, L, E, ce, e1, e2, hq, hce, hcv, hcl, h1, hL, h2, h3⟩, st⟩
  · dsimp only [Pt.U, Pt.locs, Pt.cells, Pt.slots] at X' e1 e2 h1 h2 h3 st
    subst h1; subst h2; subst h3
    exact Or.inl ⟨v, (T.setVm vm₁).calling g' mk (Value.ref b :: As).toArray, t, U', L, hT, X', hL, e1, e2, hq, st⟩
  · dsimp only [Pt.U, Pt.locs, Pt.cells, Pt.slots] at X' e1 e2 h1 h2 h3 st hcl
    subst h1; subst h2; subst h3
    exact Or.inr ⟨q, (T.setVm vm₁).calling g' mk (Value.ref b :: As).toArray, t, U', L, E, ce, hT, X', hL, e1, e2, hq, hce, hcv, vx_cls hW₁ hcl, st⟩
theorem vx_runS (S : CallFix p m c cc nL s args Ts own) (hM : vx_Met l y ws rm Pc Qc XC mc ms free) (cw : CallB R s args own index y bytes maxL ret ws rm mc ms n ∧ (Cond.static y).before args s = true) (hp : PreS s H Pc As)
    (hg : g.method = m) (hn : As.length = n) (hsize : g.locals.size = nL) (hstack : g.stack = As.reverse ++ rest) (hW : 2 * g.monitorRoom + (rest.map fun v => v.category).sum ≤ 8) (hdg : decode cc g.pc = .ok (.invokestatic index, 3)) (hf : cells + mc ≤ R.cells ∧ slots + ms ≤ R.slots) :
    vx_Run p l e R s m args below meth c H locs cells slots mc ms g rest (Qc As.toArray) XC free := by
  have hK : vx_Back l R p e below s args y 3 8 (PreOf R mc ms Pc) (PostOf Qc mc ms free) (vx_Post XC mc ms free) := vx_callBack cw.1 hM hp.1
  obtain ⟨⟨-, -, -, -, -, -, hcode, hini, hy, hlen, hl⟩, hstt⟩ := cw
  obtain ⟨hx, hb, hml, ho, -⟩ := S
  intro T hT X
  rcases vx_callS X hx (bytes := bytes) (maxL := maxL) (ret := ret) ho hl hstt hini hcode hy hK hg (hsize.trans hml.symm) (argsL := As) (rest := rest) (fun sig h => hn.trans (hlen sig h)) hstack hW (by rw [hb]; exact hdg)
    (fun vm₁ hW₁ => ⟨hf.1, hf.2, hp.2 (T.setVm vm₁) hT hW₁⟩) with ⟨v, vm₁, ⟨U', l2, c2, s2⟩, hW₁, X', ⟨g', mk, t, L, e1, e2, hq, h1, hL, h2, h3⟩, st⟩ | ⟨q, vm₁, ⟨U', l2, c2, s2⟩, hW₁, X', ⟨g', mk, t, L, E, ce, e1, e2, hq, hce, hcv, hcl, h1, hL, h2, h3⟩, st⟩
  · dsimp only [Pt.U, Pt.locs, Pt.cells, Pt.slots] at X' e1 e2 h1 h2 h3 st
    subst h1; subst h2; subst h3
    exact Or.inl ⟨v, (T.setVm vm₁).calling g' mk As.toArray, t, U', L, hT, X', hL, e1, e2, hq, st⟩
  · dsimp only [Pt.U, Pt.locs, Pt.cells, Pt.slots] at X' e1 e2 h1 h2 h3 st hcl
    subst h1; subst h2; subst h3
    exact Or.inr ⟨q, (T.setVm vm₁).calling g' mk As.toArray, t, U', L, E, ce, hT, X', hL, e1, e2, hq, hce, hcv, vx_cls hW₁ hcl, st⟩
end Runs
section Rows
variable {p : Program} {l : Launch} {e : Env} {R : Room} {s : State} {m : MethodId} {args : Array Value} {below : List Frame} {meth : Method} {c : Code} {H : Heap} {locs : List Loc} {cells slots : Nat} {Q : State → Prop}
variable {mc ms : Nat} {free : Addr → Prop} {A0 A1 : Nat → Prop} {H0 : Heap} {a : Array Value} {pc : Nat} {ls : Array Slot} {st0 rest : List Value}
theorem vx_keep {st₀ t T' : State} {L : List Loc} (h0 : st₀.heap = H) (e1 : T'.heap = t.heap) (hS : va_S A0 H0 H locs) (hA : ∀ q, q < H.size → A1 q → A0 q) (hf : ∀ q, free q → A0 q) (hL : ∀ q ∈ L, free q.base) (hF : va_F A1 st₀ t) :
    H.size ≤ T'.heap.size ∧ (∀ q : Nat, q < H.size → ¬ A1 q → T'.heap[q]? = H[q]?) ∧ va_S A0 H0 T'.heap (locs ++ L) := by
  obtain ⟨hz, hk⟩ := hF
  rw [h0] at hz hk
  exact ⟨by rw [e1]; exact hz, fun q h1 h2 => by rw [e1]; exact hk q h1 h2,
    ⟨Nat.le_trans hS.1 (by rw [e1]; exact hz), fun q h1 h2 => by rw [e1, hk q (Nat.lt_of_lt_of_le h1 hS.1) (fun z => h2 (hA q (Nat.lt_of_lt_of_le h1 hS.1) z))]; exact hS.2.1 q h1 h2, fun q hq => by
      rcases List.mem_append.mp hq with h | h
      · exact hS.2.2 q h
      · exact hf _ (hL q h)⟩⟩
theorem vx_calli {S SX : Type} {post : Int32 → S → Prop} {px : SX → Prop} {B : S → State → Prop} {BX : String → SX → State → Prop} {AX : Nat → Prop} (hr : vx_Run p l e R s m args below meth c H locs cells slots mc ms (F0 m pc ls st0) rest (va_Qi post B A1 a) (vx_X px BX AX) free) (hS : va_S A0 H0 H locs) (hA : ∀ q, q < H.size → A1 q → A0 q) (hf : ∀ q, free q → A0 q) (hAX : ∀ q, q < H.size → AX q → A0 q)
    (kx : ∀ (E : String) (ce : Cell) (q9 : Addr) (u : SX) (t : State) (H1 : Heap) (locs1 : List Loc), t.heap = H1 → s.vm.Alike t.vm → px u → BX E u t → H.size ≤ H1.size → (∀ q : Nat, q < H.size → ¬ AX q → H1[q]? = H[q]?) → va_S A0 H0 H1 locs1 → H1[q9]? = some ce → ce.vm = .none → s.vm.findClass E = some ce.cls → vx_W p l e R s m args below meth c H1 locs1 (cells + mc) (slots + ms) Q (F0 m pc ls rest) q9)
    (kk : ∀ (r : Int32) (u : S) (t : State) (H1 : Heap) (locs1 : List Loc), t.heap = H1 → s.vm.Alike t.vm → post r u → B u t → H.size ≤ H1.size → (∀ q : Nat, q < H.size → ¬ A1 q → H1[q]? = H[q]?) → va_S A0 H0 H1 locs1 → W p l e R s m args below meth c H1 locs1 (cells + mc) (slots + ms) Q (F0 m (pc + 3) ls (.int r :: rest))) : W p l e R s m args below meth c H locs cells slots Q (F0 m pc ls st0) := by
  intro T hT X
  rcases hr T hT X with ⟨v, st₀, t, T', L, h0, X', hL, e1, e2, ⟨⟨r, u, hv, hp, hb⟩, hF⟩, st⟩ | ⟨q, st₀, t, T', L, E, ce, h0, X', hL, e1, e2, ⟨u, hp, hb, hF⟩, hce, hcv, hcl, st⟩
  · cases hv
    obtain ⟨k1, k2, k3⟩ := vx_keep h0 e1 hS hA hf hL hF
    obtain ⟨t2, a1, b1⟩ := kk r u t T'.heap (locs ++ L) e1.symm (by rw [← e2]; exact X'.warmed.alike) hp hb k1 k2 k3 T' rfl X'
    exact ⟨t2, st t2 a1, b1⟩
  · obtain ⟨k1, k2, k3⟩ := vx_keep h0 e1 hS hAX hf hL hF
    obtain ⟨t2, a1, b1⟩ := kx E ce q u t T'.heap (locs ++ L) e1.symm (by rw [← e2]; exact X'.warmed.alike) hp hb k1 k2 k3 (by rw [e1]; exact hce) hcv hcl T' rfl X'
    exact ⟨t2, st.trans a1, b1⟩
theorem vx_calll {S SX : Type} {post : Int64 → S → Prop} {px : SX → Prop} {B : S → State → Prop} {BX : String → SX → State → Prop} {AX : Nat → Prop} (hr : vx_Run p l e R s m args below meth c H locs cells slots mc ms (F0 m pc ls st0) rest (va_Ql post B A1 a) (vx_X px BX AX) free) (hS : va_S A0 H0 H locs) (hA : ∀ q, q < H.size → A1 q → A0 q) (hf : ∀ q, free q → A0 q) (hAX : ∀ q, q < H.size → AX q → A0 q)
    (kx : ∀ (E : String) (ce : Cell) (q9 : Addr) (u : SX) (t : State) (H1 : Heap) (locs1 : List Loc), t.heap = H1 → s.vm.Alike t.vm → px u → BX E u t → H.size ≤ H1.size → (∀ q : Nat, q < H.size → ¬ AX q → H1[q]? = H[q]?) → va_S A0 H0 H1 locs1 → H1[q9]? = some ce → ce.vm = .none → s.vm.findClass E = some ce.cls → vx_W p l e R s m args below meth c H1 locs1 (cells + mc) (slots + ms) Q (F0 m pc ls rest) q9)
    (kk : ∀ (r : Int64) (u : S) (t : State) (H1 : Heap) (locs1 : List Loc), t.heap = H1 → s.vm.Alike t.vm → post r u → B u t → H.size ≤ H1.size → (∀ q : Nat, q < H.size → ¬ A1 q → H1[q]? = H[q]?) → va_S A0 H0 H1 locs1 → W p l e R s m args below meth c H1 locs1 (cells + mc) (slots + ms) Q (F0 m (pc + 3) ls (.long r :: rest))) : W p l e R s m args below meth c H locs cells slots Q (F0 m pc ls st0) := by
  intro T hT X
  rcases hr T hT X with ⟨v, st₀, t, T', L, h0, X', hL, e1, e2, ⟨⟨r, u, hv, hp, hb⟩, hF⟩, st⟩ | ⟨q, st₀, t, T', L, E, ce, h0, X', hL, e1, e2, ⟨u, hp, hb, hF⟩, hce, hcv, hcl, st⟩
  · cases hv
    obtain ⟨k1, k2, k3⟩ := vx_keep h0 e1 hS hA hf hL hF
    obtain ⟨t2, a1, b1⟩ := kk r u t T'.heap (locs ++ L) e1.symm (by rw [← e2]; exact X'.warmed.alike) hp hb k1 k2 k3 T' rfl X'
    exact ⟨t2, st t2 a1, b1⟩
  · obtain ⟨k1, k2, k3⟩ := vx_keep h0 e1 hS hAX hf hL hF
    obtain ⟨t2, a1, b1⟩ := kx E ce q u t T'.heap (locs ++ L) e1.symm (by rw [← e2]; exact X'.warmed.alike) hp hb k1 k2 k3 (by rw [e1]; exact hce) hcv hcl T' rfl X'
    exact ⟨t2, st.trans a1, b1⟩
theorem vx_callf {S SX : Type} {post : UInt32 → S → Prop} {px : SX → Prop} {B : S → State → Prop} {BX : String → SX → State → Prop} {AX : Nat → Prop} (hr : vx_Run p l e R s m args below meth c H locs cells slots mc ms (F0 m pc ls st0) rest (va_Qf post B A1 a) (vx_X px BX AX) free) (hS : va_S A0 H0 H locs) (hA : ∀ q, q < H.size → A1 q → A0 q) (hf : ∀ q, free q → A0 q) (hAX : ∀ q, q < H.size → AX q → A0 q)
    (kx : ∀ (E : String) (ce : Cell) (q9 : Addr) (u : SX) (t : State) (H1 : Heap) (locs1 : List Loc), t.heap = H1 → s.vm.Alike t.vm → px u → BX E u t → H.size ≤ H1.size → (∀ q : Nat, q < H.size → ¬ AX q → H1[q]? = H[q]?) → va_S A0 H0 H1 locs1 → H1[q9]? = some ce → ce.vm = .none → s.vm.findClass E = some ce.cls → vx_W p l e R s m args below meth c H1 locs1 (cells + mc) (slots + ms) Q (F0 m pc ls rest) q9)
    (kk : ∀ (r : UInt32) (u : S) (t : State) (H1 : Heap) (locs1 : List Loc), t.heap = H1 → s.vm.Alike t.vm → post r u → B u t → H.size ≤ H1.size → (∀ q : Nat, q < H.size → ¬ A1 q → H1[q]? = H[q]?) → va_S A0 H0 H1 locs1 → W p l e R s m args below meth c H1 locs1 (cells + mc) (slots + ms) Q (F0 m (pc + 3) ls (.float r :: rest))) : W p l e R s m args below meth c H locs cells slots Q (F0 m pc ls st0) := by
  intro T hT X
  rcases hr T hT X with ⟨v, st₀, t, T', L, h0, X', hL, e1, e2, ⟨⟨r, u, hv, hp, hb⟩, hF⟩, st⟩ | ⟨q, st₀, t, T', L, E, ce, h0, X', hL, e1, e2, ⟨u, hp, hb, hF⟩, hce, hcv, hcl, st⟩
  · cases hv
    obtain ⟨k1, k2, k3⟩ := vx_keep h0 e1 hS hA hf hL hF
    obtain ⟨t2, a1, b1⟩ := kk r u t T'.heap (locs ++ L) e1.symm (by rw [← e2]; exact X'.warmed.alike) hp hb k1 k2 k3 T' rfl X'
    exact ⟨t2, st t2 a1, b1⟩
  · obtain ⟨k1, k2, k3⟩ := vx_keep h0 e1 hS hAX hf hL hF
    obtain ⟨t2, a1, b1⟩ := kx E ce q u t T'.heap (locs ++ L) e1.symm (by rw [← e2]; exact X'.warmed.alike) hp hb k1 k2 k3 (by rw [e1]; exact hce) hcv hcl T' rfl X'
    exact ⟨t2, st.trans a1, b1⟩
theorem vx_calld {S SX : Type} {post : UInt64 → S → Prop} {px : SX → Prop} {B : S → State → Prop} {BX : String → SX → State → Prop} {AX : Nat → Prop} (hr : vx_Run p l e R s m args below meth c H locs cells slots mc ms (F0 m pc ls st0) rest (va_Qd post B A1 a) (vx_X px BX AX) free) (hS : va_S A0 H0 H locs) (hA : ∀ q, q < H.size → A1 q → A0 q) (hf : ∀ q, free q → A0 q) (hAX : ∀ q, q < H.size → AX q → A0 q)
    (kx : ∀ (E : String) (ce : Cell) (q9 : Addr) (u : SX) (t : State) (H1 : Heap) (locs1 : List Loc), t.heap = H1 → s.vm.Alike t.vm → px u → BX E u t → H.size ≤ H1.size → (∀ q : Nat, q < H.size → ¬ AX q → H1[q]? = H[q]?) → va_S A0 H0 H1 locs1 → H1[q9]? = some ce → ce.vm = .none → s.vm.findClass E = some ce.cls → vx_W p l e R s m args below meth c H1 locs1 (cells + mc) (slots + ms) Q (F0 m pc ls rest) q9)
    (kk : ∀ (r : UInt64) (u : S) (t : State) (H1 : Heap) (locs1 : List Loc), t.heap = H1 → s.vm.Alike t.vm → post r u → B u t → H.size ≤ H1.size → (∀ q : Nat, q < H.size → ¬ A1 q → H1[q]? = H[q]?) → va_S A0 H0 H1 locs1 → W p l e R s m args below meth c H1 locs1 (cells + mc) (slots + ms) Q (F0 m (pc + 3) ls (.double r :: rest))) : W p l e R s m args below meth c H locs cells slots Q (F0 m pc ls st0) := by
  intro T hT X
  rcases hr T hT X with ⟨v, st₀, t, T', L, h0, X', hL, e1, e2, ⟨⟨r, u, hv, hp, hb⟩, hF⟩, st⟩ | ⟨q, st₀, t, T', L, E, ce, h0, X', hL, e1, e2, ⟨u, hp, hb, hF⟩, hce, hcv, hcl, st⟩
  · cases hv
    obtain ⟨k1, k2, k3⟩ := vx_keep h0 e1 hS hA hf hL hF
    obtain ⟨t2, a1, b1⟩ := kk r u t T'.heap (locs ++ L) e1.symm (by rw [← e2]; exact X'.warmed.alike) hp hb k1 k2 k3 T' rfl X'
    exact ⟨t2, st t2 a1, b1⟩
  · obtain ⟨k1, k2, k3⟩ := vx_keep h0 e1 hS hAX hf hL hF
    obtain ⟨t2, a1, b1⟩ := kx E ce q u t T'.heap (locs ++ L) e1.symm (by rw [← e2]; exact X'.warmed.alike) hp hb k1 k2 k3 (by rw [e1]; exact hce) hcv hcl T' rfl X'
    exact ⟨t2, st.trans a1, b1⟩
theorem vx_callv {S SX : Type} {post : S → Prop} {px : SX → Prop} {B : S → State → Prop} {BX : String → SX → State → Prop} {AX : Nat → Prop} (hr : vx_Run p l e R s m args below meth c H locs cells slots mc ms (F0 m pc ls st0) rest (va_Qv post B A1 a) (vx_X px BX AX) free) (hS : va_S A0 H0 H locs) (hA : ∀ q, q < H.size → A1 q → A0 q) (hf : ∀ q, free q → A0 q) (hAX : ∀ q, q < H.size → AX q → A0 q)
    (kx : ∀ (E : String) (ce : Cell) (q9 : Addr) (u : SX) (t : State) (H1 : Heap) (locs1 : List Loc), t.heap = H1 → s.vm.Alike t.vm → px u → BX E u t → H.size ≤ H1.size → (∀ q : Nat, q < H.size → ¬ AX q → H1[q]? = H[q]?) → va_S A0 H0 H1 locs1 → H1[q9]? = some ce → ce.vm = .none → s.vm.findClass E = some ce.cls → vx_W p l e R s m args below meth c H1 locs1 (cells + mc) (slots + ms) Q (F0 m pc ls rest) q9)
    (kk : ∀ (u : S) (t : State) (H1 : Heap) (locs1 : List Loc), t.heap = H1 → s.vm.Alike t.vm → post u → B u t → H.size ≤ H1.size → (∀ q : Nat, q < H.size → ¬ A1 q → H1[q]? = H[q]?) → va_S A0 H0 H1 locs1 → W p l e R s m args below meth c H1 locs1 (cells + mc) (slots + ms) Q (F0 m (pc + 3) ls (rest))) : W p l e R s m args below meth c H locs cells slots Q (F0 m pc ls st0) := by
  intro T hT X
  rcases hr T hT X with ⟨v, st₀, t, T', L, h0, X', hL, e1, e2, ⟨⟨u, hv, hp, hb⟩, hF⟩, st⟩ | ⟨q, st₀, t, T', L, E, ce, h0, X', hL, e1, e2, ⟨u, hp, hb, hF⟩, hce, hcv, hcl, st⟩
  · cases hv
    obtain ⟨k1, k2, k3⟩ := vx_keep h0 e1 hS hA hf hL hF
    obtain ⟨t2, a1, b1⟩ := kk u t T'.heap (locs ++ L) e1.symm (by rw [← e2]; exact X'.warmed.alike) hp hb k1 k2 k3 T' rfl X'
    exact ⟨t2, st t2 a1, b1⟩
  · obtain ⟨k1, k2, k3⟩ := vx_keep h0 e1 hS hAX hf hL hF
    obtain ⟨t2, a1, b1⟩ := kx E ce q u t T'.heap (locs ++ L) e1.symm (by rw [← e2]; exact X'.warmed.alike) hp hb k1 k2 k3 (by rw [e1]; exact hce) hcv hcl T' rfl X'
    exact ⟨t2, st.trans a1, b1⟩
/-- caught by the row x of this method's table; the rows ahead don't take it -/
theorem vx_catch {own name : String} {E : String} {ce : Cell} {q : Addr} (hown : s.vm.findClass own = some m.cls) (pre : List ExceptionTableEntry) (x : ExceptionTableEntry) (suf : List ExceptionTableEntry) (hsplit : c.exceptionTable.toList = pre ++ x :: suf)
    (hpass : ∀ z ∈ pre, covers z pc = false ∨ (z.catchType ≠ 0 ∧ ∃ nm : String, (Cond.classLink own z.catchType nm).before args s = true ∧ va_Nc E nm s)) (hx : covers x pc = true) (h0 : x.catchType ≠ 0)
    (hlink : (Cond.classLink own x.catchType name).before args s = true) (hcast : (Cond.castable E name).before args s = true) (hcell : H[q]? = some ce) (hv : ce.vm = .none) (hcl : s.vm.findClass E = some ce.cls)
    (kk : W p l e R s m args below meth c H locs cells slots Q (F0 m x.handlerPc ls [.ref q])) : vx_W p l e R s m args below meth c H locs cells slots Q (F0 m pc ls rest) q := by
  intro T hT X
  have hpl : e.platform.magicAccessors = ({} : Platform).magicAccessors := by rw [X.admits.platform]
  obtain ⟨c3, c4, hc3, hc4, hasg⟩ := Cond.castable_spec hcast
  cases Option.some.inj (hc3.symm.trans hcl)
  obtain ⟨c5, hc5, hcl5⟩ := Cond.classLink_spec hown hlink e.platform hpl
  cases Option.some.inj (hc4.symm.trans hc5)
  obtain ⟨vm', X', st⟩ := X.thenCaughtThrough q (g := F0 m pc ls rest) rfl (Steps.refl _) (by rw [hT]; exact hcell) (by rw [hv]; rfl) (by obtain ⟨k9, h9, -⟩ := Vm.findClass_spec hcl; exact ⟨k9, h9⟩) pre x suf hsplit
    (fun z hz => by
      rcases hpass z hz with h | ⟨hz0, nm, hl1, hn1⟩
      · exact Or.inl h
      · obtain ⟨c6, hc6, hcl6⟩ := Cond.classLink_spec hown hl1 e.platform hpl
        obtain ⟨a8, b8, h1, h2, h3⟩ := hn1
        cases Option.some.inj (h1.symm.trans hcl)
        cases Option.some.inj (h2.symm.trans hc6)
        exact Or.inr ⟨hz0, _, hcl6, h3⟩) hx (Or.inr ⟨h0, c4, hcl5, hasg⟩)
  obtain ⟨t, a1, b1⟩ := kk (T.setVm vm') hT X'
  exact ⟨t, st.trans a1, b1⟩
end Rows
section Ends
variable {p : Program} {l : Launch} {e : Env} {R : Room} {s : State} {m : MethodId} {args : Array Value} {below : List Frame} {meth : Method} {c : Code} {H : Heap} {locs : List Loc} {cells slots : Nat} {Q : State → Prop}
variable {mc ms : Nat} {free : Addr → Prop} {A0 A1 : Nat → Prop} {H0 : Heap} {a : Array Value} {ls : Array Slot} {st0 rest : List Value}
variable {Qc : Array Value → State → Outcome → State → Prop} {XC : String → State → State → Prop}
/-- what a body that may throw owes at its end -/
def vx_MQ (below : List Frame) (Qc : Array Value → State → Outcome → State → Prop) (XC : String → State → State → Prop) (a : Array Value) (s : State) (mc ms : Nat) (free : Addr → Prop) : State → Prop := fun t =>
  ∃ o, t.status = .running ∧ Ended t below o ∧ vx_Q Qc XC mc ms free a s o t
theorem vx_ret {g : JFrame} {mc ms : Nat} (k : W p l e R s m args below meth c H locs cells slots (MQ below Qc args s mc ms free) g) : W p l e R s m args below meth c H locs cells slots (vx_MQ below Qc XC args s mc ms free) g := by
  intro T hT X
  obtain ⟨t, a1, o, b1, b2, b3, b4⟩ := k T hT X
  exact ⟨t, a1, o, b1, b2, Or.inl ⟨b3, b4⟩⟩
/-- not caught here: it goes on to the caller -/
theorem vx_widen {g : JFrame} {q : Addr} {k n : Nat} (h1 : cells ≤ k) (h2 : slots ≤ n) (kk : vx_W p l e R s m args below meth c H locs k n Q g q) : vx_W p l e R s m args below meth c H locs cells slots Q g q := fun T hT X => kk T hT (stand_widen X h1 h2)
theorem vx_out {pc : Nat} {E : String} {ce : Cell} {q : Addr} {mc ms : Nat} (hout : ∀ x ∈ c.exceptionTable.toList, covers x pc = false) (hlocks : meth.locks = false) (hcell : H[q]? = some ce) (hv : ce.vm = .none) (hcl : s.vm.findClass E = some ce.cls)
    (hx : ∀ t : State, t.heap = H → s.vm.Alike t.vm → XC E s t) (hf : ∀ z ∈ locs, free z.base) (hc : cells ≤ mc) (hs : slots ≤ ms) :
    vx_W p l e R s m args below meth c H locs cells slots (vx_MQ below Qc XC args s mc ms free) (F0 m pc ls rest) q := by
  intro T hT X
  obtain ⟨st1, hrun, hend, hW, hsm⟩ := X.leaveThrown q (g := F0 m pc ls rest) rfl rfl rfl hout hlocks
  have hcell9 : (T.setFrames (.throwing q :: below)).heap[q]? = some ce := by
    show T.heap[q]? = some ce
    rw [hT]; exact hcell
  exact ⟨_, st1, .threw q, hrun, hend, Or.inr ⟨q, rfl, E, ce, locs, hx _ hT hW.alike, hcell9, hv, hcl, hW, hsm.mono hc hs, hf⟩⟩
theorem vx_frame {U : State} {k n : Nat} (h : s.sameButNew ({ U with vm := s.vm } : State) locs k n) : s.heap.size ≤ U.heap.size ∧ ∀ q : Nat, q < s.heap.size → (∀ z ∈ locs, z.base ≠ q) → U.heap[q]? = s.heap[q]? := by
  obtain ⟨-, h2, -, -, -, h6⟩ := h
  refine ⟨h2, fun q hq hz => ?_⟩
  obtain ⟨c9, e1, e2, e3, e4⟩ := h6 q _ (Array.getElem?_eq_getElem hq)
  have hs : c9.slots = (s.heap[q]).slots := Array.ext_getElem? fun i => e4 i fun hm => hz _ hm rfl
  have h9 : c9 = s.heap[q] := by
    rw [hs] at e2
    exact e2
  have e5 : U.heap[q]? = some c9 := e1
  rw [e5, h9, Array.getElem?_eq_getElem hq]
/-- the words of a throw but the four that speak of the heap -/
def vx_no (w : Cond) : Bool := decide (w ≠ .isRef (.static Bundle.tN "UNASSIGNED_STACK" Bundle.steD)) && decide (w ≠ .isRef (.static Bundle.tN "SUPPRESSED_SENTINEL" Bundle.listD)) && decide (w ≠ .laysStatic Bundle.tN "UNASSIGNED_STACK" Bundle.steD) && decide (w ≠ .laysStatic Bundle.tN "SUPPRESSED_SENTINEL" Bundle.listD)
def vx_at0 (own : String) (ic : Nat) (X : String) (names : List String) : List Cond := (Bundle.ownAtoms0 own ic X names).filter vx_no
def vx_atS (own : String) (ic : Nat) (X : String) (names : List String) : List Cond := (Bundle.ownAtoms own ic X names).filter vx_no
/-- a word that the tables alone decide, or a good one -/
def vx_ot (w : Cond) : Bool := w.onTables || goodWord w
theorem vx_ot_at {args a' : Array Value} {s U : State} {w : Cond} (hW : s.WarmedH U.vm) (hvm : s.vm = U.vm) (hg : vx_ot w = true) (h : w.before args s = true) : w.before a' U = true := by
  simp only [vx_ot, Bool.or_eq_true] at hg
  rcases hg with hg | hg
  · exact va_tabs hg hvm h
  · exact word_at hW (good_of_word hg) h
/-- a list's words: the good ones out of the method's own list, the others by premises of their own -/
theorem vx_hat {args : Array Value} {s : State} {L B : List Cond} (h1 : ∀ w ∈ L.filter goodWord, w.before args s = true) (h2 : ∀ w ∈ L.filter (fun w => !goodWord w), w ∈ B) (h3 : ∀ w ∈ B, w.before args s = true) : ∀ w ∈ L, w.before args s = true := by
  intro w hw
  by_cases g : goodWord w = true
  · exact h1 w (List.mem_filter.mpr ⟨hw, g⟩)
  · refine h3 w (h2 w (List.mem_filter.mpr ⟨hw, ?_⟩))
    show (!goodWord w) = true
    cases hgw : goodWord w
    · rfl
    · exact absurd hgw g
theorem vx_c {args : Array Value} {s : State} {w : Cond} {B : List Cond} (h : w.before args s = true) (t : ∀ w ∈ B, w.before args s = true) : ∀ w' ∈ w :: B, w'.before args s = true := fun w' h' => (List.mem_cons.mp h').elim (fun e => by rw [e]; exact h) (t w')
theorem vx_n {args : Array Value} {s : State} : ∀ w ∈ ([] : List Cond), w.before args s = true := fun _ h => nomatch h
theorem vx_own {args : Array Value} {s : State} {L : List Cond} (h1 : ∀ w ∈ L.filter vx_no, w.before args s = true)
    (hU : (Cond.isRef (.static Bundle.tN "UNASSIGNED_STACK" Bundle.steD)).before args s = true) (hN : (Cond.isRef (.static Bundle.tN "SUPPRESSED_SENTINEL" Bundle.listD)).before args s = true)
    (lU : (Cond.laysStatic Bundle.tN "UNASSIGNED_STACK" Bundle.steD).before args s = true) (lN : (Cond.laysStatic Bundle.tN "SUPPRESSED_SENTINEL" Bundle.listD).before args s = true) : ∀ w ∈ L, w.before args s = true := by
  intro w hw
  by_cases e1 : w = .isRef (.static Bundle.tN "UNASSIGNED_STACK" Bundle.steD)
  · rw [e1]; exact hU
  · by_cases e2 : w = .isRef (.static Bundle.tN "SUPPRESSED_SENTINEL" Bundle.listD)
    · rw [e2]; exact hN
    · by_cases e3 : w = .laysStatic Bundle.tN "UNASSIGNED_STACK" Bundle.steD
      · rw [e3]; exact lU
      · by_cases e4 : w = .laysStatic Bundle.tN "SUPPRESSED_SENTINEL" Bundle.listD
        · rw [e4]; exact lN
        · exact h1 w (List.mem_filter.mpr ⟨hw, by unfold vx_no; rw [decide_eq_true e1, decide_eq_true e2, decide_eq_true e3, decide_eq_true e4]; rfl⟩)
/-- where a static field lies, its class's statics cell in H -/
def vx_L (C n d : String) (A : Nat → Prop) (U : State) (H : Heap) : Prop := ∃ (c : ClassId) (k : Class) (i : Nat) (f : Field) (a : Nat) (cell : Cell), U.vm.findClass C = some c ∧ U.fieldFound? C n d = some (c, k, i, f) ∧ f.isStatic = true ∧ k.statics = some a ∧ H[a]? = some cell ∧ cell.vm.isStatics = true ∧ cell.cls = c ∧ f.slot < cell.slots.size ∧ k.staticTypes[f.slot]? = some f.type ∧ ¬ A a
theorem vx_L.moved {C n d : String} {A : Nat → Prop} {u U : State} {H : Heap} (hvm : u.vm.Alike U.vm) (h : vx_L C n d A u H) : vx_L C n d A U H := by
  obtain ⟨c, k, i, f, a, cell, h1, h2, h3, h4, h5, h6, h7, h8, h9, h10⟩ := h
  obtain ⟨k', hi', he⟩ := State.fieldFound?_setVm hvm h2
  exact ⟨c, k', i, f, a, cell, by rw [hvm.findClass]; exact h1, hi', h3, by rw [he]; exact h4, h5, h6, h7, h8, by rw [he]; exact h9, h10⟩
theorem vx_L.kept {C n d : String} {A : Nat → Prop} {U : State} {H H1 : Heap} (h : vx_L C n d A U H) (hq : ∀ a : Nat, a < H.size → ¬ A a → H1[a]? = H[a]?) : vx_L C n d A U H1 := by
  obtain ⟨c, k, i, f, a, cell, h1, h2, h3, h4, h5, h6, h7, h8, h9, h10⟩ := h
  exact ⟨c, k, i, f, a, cell, h1, h2, h3, h4, by rw [hq a (Array.getElem?_eq_some_iff.mp h5).1 h10]; exact h5, h6, h7, h8, h9, h10⟩
theorem vx_L.narrow {C n d : String} {A B : Nat → Prop} {U : State} {H : Heap} (h : vx_L C n d A U H) (hAB : ∀ q, B q → A q) : vx_L C n d B U H := by
  obtain ⟨c, k, i, f, a, cell, h1, h2, h3, h4, h5, h6, h7, h8, h9, h10⟩ := h
  exact ⟨c, k, i, f, a, cell, h1, h2, h3, h4, h5, h6, h7, h8, h9, fun z => h10 (hAB _ z)⟩
theorem vx_L.word {C n d : String} {A : Nat → Prop} {s : State} {args : Array Value} (h : vx_L C n d A s s.heap) : (Cond.laysStatic C n d).before args s = true := by
  obtain ⟨c, k, i, f, a, cell, h1, h2, h3, h4, h5, h6, h7, h8, h9, -⟩ := h
  show (Cond.laysStatic C n d).holds args s none s [] = true
  exact Cond.laysStatic_of h1 h2 h3 h4 h5 h6 h7 h8 h9
/-- .. and what it holds: null or some reference -/
def vx_Zq (C n d : String) (A : Nat → Prop) (U : State) (H : Heap) : Prop := va_Zq C n d A U H ∧ vx_L C n d A U H
theorem vx_Zq.moved {C n d : String} {A : Nat → Prop} {u U : State} {H : Heap} (hvm : u.vm.Alike U.vm) (h : vx_Zq C n d A u H) : vx_Zq C n d A U H := ⟨va_Zq.moved hvm h.1, vx_L.moved hvm h.2⟩
theorem vx_Zq.kept {C n d : String} {A : Nat → Prop} {U : State} {H H1 : Heap} (h : vx_Zq C n d A U H) (hq : ∀ a : Nat, a < H.size → ¬ A a → H1[a]? = H[a]?) : vx_Zq C n d A U H1 := ⟨va_Zq.kept h.1 hq, vx_L.kept h.2 hq⟩
theorem vx_Zq.narrow {C n d : String} {A B : Nat → Prop} {U : State} {H : Heap} (h : vx_Zq C n d A U H) (hAB : ∀ q, B q → A q) : vx_Zq C n d B U H := ⟨va_Zq.narrow h.1 hAB, vx_L.narrow h.2 hAB⟩
theorem vx_Zqof {args : Array Value} {s : State} {C n d : String} {A : Nat → Prop} (hl : (Cond.laysStatic C n d).before args s = true) (hini : (Cond.initialized C).before args s = true) (h : (Cond.isRef (.static C n d)).before args s = true) (hA : ∀ a : Nat, a < s.heap.size → ¬ A a) : vx_Zq C n d A s s.heap := by
  refine ⟨va_Zqof hl hini h hA, ?_⟩
  obtain ⟨c, k, i, f, a, cell, h1, h2, h3, h4, h5, h6, h7, h8, h9⟩ := Cond.laysStatic_spec hl
  exact ⟨c, k, i, f, a, cell, h1, h2, h3, h4, h5, h6, h7, h8, h9, hA a (Array.getElem?_eq_some_iff.mp h5).1⟩
theorem vx_isRef {C n d : String} {v : Value} {A : Nat → Prop} {s : State} {args : Array Value} (h : va_Z C n d v A s s.heap) (hv : v.isRef = true) : (Cond.isRef (.static C n d)).before args s = true := by
  obtain ⟨cf, kf, fi, f, a, cell, h1, h2, h3, h4, h5, h6, h7, -⟩ := h
  have he : (Term.static C n d).eval args s none [] s = some v := by
    simp [Term.eval, State.fieldNamed?, h1, h2, h4, h5, h6, h7]
  simp only [Cond.before, Cond.holds, Cond.value, he]
  cases v <;> simp_all [Value.isRef]
theorem vx_isRefq {C n d : String} {A : Nat → Prop} {s : State} {args : Array Value} (h : va_Zq C n d A s s.heap) : (Cond.isRef (.static C n d)).before args s = true := by
  rcases h with h | ⟨t, h⟩
  · exact vx_isRef h rfl
  · exact vx_isRef h rfl
/-- the same frame, seen from here: as if the method were called anew in this heap -/
theorem vx_rebase {T : State} (X : Stand p l e R s m args below meth c T locs cells slots) {R' : Room} (hf : R'.frames ≤ R.frames) (hl : R'.locals ≤ R.locals) (hc : cells + R'.cells ≤ R.cells) (hs : slots + R'.slots ≤ R.slots) :
    Stand p l e R' ((T.setVm s.vm).setFrames (.invoking m args :: below)) m args below meth c T [] 0 0 := by
  have htop : (T.setVm s.vm).topJava?.isSome := X.here.top
  have hF : ((T.setVm s.vm).setFrames (.invoking m args :: below)).frames = .invoking m args :: below := State.frames_setFrames _ (State.cur_lt_of_top htop)
  obtain ⟨g₀, hg0⟩ := Option.isSome_iff_exists.mp htop
  obtain ⟨r, hr⟩ := State.topJava?_eq_some.mp hg0
  have hl9 : e.platform.stackLimits (T.setVm s.vm).me = e.platform.stackLimits s.me := X.limits
  have hb9 : (T.setVm s.vm).me.stackBytes = s.me.stackBytes := X.bytes
  refine ⟨X.admits, X.cas, X.clock, hF, ?_, X.hears, X.method, X.code, X.here, X.tail, X.warmed, ?_, ?_, ?_⟩
  · have h := X.room
    have hU : ((T.setVm s.vm).setFrames (.invoking m args :: below)).localsInUse = s.localsInUse := by
      rw [State.localsInUse_invoking hF (meth := meth) (c := c) X.method X.code, State.localsInUse_invoking X.frames X.method X.code]
    simp only [State.hasRoom, Bool.and_eq_true, decide_eq_true_eq] at h ⊢
    obtain ⟨⟨⟨⟨h1, h2, h3, h4, h5, h6⟩, h7⟩, h8⟩, h9⟩ := h
    rw [X.frames, List.length_cons] at h2 h3
    have q1 := X.heapSize
    have q2 := X.used
    simp only [hF, hU, List.length_cons, State.stackLimits_setFrames, State.stackBytes_setFrames, hl9, hb9]
    refine ⟨⟨⟨⟨by omega, by omega, by omega, by omega, by omega, h6⟩, ?_⟩, ?_⟩, X.book⟩
    · show T.heap.size + R'.cells ≤ e.platform.maxCells
      omega
    · show T.slotsUsed + R'.slots ≤ e.platform.maxSlots
      omega
  · rw [State.stackLimits_setFrames]; rfl
  · rw [State.stackBytes_setFrames]; rfl
  · refine ⟨?_, Nat.le_refl _, Nat.le_refl _, ?_, ?_, fun a c9 h9 => ⟨c9, h9, rfl, rfl, fun _ _ => rfl⟩⟩
    · obtain ⟨t, ht, -⟩ := State.frames_cons hr
      show T.setVm s.vm = { ((T.setVm s.vm).setFrames (.invoking m args :: below)).setFrames (T.setVm s.vm).frames with heap := T.heap, slotsUsed := T.slotsUsed }
      rw [State.setFrames_setFrames, State.setFrames_self ht]
      rfl
    · show T.slotsUsed = T.slotsUsed + ((T.heap.toList.drop T.heap.size).map (·.slots.size)).sum
      rw [List.drop_eq_nil_of_le (Nat.le_of_eq Array.length_toList)]
      rfl
    · show ((T.heap.toList.drop T.heap.size).map (·.slots.size)).sum ≤ 0
      rw [List.drop_eq_nil_of_le (Nat.le_of_eq Array.length_toList)]
      exact Nat.le_refl _
/-- 'throw new E()': new; dup; invokespecial; athrow -/
theorem vx_throw0 {cc : ByteArray} {pc : Nat} (hexec : p.tables.exec = Jvm.exec) (hb : c.code = cc) (hl : l.stackTraces = false) {own cls : String} {names : List String} {ik ic mc ms : Nat} {A : Nat → Prop}
    (hown : s.vm.findClass own = some m.cls) (hcls : Bundle.fit cls = true) (hnames : ∀ n ∈ names, Bundle.fit n = true)
    (hk : (Cond.classLink own ik cls).before args s = true) (hini : (Cond.initialized cls).before args s = true) (hat : ∀ w ∈ vx_at0 own ic cls names, w.before args s = true)
    (hgood : ∀ w ∈ Cond.classLink own ik cls :: Cond.initialized cls :: vx_at0 own ic cls names, vx_ot w = true)
    (hU : vx_Zq Bundle.tN "UNASSIGNED_STACK" Bundle.steD A s s.heap) (hN : vx_Zq Bundle.tN "SUPPRESSED_SENTINEL" Bundle.listD A s s.heap) (hS : va_S A s.heap H locs) (hsize : ls.size = c.maxLocals)
    (d0 : decode cc pc = .ok (.new ik, 3)) (d3 : decode cc (pc + 3) = .ok (.dup, 1)) (d4 : decode cc (pc + 4) = .ok (.invokespecial ic, 3)) (d7 : decode cc (pc + 7) = .ok (.athrow, 1))
    (hout : ∀ x ∈ c.exceptionTable.toList, covers x (pc + 7) = false)
    (hRframes : names.length + 3 < R.frames) (hRlocals : (rest.map fun v => v.category).sum + (13 * (names.length + 1) + 42) ≤ R.locals) (hRcells : cells + 1 ≤ R.cells) (hRslots : slots + 6 ≤ R.slots) (hlocks : meth.locks = false)
    (hx : ∀ t : State, s.vm.Alike t.vm → H.size ≤ t.heap.size → (∀ q : Nat, q < H.size → t.heap[q]? = H[q]?) → XC cls s t)
    (hf : ∀ z ∈ locs, free z.base) (hc : cells + 1 ≤ mc) (hs : slots + 6 ≤ ms) :
    W p l e R s m args below meth c H locs cells slots (vx_MQ below Qc XC args s mc ms free) (F0 m pc ls rest) := by
  intro T hT X
  have htr : e.platform.stackTraces = false := (show e.platform.stackTraces = l.stackTraces by rw [X.admits.platform]).trans hl
  have Y := vx_rebase X (R' := { frames := R.frames, locals := R.locals, cells := 1, slots := 6 }) (Nat.le_refl _) (Nat.le_refl _) hRcells hRslots
  obtain ⟨s', hA⟩ : ∃ z, z = (T.setVm s.vm).setFrames (.invoking m args :: below) := ⟨_, rfl⟩
  rw [← hA] at Y
  have hvm : s'.vm = s.vm := by rw [hA]; rfl
  have hhp : s'.heap = H := by rw [hA]; exact hT
  have hW0 : s.WarmedH s'.vm := by rw [hvm]; exact State.WarmedH.refl s
  have hat' : ∀ w ∈ vx_at0 own ic cls names, w.before args s' = true := fun w hw => vx_ot_at hW0 hvm.symm (hgood w (List.mem_cons_of_mem _ (List.mem_cons_of_mem _ hw))) (hat w hw)
  have hk' : (Cond.classLink own ik cls).before args s' = true := vx_ot_at hW0 hvm.symm (hgood _ List.mem_cons_self) hk
  have hini' : (Cond.initialized cls).before args s' = true := vx_ot_at hW0 hvm.symm (hgood _ (List.mem_cons_of_mem _ List.mem_cons_self)) hini
  have hU' : vx_Zq Bundle.tN "UNASSIGNED_STACK" Bundle.steD A s' s'.heap := by rw [hhp]; exact vx_Zq.moved hW0.alike (hU.kept hS.2.1)
  have hN' : vx_Zq Bundle.tN "SUPPRESSED_SENTINEL" Bundle.listD A s' s'.heap := by rw [hhp]; exact vx_Zq.moved hW0.alike (hN.kept hS.2.1)
  have h : ∀ w ∈ Bundle.ownAtoms0 own ic cls names, w.before args s' = true := vx_own hat' (vx_isRefq hU'.1) (vx_isRefq hN'.1) hU'.2.word hN'.2.word
  have hown' : s'.vm.findClass own = some m.cls := by rw [hvm]; exact hown
  have hins : (Cond.instantiable cls 6).before args s' = true := h _ (by simp [Bundle.ownAtoms0])
  obtain ⟨vm₁, cX, kX, hfX, hkX, -, -, X₁, st1⟩ := Y.newCold hexec (own := own) (C := cls) (index := ik) (n := 6) hown' hk' hins hini'
    (g := F0 m pc ls rest) rfl (by rw [hb]; exact d0) (Nat.le_refl _) (Nat.le_refl _)
  generalize hT1 : (T.setVm vm₁).pushCell { cls := cX, slots := kX.instanceTypes.map defaultValue, vm := .none } = T1 at X₁ st1
  have hcat : (Value.ref T.heap.size).category = 1 := rfl
  have hcellA : T1.heap[T.heap.size]? = some (freshCell cX kX) := by rw [← hT1]; exact State.heap_pushCell_size _ _
  have d3' : decode c.code (pc + 3) = .ok (.dup, 1) := by rw [hb]; exact d3
  obtain ⟨U, hsteps, hrun, hend, hW, hsame, ce, hce, hO⟩ := X₁.ctorThrow0 hexec htr (own := own) (cls := cls) (names := names) (ic := ic) hown' hcls hnames h (fun x hx => nomatch hx) hfX hkX hcellA (by rw [hhp, hT]; exact Nat.le_refl _)
    (g := { method := m, pc := pc + 4, locals := ls, stack := .ref T.heap.size :: .ref T.heap.size :: rest, locked := none }) rfl hsize rfl rfl (rest := rest) rfl
    (by rw [hb]; exact d4) (by rw [hb]; exact d7) hout hRframes (by simp only [List.map_cons, List.sum_cons, hcat]; omega) hlocks
  obtain ⟨f1, f2⟩ := vx_frame hsame
  rw [hhp] at f1 f2
  have hWs : s.WarmedH U.vm := State.WarmedH.trans hW0 hW
  have hcl : s.vm.findClass cls = some ce.cls := by
    have h9 := hO.cls
    rw [hvm] at h9
    exact h9
  have hall : s.sameButNew ({ U with vm := s.vm } : State) locs mc ms := by
    subst hA
    obtain ⟨e1, e2⟩ := hsame
    rw [State.setFrames_setFrames] at e1
    have h2 : (T.setVm s.vm).sameButNew ({ U with vm := s.vm } : State) [] (0 + 1) (0 + 6) := ⟨e1, e2⟩
    have h3 := X.same.trans h2
    rw [List.append_nil] at h3
    exact h3.mono hc hs
  refine ⟨U, ?_, .threw T.heap.size, hrun, hend, Or.inr ⟨T.heap.size, rfl, cls, ce, locs, hx U hWs.alike f1 (fun q hq => f2 q hq (fun z hz => nomatch hz)), hce, hO.vm, hcl, hWs, hall, hf⟩⟩
  refine st1 _ ?_
  show Steps p.tables e below (T1.setTop { method := m, pc := pc + 3, locals := ls, stack := .ref T.heap.size :: rest, locked := none }) _
  jvm_step X₁.here [X₁.here.top, hexec, d3', Value.category]
  exact hsteps
/-- 'throw new E("text")': new; dup; ldc; invokespecial; athrow -/
theorem vx_throwS {cc : ByteArray} {pc : Nat} (hexec : p.tables.exec = Jvm.exec) (hb : c.code = cc) (hl : l.stackTraces = false) {own cls text : String} {names : List String} {ik is ic mc ms sa : Nat} {A : Nat → Prop}
    (hown : s.vm.findClass own = some m.cls) (hcls : Bundle.fit cls = true) (hnames : ∀ n ∈ names, Bundle.fit n = true)
    (hk : (Cond.classLink own ik cls).before args s = true) (hini : (Cond.initialized cls).before args s = true) (hstr : vk_R own is text sa s) (hat : ∀ w ∈ vx_atS own ic cls names, w.before args s = true)
    (hgood : ∀ w ∈ Cond.classLink own ik cls :: Cond.initialized cls :: vx_atS own ic cls names, vx_ot w = true)
    (hU : vx_Zq Bundle.tN "UNASSIGNED_STACK" Bundle.steD A s s.heap) (hN : vx_Zq Bundle.tN "SUPPRESSED_SENTINEL" Bundle.listD A s s.heap) (hS : va_S A s.heap H locs) (hsize : ls.size = c.maxLocals)
    (d0 : decode cc pc = .ok (.new ik, 3)) (d3 : decode cc (pc + 3) = .ok (.dup, 1)) (d4 : decode cc (pc + 4) = .ok (.ldc is, 2)) (d6 : decode cc (pc + 6) = .ok (.invokespecial ic, 3)) (d9 : decode cc (pc + 9) = .ok (.athrow, 1))
    (hout : ∀ x ∈ c.exceptionTable.toList, covers x (pc + 9) = false)
    (hRframes : names.length + 3 < R.frames) (hRlocals : (rest.map fun v => v.category).sum + (13 * (names.length + 1) + 43) ≤ R.locals) (hRcells : cells + 1 ≤ R.cells) (hRslots : slots + 6 ≤ R.slots) (hlocks : meth.locks = false)
    (hx : ∀ t : State, s.vm.Alike t.vm → H.size ≤ t.heap.size → (∀ q : Nat, q < H.size → t.heap[q]? = H[q]?) → XC cls s t)
    (hf : ∀ z ∈ locs, free z.base) (hc : cells + 1 ≤ mc) (hs : slots + 6 ≤ ms) :
    W p l e R s m args below meth c H locs cells slots (vx_MQ below Qc XC args s mc ms free) (F0 m pc ls rest) := by
  intro T hT X
  have htr : e.platform.stackTraces = false := (show e.platform.stackTraces = l.stackTraces by rw [X.admits.platform]).trans hl
  have Y := vx_rebase X (R' := { frames := R.frames, locals := R.locals, cells := 1, slots := 6 }) (Nat.le_refl _) (Nat.le_refl _) hRcells hRslots
  obtain ⟨s', hA⟩ : ∃ z, z = (T.setVm s.vm).setFrames (.invoking m args :: below) := ⟨_, rfl⟩
  rw [← hA] at Y
  have hvm : s'.vm = s.vm := by rw [hA]; rfl
  have hhp : s'.heap = H := by rw [hA]; exact hT
  have hW0 : s.WarmedH s'.vm := by rw [hvm]; exact State.WarmedH.refl s
  have hat' : ∀ w ∈ vx_atS own ic cls names, w.before args s' = true := fun w hw => vx_ot_at hW0 hvm.symm (hgood w (List.mem_cons_of_mem _ (List.mem_cons_of_mem _ hw))) (hat w hw)
  have hk' : (Cond.classLink own ik cls).before args s' = true := vx_ot_at hW0 hvm.symm (hgood _ List.mem_cons_self) hk
  have hini' : (Cond.initialized cls).before args s' = true := vx_ot_at hW0 hvm.symm (hgood _ (List.mem_cons_of_mem _ List.mem_cons_self)) hini
  have hU' : vx_Zq Bundle.tN "UNASSIGNED_STACK" Bundle.steD A s' s'.heap := by rw [hhp]; exact vx_Zq.moved hW0.alike (hU.kept hS.2.1)
  have hN' : vx_Zq Bundle.tN "SUPPRESSED_SENTINEL" Bundle.listD A s' s'.heap := by rw [hhp]; exact vx_Zq.moved hW0.alike (hN.kept hS.2.1)
  have h : ∀ w ∈ Bundle.ownAtoms own ic cls names, w.before args s' = true := vx_own hat' (vx_isRefq hU'.1) (vx_isRefq hN'.1) hU'.2.word hN'.2.word
  have hown' : s'.vm.findClass own = some m.cls := by rw [hvm]; exact hown
  have hins : (Cond.instantiable cls 6).before args s' = true := h _ (by simp [Bundle.ownAtoms])
  obtain ⟨vm₁, cX, kX, hfX, hkX, -, -, X₁, st1⟩ := Y.newCold hexec (own := own) (C := cls) (index := ik) (n := 6) hown' hk' hins hini'
    (g := F0 m pc ls rest) rfl (by rw [hb]; exact d0) (Nat.le_refl _) (Nat.le_refl _)
  generalize hT1 : (T.setVm vm₁).pushCell { cls := cX, slots := kX.instanceTypes.map defaultValue, vm := .none } = T1 at X₁ st1
  have hcat : (Value.ref T.heap.size).category = 1 := rfl
  have hcellA : T1.heap[T.heap.size]? = some (freshCell cX kX) := by rw [← hT1]; exact State.heap_pushCell_size _ _
  have d3' : decode c.code (pc + 3) = .ok (.dup, 1) := by rw [hb]; exact d3
  have d4' : decode c.code (pc + 4) = .ok (.ldc is, 2) := by rw [hb]; exact d4
  have hstr' : vk_R own is text sa s' := vk_R.warm hW0 hstr
  obtain ⟨U, hsteps, hrun, hend, hW, hsame, ce, hce, hO⟩ := X₁.ctorThrowS hexec htr (own := own) (cls := cls) (names := names) (ic := ic) hown' hcls hnames h (fun x hx => nomatch hx) hfX hkX hcellA (by rw [hhp, hT]; exact Nat.le_refl _) (msg := .ref sa) rfl
    (g := { method := m, pc := pc + 6, locals := ls, stack := .ref sa :: .ref T.heap.size :: .ref T.heap.size :: rest, locked := none }) rfl hsize rfl rfl (rest := rest) rfl
    (by rw [hb]; exact d6) (by rw [hb]; exact d9) hout hRframes (by simp only [List.map_cons, List.sum_cons, hcat]; omega) hlocks
  obtain ⟨f1, f2⟩ := vx_frame hsame
  rw [hhp] at f1 f2
  have hWs : s.WarmedH U.vm := State.WarmedH.trans hW0 hW
  have hcl : s.vm.findClass cls = some ce.cls := by
    have h9 := hO.cls
    rw [hvm] at h9
    exact h9
  have hall : s.sameButNew ({ U with vm := s.vm } : State) locs mc ms := by
    subst hA
    obtain ⟨e1, e2⟩ := hsame
    rw [State.setFrames_setFrames] at e1
    have h2 : (T.setVm s.vm).sameButNew ({ U with vm := s.vm } : State) [] (0 + 1) (0 + 6) := ⟨e1, e2⟩
    have h3 := X.same.trans h2
    rw [List.append_nil] at h3
    exact h3.mono hc hs
  refine ⟨U, ?_, .threw T.heap.size, hrun, hend, Or.inr ⟨T.heap.size, rfl, cls, ce, locs, hx U hWs.alike f1 (fun q hq => f2 q hq (fun z hz => nomatch hz)), hce, hO.vm, hcl, hWs, hall, hf⟩⟩
  refine st1 _ ?_
  show Steps p.tables e below (T1.setTop { method := m, pc := pc + 3, locals := ls, stack := .ref T.heap.size :: rest, locked := none }) _
  jvm_step X₁.here [X₁.here.top, hexec, d3', Value.category]
  exact X₁.ldcString hexec (own := own) (text := text) (index := is) (a := sa) hown' hstr'.1 hstr'.2
    (g := { method := m, pc := pc + 4, locals := ls, stack := .ref T.heap.size :: .ref T.heap.size :: rest, locked := none }) rfl d4' _ hsteps
/-- 'throw new E("text")', the text by a wide index -/
theorem vx_throwSW {cc : ByteArray} {pc : Nat} (hexec : p.tables.exec = Jvm.exec) (hb : c.code = cc) (hl : l.stackTraces = false) {own cls text : String} {names : List String} {ik is ic mc ms sa : Nat} {A : Nat → Prop}
    (hown : s.vm.findClass own = some m.cls) (hcls : Bundle.fit cls = true) (hnames : ∀ n ∈ names, Bundle.fit n = true)
    (hk : (Cond.classLink own ik cls).before args s = true) (hini : (Cond.initialized cls).before args s = true) (hstr : vk_R own is text sa s) (hat : ∀ w ∈ vx_atS own ic cls names, w.before args s = true)
    (hgood : ∀ w ∈ Cond.classLink own ik cls :: Cond.initialized cls :: vx_atS own ic cls names, vx_ot w = true)
    (hU : vx_Zq Bundle.tN "UNASSIGNED_STACK" Bundle.steD A s s.heap) (hN : vx_Zq Bundle.tN "SUPPRESSED_SENTINEL" Bundle.listD A s s.heap) (hS : va_S A s.heap H locs) (hsize : ls.size = c.maxLocals)
    (d0 : decode cc pc = .ok (.new ik, 3)) (d3 : decode cc (pc + 3) = .ok (.dup, 1)) (d4 : decode cc (pc + 4) = .ok (.ldc_w is, 3)) (d7 : decode cc (pc + 7) = .ok (.invokespecial ic, 3)) (d10 : decode cc (pc + 10) = .ok (.athrow, 1))
    (hout : ∀ x ∈ c.exceptionTable.toList, covers x (pc + 10) = false)
    (hRframes : names.length + 3 < R.frames) (hRlocals : (rest.map fun v => v.category).sum + (13 * (names.length + 1) + 43) ≤ R.locals) (hRcells : cells + 1 ≤ R.cells) (hRslots : slots + 6 ≤ R.slots) (hlocks : meth.locks = false)
    (hx : ∀ t : State, s.vm.Alike t.vm → H.size ≤ t.heap.size → (∀ q : Nat, q < H.size → t.heap[q]? = H[q]?) → XC cls s t)
    (hf : ∀ z ∈ locs, free z.base) (hc : cells + 1 ≤ mc) (hs : slots + 6 ≤ ms) :
    W p l e R s m args below meth c H locs cells slots (vx_MQ below Qc XC args s mc ms free) (F0 m pc ls rest) := by
  intro T hT X
  have htr : e.platform.stackTraces = false := (show e.platform.stackTraces = l.stackTraces by rw [X.admits.platform]).trans hl
  have Y := vx_rebase X (R' := { frames := R.frames, locals := R.locals, cells := 1, slots := 6 }) (Nat.le_refl _) (Nat.le_refl _) hRcells hRslots
  obtain ⟨s', hA⟩ : ∃ z, z = (T.setVm s.vm).setFrames (.invoking m args :: below) := ⟨_, rfl⟩
  rw [← hA] at Y
  have hvm : s'.vm = s.vm := by rw [hA]; rfl
  have hhp : s'.heap = H := by rw [hA]; exact hT
  have hW0 : s.WarmedH s'.vm := by rw [hvm]; exact State.WarmedH.refl s
  have hat' : ∀ w ∈ vx_atS own ic cls names, w.before args s' = true := fun w hw => vx_ot_at hW0 hvm.symm (hgood w (List.mem_cons_of_mem _ (List.mem_cons_of_mem _ hw))) (hat w hw)
  have hk' : (Cond.classLink own ik cls).before args s' = true := vx_ot_at hW0 hvm.symm (hgood _ List.mem_cons_self) hk
  have hini' : (Cond.initialized cls).before args s' = true := vx_ot_at hW0 hvm.symm (hgood _ (List.mem_cons_of_mem _ List.mem_cons_self)) hini
  have hU' : vx_Zq Bundle.tN "UNASSIGNED_STACK" Bundle.steD A s' s'.heap := by rw [hhp]; exact vx_Zq.moved hW0.alike (hU.kept hS.2.1)
  have hN' : vx_Zq Bundle.tN "SUPPRESSED_SENTINEL" Bundle.listD A s' s'.heap := by rw [hhp]; exact vx_Zq.moved hW0.alike (hN.kept hS.2.1)
  have h : ∀ w ∈ Bundle.ownAtoms own ic cls names, w.before args s' = true := vx_own hat' (vx_isRefq hU'.1) (vx_isRefq hN'.1) hU'.2.word hN'.2.word
  have hown' : s'.vm.findClass own = some m.cls := by rw [hvm]; exact hown
  have hins : (Cond.instantiable cls 6).before args s' = true := h _ (by simp [Bundle.ownAtoms])
  obtain ⟨vm₁, cX, kX, hfX, hkX, -, -, X₁, st1⟩ := Y.newCold hexec (own := own) (C := cls) (index := ik) (n := 6) hown' hk' hins hini'
    (g := F0 m pc ls rest) rfl (by rw [hb]; exact d0) (Nat.le_refl _) (Nat.le_refl _)
  generalize hT1 : (T.setVm vm₁).pushCell { cls := cX, slots := kX.instanceTypes.map defaultValue, vm := .none } = T1 at X₁ st1
  have hcat : (Value.ref T.heap.size).category = 1 := rfl
  have hcellA : T1.heap[T.heap.size]? = some (freshCell cX kX) := by rw [← hT1]; exact State.heap_pushCell_size _ _
  have d3' : decode c.code (pc + 3) = .ok (.dup, 1) := by rw [hb]; exact d3
  have d4' : decode c.code (pc + 4) = .ok (.ldc_w is, 3) := by rw [hb]; exact d4
  have hstr' : vk_R own is text sa s' := vk_R.warm hW0 hstr
  obtain ⟨U, hsteps, hrun, hend, hW, hsame, ce, hce, hO⟩ := X₁.ctorThrowS hexec htr (own := own) (cls := cls) (names := names) (ic := ic) hown' hcls hnames h (fun x hx => nomatch hx) hfX hkX hcellA (by rw [hhp, hT]; exact Nat.le_refl _) (msg := .ref sa) rfl
    (g := { method := m, pc := pc + 7, locals := ls, stack := .ref sa :: .ref T.heap.size :: .ref T.heap.size :: rest, locked := none }) rfl hsize rfl rfl (rest := rest) rfl
    (by rw [hb]; exact d7) (by rw [hb]; exact d10) hout hRframes (by simp only [List.map_cons, List.sum_cons, hcat]; omega) hlocks
  obtain ⟨f1, f2⟩ := vx_frame hsame
  rw [hhp] at f1 f2
  have hWs : s.WarmedH U.vm := State.WarmedH.trans hW0 hW
  have hcl : s.vm.findClass cls = some ce.cls := by
    have h9 := hO.cls
    rw [hvm] at h9
    exact h9
  have hall : s.sameButNew ({ U with vm := s.vm } : State) locs mc ms := by
    subst hA
    obtain ⟨e1, e2⟩ := hsame
    rw [State.setFrames_setFrames] at e1
    have h2 : (T.setVm s.vm).sameButNew ({ U with vm := s.vm } : State) [] (0 + 1) (0 + 6) := ⟨e1, e2⟩
    have h3 := X.same.trans h2
    rw [List.append_nil] at h3
    exact h3.mono hc hs
  refine ⟨U, ?_, .threw T.heap.size, hrun, hend, Or.inr ⟨T.heap.size, rfl, cls, ce, locs, hx U hWs.alike f1 (fun q hq => f2 q hq (fun z hz => nomatch hz)), hce, hO.vm, hcl, hWs, hall, hf⟩⟩
  refine st1 _ ?_
  show Steps p.tables e below (T1.setTop { method := m, pc := pc + 3, locals := ls, stack := .ref T.heap.size :: rest, locked := none }) _
  jvm_step X₁.here [X₁.here.top, hexec, d3', Value.category]
  exact X₁.ldcStringW hexec (own := own) (text := text) (index := is) (a := sa) hown' hstr'.1 hstr'.2
    (g := { method := m, pc := pc + 4, locals := ls, stack := .ref T.heap.size :: .ref T.heap.size :: rest, locked := none }) rfl d4' _ hsteps
end Ends
section Bodies
variable {l : Launch}
theorem vx_ofW {y : MethodName} {ws ws' : List Cond} {rm : Room} {Pc : Array Value → State → Prop} {Qc : Array Value → State → Outcome → State → Prop} {XC : String → State → State → Prop} {mc ms : Nat} {free : Addr → Prop} {cc : ByteArray} {maxL : Nat} {ret : Option FieldType}
    (hy : plainName y.cls = true) (hw : ws = Cond.code y cc maxL ret :: ws')
    (body : ∀ p e s m args below meth c s₁, BodyLoose p l y (headSpec ws rm) cc maxL ret e s m args below meth c s₁ → c.maxLocals = maxL → (∀ x ∈ c.exceptionTable.toList, False) → Pc args s →
      W p l e (headSpec ws rm).room s m args below meth c s.heap [] 0 0 (vx_MQ below Qc XC args s mc ms free) (entryFrame m args maxL)) : vx_Met l y ws rm Pc Qc XC mc ms free := by
  refine MetFree.of_bodyS (code := cc) (maxLocals := maxL) (ret := ret) hy ?_ ?_
  · intro args s m h hn
    obtain ⟨meth, c, h1, h2, h3, h4, h5, h6, -, -⟩ := Cond.code_spec hn (atoms_spec (ws := ws) h _ (by rw [hw]; exact List.mem_cons_self))
    exact ⟨meth, c, h1, h2, h3, h4, h5, h6⟩
  · intro p e s m args below meth c s₁ B hml hP _
    have hh0 : s₁.heap = s.heap := by rw [B.state]; rfl
    have ht : ∀ x ∈ c.exceptionTable.toList, False := by
      obtain ⟨meth9, c9, h1, h2, -, -, -, -, h7, -⟩ := Cond.code_spec B.named (atoms_spec (ws := ws) B.pre _ (by rw [hw]; exact List.mem_cons_self))
      cases Option.some.inj (h1.symm.trans B.method)
      cases Option.some.inj (h2.symm.trans (Stand.of_body B).code)
      intro x hx
      rw [Array.isEmpty_iff.mp h7] at hx
      cases hx
    obtain ⟨t, a1, o, b1, b2, b3⟩ := body p e s m args below meth c s₁ B hml ht hP s₁ hh0 (Stand.of_body B)
    exact ⟨t, o, a1, b1, b2, b3⟩
/-- the table of a body with handlers -/
theorem vx_table {p : Program} {x y : MethodName} {S : Spec} {cc bytes : ByteArray} {maxL maxL' : Nat} {ret ret' : Option FieldType} {e : Env} {s s₁ : State} {m : MethodId} {args : Array Value} {below : List Frame} {meth : Method} {c : Code} {hh : List (Nat × Nat × Nat × Nat)}
    (B : BodyLoose p l y S cc maxL ret e s m args below meth c s₁) (h : (Cond.codeWith y bytes maxL' ret' hh).before args s = true) : c.exceptionTable.toList = tableOf hh := by
  obtain ⟨m9, meth9, c9, hn9, h1, h2, -, -, h6, -⟩ := Cond.codeWith_spec h
  cases Option.some.inj (hn9.symm.trans B.named)
  cases Option.some.inj (h1.symm.trans B.method)
  cases Option.some.inj (h2.symm.trans (Stand.of_body B).code)
  rw [← h6, table_eq]
end Bodies
end VXA
/-! ===== END ===== -/
/-! ===== BEGIN a static call of a method with an exception table ===== -/
section VXS
variable {p : Program} {l : Launch} {e : Env} {R : Room} {s : State} {m : MethodId} {args : Array Value} {below : List Frame} {meth : Method} {c : Code} {T : State} {H : Heap} {locs : List Loc} {cells slots : Nat}
abbrev vx_CSW (R : Room) (s : State) (args : Array Value) (own : String) (index : Nat) (y : MethodName) (bytes : ByteArray) (maxL : Nat) (ret : Option FieldType) (hh : List (Nat × Nat × Nat × Nat)) (ws : List Cond) (rm : Room) (mc ms n : Nat) : Prop :=
  (rm.cells = mc ∧ rm.slots = ms ∧ rm.frames + 1 ≤ R.frames ∧ 8 + (maxL + 11) + rm.locals ≤ R.locals ∧ (∀ w ∈ ws, ∀ (a' : Array Value) (U : State), s.WarmedH U.vm → w.before a' U = true) ∧ Cond.codeWith y bytes maxL ret hh ∈ ws) ∧
  (Cond.codeWith y bytes maxL ret hh).before args s = true ∧ (Cond.initialized y.cls).before args s = true ∧ (y.cls ≠ "java/lang/invoke/MethodHandle" ∧ y.cls ≠ "java/lang/invoke/VarHandle") ∧
  (∀ sig, parseMethodDescriptor y.desc = some sig → n = sig.parameters.length) ∧ (Cond.methodLink own index y).before args s = true ∧ (Cond.static y).before args s = true
theorem vx_cwSW {own : String} {index maxL mc ms : Nat} {y : MethodName} {bytes : ByteArray} {ret : Option FieldType} {hh : List (Nat × Nat × Nat × Nat)} {Ts ws ws' : List Cond} {rm : Room} (n : Nat) (ht : ∀ w ∈ Ts, w.before args s = true) (hT : GoodIn Ts (va_wsS own index y ws)) (hw : ws = Cond.codeWith y bytes maxL ret hh :: ws') (hrc : rm.cells = mc) (hrs : rm.slots = ms)
    (hd : y.cls ≠ "java/lang/invoke/MethodHandle" ∧ y.cls ≠ "java/lang/invoke/VarHandle" ∧ (parseMethodDescriptor y.desc).map (fun d => d.parameters.length) = some n) (hR : rm.frames + 1 ≤ R.frames ∧ 8 + (maxL + 11) + rm.locals ≤ R.locals) :
    vx_CSW R s args own index y bytes maxL ret hh ws rm mc ms n := by
  have ok : ∀ w ∈ va_wsS own index y ws, w.before args s = true := fun w h => ht w (hT w h).1
  have hG : GoodIn Ts ws := fun w h => hT w (by unfold va_wsS; exact List.mem_append_right _ h)
  have hc : Cond.codeWith y bytes maxL ret hh ∈ ws := by rw [hw]; exact List.mem_cons_self
  refine ⟨⟨hrc, hrs, hR.1, hR.2, pay_in ht hG, hc⟩, ht _ (hG _ hc).1, ok _ (by simp [va_wsS]), ⟨hd.1, hd.2.1⟩, fun sig h => ?_, ok _ (by simp [va_wsS]), ok _ (by simp [va_wsS])⟩
  have h2 := hd.2.2
  rw [h] at h2
  exact (Option.some.inj h2).symm
theorem vx_callSW (X : Stand p l e R s m args below meth c T locs cells slots) (hexec : p.tables.exec = Jvm.exec) {own : String} {index : Nat} {y : MethodName} {bytes : ByteArray} {maxL : Nat} {ret : Option FieldType} {hh : List (Nat × Nat × Nat × Nat)}
    (hown : s.vm.findClass own = some m.cls) (hlink : (Cond.methodLink own index y).before args s = true) (hstat : (Cond.static y).before args s = true) (hinit : (Cond.initialized y.cls).before args s = true)
    (hcode : (Cond.codeWith y bytes maxL ret hh).before args s = true) (hy : y.cls ≠ "java/lang/invoke/MethodHandle" ∧ y.cls ≠ "java/lang/invoke/VarHandle")
    {W9 : Nat} {Pre : Pt → Array Value → Prop} {Post : Pt → Array Value → Option Value → Pt → Prop} (hK : Back l R p e below s args y 3 W9 Pre Post)
    {g : JFrame} (hg : g.method = m) (hsize : g.locals.size = c.maxLocals) {argsL rest : List Value} (hlen : ∀ sig, parseMethodDescriptor y.desc = some sig → argsL.length = sig.parameters.length)
    (hstack : g.stack = argsL.reverse ++ rest) (hW : 2 * g.monitorRoom + (rest.map fun v => v.category).sum ≤ W9) (hdg : decode c.code g.pc = .ok (.invokestatic index, 3))
    (hpre : ∀ vm₁, s.WarmedH vm₁ → Pre ⟨T.setVm vm₁, locs, cells, slots⟩ argsL.toArray) :
    ∃ (v : Option Value) (vm₁ : Vm) (B : Pt), s.WarmedH vm₁ ∧ Stand p l e R s m args below meth c B.U B.locs B.cells B.slots ∧ Post ⟨T.setVm vm₁, locs, cells, slots⟩ argsL.toArray v B ∧
      ∀ target, Steps p.tables e below (B.U.setTop { g with pc := g.pc + 3, stack := v.toList ++ rest }) target → Steps p.tables e below (T.setTop g) target := by
  obtain ⟨mk, methM, cM, hnamed, hmethM, -, -, -, -, -, -, hsigM⟩ := Cond.codeWith_spec hcode
  have hstatic : methM.isStatic = true := Cond.static_spec hnamed hmethM hstat
  obtain ⟨kP, hkP, -⟩ := className_of_methodNamed hnamed
  have hinitP : kP.init = .initialized := Cond.initialized_spec (findClass_of_methodNamed hnamed) hkP hinit
  obtain ⟨vm₁, X₁, hstep₁⟩ := X.invokestatic hexec hown hlink hnamed hmethM hstatic hkP hinitP hy (g := g) hg (argsL := argsL) (rest := rest) (hlen _ hsigM) hstack hdg
  obtain ⟨v, B, X', hpost, hsteps⟩ := hK m meth c ⟨T.setVm vm₁, locs, cells, slots⟩ { g with stack := rest } (.invokestatic index) mk argsL.toArray X₁ hg hsize hdg hW (X₁.named hnamed) (hpre vm₁ X₁.warmed)
  exact ⟨v, vm₁, B, X₁.warmed, X', hpost, fun target h => hstep₁ _ fun acts => by rw [doInvoke_state]; exact hsteps.trans h⟩
theorem vx_runSW {y : MethodName} {bytes cc : ByteArray} {maxL nL mc ms n index : Nat} {ret : Option FieldType} {hh : List (Nat × Nat × Nat × Nat)} {ws : List Cond} {rm : Room} {Pc : Array Value → State → Prop} {Qc : Array Value → State → Outcome → State → Prop} {free : Addr → Prop} {Ts : List Cond} {own : String} {As rest : List Value} {g : JFrame}
    (S : CallFix p m c cc nL s args Ts own) (hM : Met l y ws rm Pc Qc mc ms free) (cw : vx_CSW R s args own index y bytes maxL ret hh ws rm mc ms n) (hp : PreS s H Pc As)
    (hg : g.method = m) (hn : As.length = n) (hsize : g.locals.size = nL) (hstack : g.stack = As.reverse ++ rest) (hW : 2 * g.monitorRoom + (rest.map fun v => v.category).sum ≤ 8) (hdg : decode cc g.pc = .ok (.invokestatic index, 3)) (hf : cells + mc ≤ R.cells ∧ slots + ms ≤ R.slots) :
    va_Run p l e R s m args below meth c H locs cells slots mc ms g rest (Qc As.toArray) (free) := by
  obtain ⟨⟨hrc, hrs, hfr, hlo, hws, hcw⟩, hcode, hini, hy, hlen, hl, hstt⟩ := cw
  have hK : Back l R p e below s args y 3 8 (PreOf R mc ms Pc) (PostOf Qc mc ms free) := va_backW (hh := hh) (bytes := bytes) (maxL := maxL) (ret := ret) hM hp.1 hrc hrs hfr hlo hws hcw (fun a' U hW => word_at hW (Or.inl (by first | rfl | simp [Cond.onTables, Cond.keeps, Cond.steady])) hini)
  obtain ⟨hx, hb, hml, ho, -⟩ := S
  intro T hT X
  obtain ⟨v, vm₁, ⟨U', l2, c2, s2⟩, hW₁, X', ⟨g', mk, t, L, e1, e2, hq, h1, hL, h2, h3⟩, st⟩ := vx_callSW X hx (hh := hh) (bytes := bytes) (maxL := maxL) (ret := ret) ho hl hstt hini hcode hy hK hg (hsize.trans hml.symm) (argsL := As) (rest := rest) (fun sig h => hn.trans (hlen sig h)) hstack hW (by rw [hb]; exact hdg)
    (fun vm₁ hW₁ => ⟨hf.1, hf.2, hp.2 (T.setVm vm₁) hT hW₁⟩)
  dsimp only [Pt.U, Pt.locs, Pt.cells, Pt.slots] at X' e1 e2 h1 h2 h3 st
  subst h1; subst h2; subst h3
  exact ⟨v, (T.setVm vm₁).calling g' mk As.toArray, t, U', L, hT, X', hL, e1, e2, hq, st⟩
/-- not caught here, past rows that name other classes: it goes on to the caller -/
theorem vx_outP {p : Program} {l : Launch} {e : Env} {R : Room} {s : State} {m : MethodId} {args : Array Value} {below : List Frame} {meth : Method} {c : Code} {H : Heap} {locs : List Loc} {cells slots : Nat} {free : Addr → Prop} {ls : Array Slot} {rest : List Value} {Qc : Array Value → State → Outcome → State → Prop} {XC : String → State → State → Prop}
    {pc : Nat} {own E : String} {ce : Cell} {q : Addr} {mc ms : Nat} (hown : s.vm.findClass own = some m.cls) (hlocks : meth.locks = false)
    (hpass : ∀ z ∈ c.exceptionTable.toList, covers z pc = false ∨ (z.catchType ≠ 0 ∧ ∃ nm : String, (Cond.classLink own z.catchType nm).before args s = true ∧ va_Nc E nm s)) (hcell : H[q]? = some ce) (hv : ce.vm = .none) (hcl : s.vm.findClass E = some ce.cls)
    (hx : ∀ t : State, t.heap = H → s.vm.Alike t.vm → XC E s t) (hf : ∀ z ∈ locs, free z.base) (hc : cells ≤ mc) (hs : slots ≤ ms) :
    vx_W p l e R s m args below meth c H locs cells slots (vx_MQ below Qc XC args s mc ms free) (F0 m pc ls rest) q := by
  intro T hT X
  have hpl : e.platform.magicAccessors = ({} : Platform).magicAccessors := by rw [X.admits.platform]
  obtain ⟨vm', hW', X', st⟩ := X.outThrough hlocks q (g := F0 m pc ls rest) rfl rfl rfl (cell := ce) (by rw [hT]; exact hcell) (by rw [hv]; rfl)
    (by obtain ⟨k9, h9, -⟩ := Vm.findClass_spec hcl; exact ⟨k9, h9⟩) (fun z hz => by
      rcases hpass z hz with h | ⟨hz0, nm, hl1, hn1⟩
      · exact Or.inl h
      · obtain ⟨c6, hc6, hcl6⟩ := Cond.classLink_spec hown hl1 e.platform hpl
        obtain ⟨a8, b8, h1, h2, h3⟩ := hn1
        cases Option.some.inj (h1.symm.trans hcl)
        cases Option.some.inj (h2.symm.trans hc6)
        exact Or.inr ⟨hz0, _, hcl6, h3⟩)
  obtain ⟨g₀, hfr⟩ := X'.frames_eq
  have hcell9 : ((T.setVm vm').setFrames (.throwing q :: below)).heap[q]? = some ce := by
    show T.heap[q]? = some ce
    rw [hT]; exact hcell
  have hend : Ended ((T.setVm vm').setFrames (.throwing q :: below)) below (.threw q) := State.frames_setFrames _ (State.cur_lt_of_frames hfr)
  refine ⟨(T.setVm vm').setFrames (.throwing q :: below), ?_, .threw q, X'.here.running, hend, Or.inr ⟨q, rfl, E, ce, locs, hx _ hT (X'.ends _).1.alike, hcell9, hv, hcl, (X'.ends _).1, (X'.ends _).2.mono hc hs, hf⟩⟩
  rw [X.pushThrowing_eq]
  exact st
/-- a thing of a world lies in the heap -/
theorem vx_lt {D : va_G} {cl : List vw_C} {ws : va_W} {H1 : Heap} (h : va_P D cl ws H1) {k : Nat} {q : Nat × va_E} (hk : ws[k]? = some q) : q.1 < H1.size := (h k q hk).lt
end VXS
/-! ===== END ===== -/
/-! ===== BEGIN methods with a table of their own: called by a name, returning or throwing ===== -/
section VXH
/-! vx_backW, vx_callVX, vx_callSX, vx_callVW, vx_runVW, vx_runVX, vx_runSX, vx_ofWH follow the same proofs as their sisters above (Free/Laws.lean, Shelf42/LK1.lean); vx_outP calls Shelf42/NT130.lean (outThrough). -/
section
variable {l : Launch} {R : Room} {p : Program} {e : Env} {below : List Frame} {s : State} {sargs : Array Value} {y : MethodName} {len W9 : Nat}
theorem vx_backW {ws : List Cond} {rm : Room} {Pc : Array Value → State → Prop} {Qc : Array Value → State → Outcome → State → Prop} {XC : String → State → State → Prop} {mc ms : Nat} {free : Addr → Prop} {bytes : ByteArray} {maxL : Nat} {ret : Option FieldType} {hh : List (Nat × Nat × Nat × Nat)}
    (hM : vx_Met l y ws rm Pc Qc XC mc ms free) (hblind : FrameBlind Pc) (hrc : rm.cells = mc) (hrs : rm.slots = ms)
    (hframes : rm.frames + 1 ≤ R.frames) (hlocals : W9 + (maxL + 11) + rm.locals ≤ R.locals)
    (hws : ∀ w ∈ ws, ∀ a' U, s.WarmedH U.vm → w.before a' U = true) (hcode : Cond.codeWith y bytes maxL ret hh ∈ ws) (hinit : ∀ a' U, s.WarmedH U.vm → (Cond.initialized y.cls).before a' U = true) :
    vx_Back l R p e below s sargs y len W9 (PreOf R mc ms Pc) (PostOf Qc mc ms free) (vx_Post XC mc ms free) := by
  intro m meth c A g ig mk a X hg hsize hdg hW hn hp
  have h1 : (headSpec ws rm).pre.before a A.U = true := atoms_intro fun w hw => hws w hw _ _ X.warmed
  have h2 : (Cond.codeWith y bytes maxL ret hh).before a A.U = true := hws _ hcode _ _ X.warmed
  have h3 : (Cond.initialized y.cls).before a A.U = true := hinit _ _ X.warmed
  have h4 : A.cells + (headSpec ws rm).room.cells ≤ R.cells := by rw [show (headSpec ws rm).room.cells = mc from hrc]; exact hp.1
  have h5 : A.slots + (headSpec ws rm).room.slots ≤ R.slots := by rw [show (headSpec ws rm).room.slots = ms from hrs]; exact hp.2.1
  have hPc : Pc a (A.U.calling g mk a) := hblind _ _ _ _ hp.2.2
  obtain ⟨U, Ls, c0, s0⟩ := A
  dsimp only [Pt.U, Pt.locs, Pt.cells, Pt.slots] at h1 h2 h3 h4 h5 X hn hPc ⊢
  obtain ⟨m9, methY, cY, hn9, hmY, hcY, -, hlY, -⟩ := Cond.codeWith_spec h2
  cases Option.some.inj (hn9.symm.trans hn)
  obtain ⟨kY, hkY, -⟩ := className_of_methodNamed hn
  have hinitY : kY.init = .initialized := Cond.initialized_spec (findClass_of_methodNamed hn) hkY h3
  have h : At U g.method c below := by rw [hg]; exact X.here
  have hlocals9 : W9 + (maxL + 11) + (headSpec ws rm).room.locals ≤ R.locals := hlocals
  have happ : (headSpec ws rm).appliesLoose y e.platform (U.calling g mk a) = true :=
    Spec.appliesLoose_calling (g := g) h hdg hn hkY hinitY
      (X.room_calling (g := g) (R' := (headSpec ws rm).room) hsize hmY hcY hframes (by rw [hlY]; omega) h4 h5) h1
  obtain ⟨mid, hmid⟩ := h.above
  have hfr : (U.setTop g).frames = (.java g :: mid) ++ below := by rw [State.frames_setTop' g h.top, hmid]; rfl
  obtain ⟨o, s₂, hsteps, -, hend, hq⟩ := Steps.callFree hM p X.admits X.cas X.clock (acts := []) hfr happ hPc trivial
  have hq' : vx_Q Qc XC mc ms free a (U.calling g mk a) o s₂ := hq
  rw [State.frames_setTop' g h.top] at hend
  obtain ⟨g₀, hg0⟩ := Option.isSome_iff_exists.mp h.top
  obtain ⟨r, hr⟩ := State.topJava?_eq_some.mp hg0
  have hr' : (({ U with heap := s₂.heap, slotsUsed := s₂.slotsUsed } : State).setVm s₂.vm).frames = .java g₀ :: r := hr
  rcases hq' with ⟨hqc, L, hfe, hL⟩ | ⟨q, rfl, E, ce, L, hx, hce, hcv, hcl, hW₂, hsm, hL⟩
  · obtain ⟨⟨v, rfl⟩, hW₂, e2, q2, q3, q4, q5, q6⟩ := id hfe
    have e3 : s₂ = ({ (U.calling g mk a).setFrames s₂.frames with heap := s₂.heap, slotsUsed := s₂.slotsUsed } : State).setVm s₂.vm := by
      have : s₂ = ({ s₂ with vm := (U.calling g mk a).vm } : State).setVm s₂.vm := rfl
      rw [e2] at this
      exact this
    obtain ⟨c₂, i₂, len₂, hc₂, hd₂, hf₂⟩ := hend
    have hW' : U.WarmedH s₂.vm := hW₂
    have hcc : c₂ = c := by
      have h1 : s₂.code? g.method = U.code? g.method := by
        rw [State.code?_eq, State.code?_eq, hW'.alike.method?]
      exact Option.some.inj (hc₂.symm.trans (h1.trans h.code))
    subst hcc
    have hlen : len₂ = len := by rw [hdg] at hd₂; cases hd₂; rfl
    subst hlen
    have hs₂ : s₂ = (({ U with heap := s₂.heap, slotsUsed := s₂.slotsUsed } : State).setVm s₂.vm).setTop { g with pc := g.pc + len₂, stack := v.toList ++ g.stack } := by
      refine e3.trans ?_
      rw [hf₂, State.calling_eq h.top, State.setFrames_setFrames, State.setTop_of_frames _ hr', hr]
      rfl
    have hsame : U.sameButNew ({ U with heap := s₂.heap, slotsUsed := s₂.slotsUsed } : State) L mc ms := by
      refine ⟨?_, q2, q3, q4, q5, q6⟩
      obtain ⟨t, ht, -⟩ := State.frames_cons hr
      show ({ U with heap := s₂.heap, slotsUsed := s₂.slotsUsed } : State) = { U.setFrames U.frames with heap := s₂.heap, slotsUsed := s₂.slotsUsed }
      rw [State.setFrames_self ht]
    subst hg
    refine Or.inl ⟨v, ⟨(({ U with heap := s₂.heap, slotsUsed := s₂.slotsUsed } : State).setVm s₂.vm), Ls ++ L, c0 + mc, s0 + ms⟩,
      ⟨X.admits, X.cas, X.clock, X.frames, X.room, X.hears, X.method, X.code, (X.here.setHeapUsed s₂.heap s₂.slotsUsed).setVm hW'.alike, X.tail, State.WarmedH.trans X.warmed hW', X.limits, X.bytes, X.same.trans (hsame.setVm s.vm)⟩,
      ⟨g, mk, s₂, L, rfl, rfl, hqc, rfl, hL, rfl, rfl⟩, ?_⟩
    show Steps p.tables e below _ ((({ U with heap := s₂.heap, slotsUsed := s₂.slotsUsed } : State).setVm s₂.vm).setTop { g with pc := g.pc + len₂, stack := v.toList ++ g.stack })
    rw [← hs₂]
    exact hsteps
  · obtain ⟨e2, q2, q3, q4, q5, q6⟩ := id hsm
    have e3 : s₂ = ({ (U.calling g mk a).setFrames s₂.frames with heap := s₂.heap, slotsUsed := s₂.slotsUsed } : State).setVm s₂.vm := by
      have : s₂ = ({ s₂ with vm := (U.calling g mk a).vm } : State).setVm s₂.vm := rfl
      rw [e2] at this
      exact this
    have hf₂ : s₂.frames = .throwing q :: .java g :: U.frames.tail := hend
    have hW' : U.WarmedH s₂.vm := hW₂
    have hs₂ : s₂ = ((({ U with heap := s₂.heap, slotsUsed := s₂.slotsUsed } : State).setVm s₂.vm).setTop g).pushFrame (.throwing q) := by
      refine e3.trans ?_
      rw [hf₂, State.calling_eq h.top, State.setFrames_setFrames, State.pushFrame, State.frames_setTop _ hr', State.setTop_of_frames _ hr', State.setFrames_setFrames, hr]
      rfl
    have hsame : U.sameButNew ({ U with heap := s₂.heap, slotsUsed := s₂.slotsUsed } : State) L mc ms := by
      refine ⟨?_, q2, q3, q4, q5, q6⟩
      obtain ⟨t, ht, -⟩ := State.frames_cons hr
      show ({ U with heap := s₂.heap, slotsUsed := s₂.slotsUsed } : State) = { U.setFrames U.frames with heap := s₂.heap, slotsUsed := s₂.slotsUsed }
      rw [State.setFrames_self ht]
    subst hg
    refine Or.inr ⟨q, ⟨(({ U with heap := s₂.heap, slotsUsed := s₂.slotsUsed } : State).setVm s₂.vm), Ls ++ L, c0 + mc, s0 + ms⟩,
      ⟨X.admits, X.cas, X.clock, X.frames, X.room, X.hears, X.method, X.code, (X.here.setHeapUsed s₂.heap s₂.slotsUsed).setVm hW'.alike, X.tail, State.WarmedH.trans X.warmed hW', X.limits, X.bytes, X.same.trans (hsame.setVm s.vm)⟩,
      ⟨g, mk, s₂, L, E, ce, rfl, rfl, hx, hce, hcv, hcl, rfl, hL, rfl, rfl⟩, ?_⟩
    show Steps p.tables e below _ (((({ U with heap := s₂.heap, slotsUsed := s₂.slotsUsed } : State).setVm s₂.vm).setTop g).pushFrame (.throwing q))
    rw [← hs₂]
    exact hsteps
end
variable {p : Program} {l : Launch} {e : Env} {R : Room} {s : State} {m : MethodId} {args : Array Value} {below : List Frame} {meth : Method} {c : Code} {T : State} {H : Heap} {locs : List Loc} {cells slots : Nat}
theorem vx_callVX (X : Stand p l e R s m args below meth c T locs cells slots) (hexec : p.tables.exec = Jvm.exec) {own C : String} {index : Nat} {y : MethodName} {bytes : ByteArray} {maxL : Nat} {ret : Option FieldType} {hh : List (Nat × Nat × Nat × Nat)}
    (hown : s.vm.findClass own = some m.cls) (hlink : (Cond.methodLink own index y).before args s = true) (hinst : (Cond.instanceMethod y).before args s = true) (hsel : (Cond.selects C y y).before args s = true)
    (hcode : (Cond.codeWith y bytes maxL ret hh).before args s = true) (hy : y.cls ≠ "java/lang/invoke/MethodHandle" ∧ y.cls ≠ "java/lang/invoke/VarHandle")
    {W9 : Nat} {Pre : Pt → Array Value → Prop} {Post : Pt → Array Value → Option Value → Pt → Prop} {PostX : Pt → Array Value → Addr → Pt → Prop} (hK : vx_Back l R p e below s args y 3 W9 Pre Post PostX)
    {b : Addr} {cellB : Cell} (hcell : T.heap[b]? = some cellB) (hobj : cellB.vm.isStatics = false) (hcls : s.vm.findClass C = some cellB.cls)
    {g : JFrame} (hg : g.method = m) (hsize : g.locals.size = c.maxLocals) {argsL rest : List Value} (hlen : ∀ sig, parseMethodDescriptor y.desc = some sig → argsL.length = sig.parameters.length)
    (hstack : g.stack = argsL.reverse ++ .ref b :: rest) (hW : 2 * g.monitorRoom + (rest.map fun v => v.category).sum ≤ W9) (hdg : decode c.code g.pc = .ok (.invokevirtual index, 3))
    (hpre : ∀ vm₁, s.WarmedH vm₁ → Pre ⟨T.setVm vm₁, locs, cells, slots⟩ (Value.ref b :: argsL).toArray) :
    (∃ (v : Option Value) (vm₁ : Vm) (B : Pt), s.WarmedH vm₁ ∧ Stand p l e R s m args below meth c B.U B.locs B.cells B.slots ∧ Post ⟨T.setVm vm₁, locs, cells, slots⟩ (Value.ref b :: argsL).toArray v B ∧
      ∀ target, Steps p.tables e below (B.U.setTop { g with pc := g.pc + 3, stack := v.toList ++ rest }) target → Steps p.tables e below (T.setTop g) target) ∨
    (∃ (q : Addr) (vm₁ : Vm) (B : Pt), s.WarmedH vm₁ ∧ Stand p l e R s m args below meth c B.U B.locs B.cells B.slots ∧ PostX ⟨T.setVm vm₁, locs, cells, slots⟩ (Value.ref b :: argsL).toArray q B ∧
      Steps p.tables e below (T.setTop g) ((B.U.setTop { g with stack := rest }).pushFrame (.throwing q))) := by
  obtain ⟨mk, methM, hnamed, hmethM, hstM, habM⟩ := Cond.instanceMethod_spec hinst
  obtain ⟨m8, methM', cM, hn8, hmethM', -, -, -, -, -, -, hsigM⟩ := Cond.codeWith_spec hcode
  cases Option.some.inj (hn8.symm.trans hnamed)
  cases hmethM.symm.trans hmethM'
  obtain ⟨c2, r2, m2, q1, q2, q3, q4, kP, hkP, hkPi⟩ := Cond.selects_spec hsel
  cases hcls.symm.trans q1
  cases (State.methodFound?_of_named hnamed hy).symm.trans q2
  cases hnamed.symm.trans q3
  have hselP : selectMethod e.platform s.vm cellB.cls mk = .method mk := by rw [Launch.admits_selectMethod X.admits]; exact q4
  obtain ⟨vm₁, X₁, hstep₁⟩ := X.invokevirtual hexec hown hlink hnamed hmethM hstM hkP hkPi hy (a := b) (cell := cellB) hcell
    (fun z h => by rw [h] at hobj; cases hobj) hselP hmethM habM hkP hkPi (g := g) hg (argsL := argsL) (rest := rest) (hlen _ hsigM) hstack hdg
  rcases hK m meth c ⟨T.setVm vm₁, locs, cells, slots⟩ { g with stack := rest } (.invokevirtual index) mk (Value.ref b :: argsL).toArray X₁ hg hsize hdg hW (X₁.named hnamed) (hpre vm₁ X₁.warmed) with ⟨v, B, X', hpost, hsteps⟩ | ⟨q, B, X', hpost, hsteps⟩
  · exact Or.inl ⟨v, vm₁, B, X₁.warmed, X', hpost, fun target h => hstep₁ _ fun acts => by rw [doInvoke_state]; exact hsteps.trans h⟩
  · exact Or.inr ⟨q, vm₁, B, X₁.warmed, X', hpost, hstep₁ _ fun acts => by rw [doInvoke_state]; exact hsteps⟩
theorem vx_callSX (X : Stand p l e R s m args below meth c T locs cells slots) (hexec : p.tables.exec = Jvm.exec) {own : String} {index : Nat} {y : MethodName} {bytes : ByteArray} {maxL : Nat} {ret : Option FieldType} {hh : List (Nat × Nat × Nat × Nat)}
    (hown : s.vm.findClass own = some m.cls) (hlink : (Cond.methodLink own index y).before args s = true) (hstat : (Cond.static y).before args s = true) (hinit : (Cond.initialized y.cls).before args s = true)
    (hcode : (Cond.codeWith y bytes maxL ret hh).before args s = true) (hy : y.cls ≠ "java/lang/invoke/MethodHandle" ∧ y.cls ≠ "java/lang/invoke/VarHandle")
    {W9 : Nat} {Pre : Pt → Array Value → Prop} {Post : Pt → Array Value → Option Value → Pt → Prop} {PostX : Pt → Array Value → Addr → Pt → Prop} (hK : vx_Back l R p e below s args y 3 W9 Pre Post PostX)
    {g : JFrame} (hg : g.method = m) (hsize : g.locals.size = c.maxLocals) {argsL rest : List Value} (hlen : ∀ sig, parseMethodDescriptor y.desc = some sig → argsL.length = sig.parameters.length)
    (hstack : g.stack = argsL.reverse ++ rest) (hW : 2 * g.monitorRoom + (rest.map fun v => v.category).sum ≤ W9) (hdg : decode c.code g.pc = .ok (.invokestatic index, 3))
    (hpre : ∀ vm₁, s.WarmedH vm₁ → Pre ⟨T.setVm vm₁, locs, cells, slots⟩ argsL.toArray) :
    (∃ (v : Option Value) (vm₁ : Vm) (B : Pt), s.WarmedH vm₁ ∧ Stand p l e R s m args below meth c B.U B.locs B.cells B.slots ∧ Post ⟨T.setVm vm₁, locs, cells, slots⟩ argsL.toArray v B ∧
      ∀ target, Steps p.tables e below (B.U.setTop { g with pc := g.pc + 3, stack := v.toList ++ rest }) target → Steps p.tables e below (T.setTop g) target) ∨
    (∃ (q : Addr) (vm₁ : Vm) (B : Pt), s.WarmedH vm₁ ∧ Stand p l e R s m args below meth c B.U B.locs B.cells B.slots ∧ PostX ⟨T.setVm vm₁, locs, cells, slots⟩ argsL.toArray q B ∧
      Steps p.tables e below (T.setTop g) ((B.U.setTop { g with stack := rest }).pushFrame (.throwing q))) := by
  obtain ⟨mk, methM, cM, hnamed, hmethM, -, -, -, -, -, -, hsigM⟩ := Cond.codeWith_spec hcode
  have hstatic : methM.isStatic = true := Cond.static_spec hnamed hmethM hstat
  obtain ⟨kP, hkP, -⟩ := className_of_methodNamed hnamed
  have hinitP : kP.init = .initialized := Cond.initialized_spec (findClass_of_methodNamed hnamed) hkP hinit
  obtain ⟨vm₁, X₁, hstep₁⟩ := X.invokestatic hexec hown hlink hnamed hmethM hstatic hkP hinitP hy (g := g) hg (argsL := argsL) (rest := rest) (hlen _ hsigM) hstack hdg
  rcases hK m meth c ⟨T.setVm vm₁, locs, cells, slots⟩ { g with stack := rest } (.invokestatic index) mk argsL.toArray X₁ hg hsize hdg hW (X₁.named hnamed) (hpre vm₁ X₁.warmed) with ⟨v, B, X', hpost, hsteps⟩ | ⟨q, B, X', hpost, hsteps⟩
  · exact Or.inl ⟨v, vm₁, B, X₁.warmed, X', hpost, fun target h => hstep₁ _ fun acts => by rw [doInvoke_state]; exact hsteps.trans h⟩
  · exact Or.inr ⟨q, vm₁, B, X₁.warmed, X', hpost, hstep₁ _ fun acts => by rw [doInvoke_state]; exact hsteps⟩
theorem vx_callVW (X : Stand p l e R s m args below meth c T locs cells slots) (hexec : p.tables.exec = Jvm.exec) {own C : String} {index : Nat} {y : MethodName} {bytes : ByteArray} {maxL : Nat} {ret : Option FieldType} {hh : List (Nat × Nat × Nat × Nat)}
    (hown : s.vm.findClass own = some m.cls) (hlink : (Cond.methodLink own index y).before args s = true) (hinst : (Cond.instanceMethod y).before args s = true) (hsel : (Cond.selects C y y).before args s = true)
    (hcode : (Cond.codeWith y bytes maxL ret hh).before args s = true) (hy : y.cls ≠ "java/lang/invoke/MethodHandle" ∧ y.cls ≠ "java/lang/invoke/VarHandle")
    {W9 : Nat} {Pre : Pt → Array Value → Prop} {Post : Pt → Array Value → Option Value → Pt → Prop} (hK : Back l R p e below s args y 3 W9 Pre Post)
    {b : Addr} {cellB : Cell} (hcell : T.heap[b]? = some cellB) (hobj : cellB.vm.isStatics = false) (hcls : s.vm.findClass C = some cellB.cls)
    {g : JFrame} (hg : g.method = m) (hsize : g.locals.size = c.maxLocals) {argsL rest : List Value} (hlen : ∀ sig, parseMethodDescriptor y.desc = some sig → argsL.length = sig.parameters.length)
    (hstack : g.stack = argsL.reverse ++ .ref b :: rest) (hW : 2 * g.monitorRoom + (rest.map fun v => v.category).sum ≤ W9) (hdg : decode c.code g.pc = .ok (.invokevirtual index, 3))
    (hpre : ∀ vm₁, s.WarmedH vm₁ → Pre ⟨T.setVm vm₁, locs, cells, slots⟩ (Value.ref b :: argsL).toArray) :
    ∃ (v : Option Value) (vm₁ : Vm) (B : Pt), s.WarmedH vm₁ ∧ Stand p l e R s m args below meth c B.U B.locs B.cells B.slots ∧ Post ⟨T.setVm vm₁, locs, cells, slots⟩ (Value.ref b :: argsL).toArray v B ∧
      ∀ target, Steps p.tables e below (B.U.setTop { g with pc := g.pc + 3, stack := v.toList ++ rest }) target → Steps p.tables e below (T.setTop g) target := by
  obtain ⟨mk, methM, hnamed, hmethM, hstM, habM⟩ := Cond.instanceMethod_spec hinst
  obtain ⟨m8, methM', cM, hn8, hmethM', -, -, -, -, -, -, hsigM⟩ := Cond.codeWith_spec hcode
  cases Option.some.inj (hn8.symm.trans hnamed)
  cases hmethM.symm.trans hmethM'
  obtain ⟨c2, r2, m2, q1, q2, q3, q4, kP, hkP, hkPi⟩ := Cond.selects_spec hsel
  cases hcls.symm.trans q1
  cases (State.methodFound?_of_named hnamed hy).symm.trans q2
  cases hnamed.symm.trans q3
  have hselP : selectMethod e.platform s.vm cellB.cls mk = .method mk := by rw [Launch.admits_selectMethod X.admits]; exact q4
  obtain ⟨vm₁, X₁, hstep₁⟩ := X.invokevirtual hexec hown hlink hnamed hmethM hstM hkP hkPi hy (a := b) (cell := cellB) hcell
    (fun z h => by rw [h] at hobj; cases hobj) hselP hmethM habM hkP hkPi (g := g) hg (argsL := argsL) (rest := rest) (hlen _ hsigM) hstack hdg
  obtain ⟨v, B, X', hpost, hsteps⟩ := hK m meth c ⟨T.setVm vm₁, locs, cells, slots⟩ { g with stack := rest } (.invokevirtual index) mk (Value.ref b :: argsL).toArray X₁ hg hsize hdg hW (X₁.named hnamed) (hpre vm₁ X₁.warmed)
  exact ⟨v, vm₁, B, X₁.warmed, X', hpost, fun target h => hstep₁ _ fun acts => by rw [doInvoke_state]; exact hsteps.trans h⟩
abbrev vx_CVW (R : Room) (s : State) (args : Array Value) (own C : String) (index : Nat) (y : MethodName) (bytes : ByteArray) (maxL : Nat) (ret : Option FieldType) (hh : List (Nat × Nat × Nat × Nat)) (ws : List Cond) (rm : Room) (mc ms n : Nat) : Prop :=
  (rm.cells = mc ∧ rm.slots = ms ∧ rm.frames + 1 ≤ R.frames ∧ 8 + (maxL + 11) + rm.locals ≤ R.locals ∧ (∀ w ∈ ws, ∀ (a' : Array Value) (U : State), s.WarmedH U.vm → w.before a' U = true) ∧ Cond.codeWith y bytes maxL ret hh ∈ ws) ∧
  (Cond.codeWith y bytes maxL ret hh).before args s = true ∧ (Cond.initialized y.cls).before args s = true ∧ (y.cls ≠ "java/lang/invoke/MethodHandle" ∧ y.cls ≠ "java/lang/invoke/VarHandle") ∧
  (∀ sig, parseMethodDescriptor y.desc = some sig → n = sig.parameters.length) ∧ (Cond.methodLink own index y).before args s = true ∧ (Cond.instanceMethod y).before args s = true ∧ (Cond.selects C y y).before args s = true
theorem vx_cwVW {own C : String} {index maxL mc ms : Nat} {y : MethodName} {bytes : ByteArray} {ret : Option FieldType} {hh : List (Nat × Nat × Nat × Nat)} {Ts ws ws' : List Cond} {rm : Room} (n : Nat) (ht : ∀ w ∈ Ts, w.before args s = true) (hT : GoodIn Ts (wsV own index C y ws)) (hw : ws = Cond.codeWith y bytes maxL ret hh :: ws') (hrc : rm.cells = mc) (hrs : rm.slots = ms)
    (hd : y.cls = C ∧ y.cls ≠ "java/lang/invoke/MethodHandle" ∧ y.cls ≠ "java/lang/invoke/VarHandle" ∧ (parseMethodDescriptor y.desc).map (fun d => d.parameters.length) = some n) (hR : rm.frames + 1 ≤ R.frames ∧ 8 + (maxL + 11) + rm.locals ≤ R.locals) :
    vx_CVW R s args own C index y bytes maxL ret hh ws rm mc ms n := by
  obtain ⟨hC, hd⟩ := hd
  subst hC
  have ok : ∀ w ∈ wsV own index y.cls y ws, w.before args s = true := fun w h => ht w (hT w h).1
  have hG : GoodIn Ts ws := fun w h => hT w (by unfold wsV; exact List.mem_append_right _ h)
  have hc : Cond.codeWith y bytes maxL ret hh ∈ ws := by rw [hw]; exact List.mem_cons_self
  refine ⟨⟨hrc, hrs, hR.1, hR.2, pay_in ht hG, hc⟩, ht _ (hG _ hc).1, ok _ (by simp [wsV]), ⟨hd.1, hd.2.1⟩, fun sig h => ?_, ok _ (by simp [wsV]), ok _ (by simp [wsV]), ok _ (by simp [wsV])⟩
  have h2 := hd.2.2
  rw [h] at h2
  exact (Option.some.inj h2).symm
theorem vx_runVW {y : MethodName} {bytes cc : ByteArray} {maxL nL mc ms n index : Nat} {ret : Option FieldType} {hh : List (Nat × Nat × Nat × Nat)} {ws : List Cond} {rm : Room} {Pc : Array Value → State → Prop} {Qc : Array Value → State → Outcome → State → Prop} {free : Addr → Prop} {Ts : List Cond} {own C : String} {b : Addr} {As rest : List Value} {g : JFrame}
    (S : CallFix p m c cc nL s args Ts own) (hM : Met l y ws rm Pc Qc mc ms free) (cw : vx_CVW R s args own C index y bytes maxL ret hh ws rm mc ms n) (hp : PreV s H C b Pc As)
    (hg : g.method = m) (hn : As.length = n) (hsize : g.locals.size = nL) (hstack : g.stack = As.reverse ++ .ref b :: rest) (hW : 2 * g.monitorRoom + (rest.map fun v => v.category).sum ≤ 8) (hdg : decode cc g.pc = .ok (.invokevirtual index, 3)) (hf : cells + mc ≤ R.cells ∧ slots + ms ≤ R.slots) :
    va_Run p l e R s m args below meth c H locs cells slots mc ms g rest (Qc (Value.ref b :: As).toArray) free := by
  obtain ⟨⟨hrc, hrs, hfr, hlo, hws, hcw⟩, hcode, hini, hy, hlen, hl, hin, hse⟩ := cw
  have hK : Back l R p e below s args y 3 8 (PreOf R mc ms Pc) (PostOf Qc mc ms free) := va_backW (hh := hh) (bytes := bytes) (maxL := maxL) (ret := ret) hM hp.1 hrc hrs hfr hlo hws hcw (fun a' U hW => word_at hW (Or.inl (by first | rfl | simp [Cond.onTables, Cond.keeps, Cond.steady])) hini)
  obtain ⟨hx, hb, hml, ho, -⟩ := S
  obtain ⟨-, ⟨cellB, hcB, hoB, hclB⟩, hPc⟩ := hp
  intro T hT X
  obtain ⟨v, vm₁, ⟨U', l2, c2, s2⟩, hW₁, X', ⟨g', mk, t, L, e1, e2, hq, h1, hL, h2, h3⟩, st⟩ := vx_callVW X hx (C := C) (hh := hh) (bytes := bytes) (maxL := maxL) (ret := ret) ho hl hin hse hcode hy hK (by rw [hT]; exact hcB) hoB hclB hg (hsize.trans hml.symm) (argsL := As) (rest := rest) (fun sig h => hn.trans (hlen sig h)) hstack hW (by rw [hb]; exact hdg)
    (fun vm₁ hW₁ => ⟨hf.1, hf.2, hPc (T.setVm vm₁) hT hW₁⟩)
  dsimp only [Pt.U, Pt.locs, Pt.cells, Pt.slots] at X' e1 e2 h1 h2 h3 st
  subst h1; subst h2; subst h3
  exact ⟨v, (T.setVm vm₁).calling g' mk (Value.ref b :: As).toArray, t, U', L, hT, X', hL, e1, e2, hq, st⟩
section
variable {y : MethodName} {bytes cc : ByteArray} {maxL nL mc ms n index : Nat} {ret : Option FieldType} {ws : List Cond} {rm : Room} {Pc : Array Value → State → Prop} {Qc : Array Value → State → Outcome → State → Prop} {XC : String → State → State → Prop} {free : Addr → Prop} {Ts : List Cond} {own C : String} {b : Addr} {As rest : List Value} {g : JFrame}
theorem vx_runVX {hh : List (Nat × Nat × Nat × Nat)} (S : CallFix p m c cc nL s args Ts own) (hM : vx_Met l y ws rm Pc Qc XC mc ms free) (cw : vx_CVW R s args own C index y bytes maxL ret hh ws rm mc ms n) (hp : PreV s H C b Pc As)
    (hg : g.method = m) (hn : As.length = n) (hsize : g.locals.size = nL) (hstack : g.stack = As.reverse ++ .ref b :: rest) (hW : 2 * g.monitorRoom + (rest.map fun v => v.category).sum ≤ 8) (hdg : decode cc g.pc = .ok (.invokevirtual index, 3)) (hf : cells + mc ≤ R.cells ∧ slots + ms ≤ R.slots) :
    vx_Run p l e R s m args below meth c H locs cells slots mc ms g rest (Qc (Value.ref b :: As).toArray) XC free := by
  obtain ⟨⟨hrc, hrs, hfr, hlo, hws, hcw⟩, hcode, hini, hy, hlen, hl, hin, hse⟩ := cw
  have hK : vx_Back l R p e below s args y 3 8 (PreOf R mc ms Pc) (PostOf Qc mc ms free) (vx_Post XC mc ms free) := vx_backW (hh := hh) (bytes := bytes) (maxL := maxL) (ret := ret) hM hp.1 hrc hrs hfr hlo hws hcw (fun a' U hW => word_at hW (Or.inl (by first | rfl | simp [Cond.onTables, Cond.keeps, Cond.steady])) hini)
  obtain ⟨hx, hb, hml, ho, -⟩ := S
  obtain ⟨-, ⟨cellB, hcB, hoB, hclB⟩, hPc⟩ := hp
  intro T hT X
  rcases vx_callVX X hx (C := C) (hh := hh) (bytes := bytes) (maxL := maxL) (ret := ret) ho hl hin hse hcode hy hK (by rw [hT]; exact hcB) hoB hclB hg (hsize.trans hml.symm) (argsL := As) (rest := rest) (fun sig h => hn.trans (hlen sig h)) hstack hW (by rw [hb]; exact hdg)
    (fun vm₁ hW₁ => ⟨hf.1, hf.2, hPc (T.setVm vm₁) hT hW₁⟩) with ⟨v, vm₁, ⟨U', l2, c2, s2⟩, hW₁, X', ⟨g', mk, t, L, e1, e2, hq, h1, hL, h2, h3⟩, st⟩ | ⟨q, vm₁, ⟨U', l2, c2, s2⟩, hW₁, X', ⟨g', mk, t, L, E, ce, e1, e2, hq, hce, hcv, hcl, h1, hL, h2, h3⟩, st⟩
  · dsimp only [Pt.U, Pt.locs, Pt.cells, Pt.slots] at X' e1 e2 h1 h2 h3 st
    subst h1; subst h2; subst h3
    exact Or.inl ⟨v, (T.setVm vm₁).calling g' mk (Value.ref b :: As).toArray, t, U', L, hT, X', hL, e1, e2, hq, st⟩
  · dsimp only [Pt.U, Pt.locs, Pt.cells, Pt.slots] at X' e1 e2 h1 h2 h3 st hcl
    subst h1; subst h2; subst h3
    exact Or.inr ⟨q, (T.setVm vm₁).calling g' mk (Value.ref b :: As).toArray, t, U', L, E, ce, hT, X', hL, e1, e2, hq, hce, hcv, vx_cls hW₁ hcl, st⟩
theorem vx_runSX {hh : List (Nat × Nat × Nat × Nat)} (S : CallFix p m c cc nL s args Ts own) (hM : vx_Met l y ws rm Pc Qc XC mc ms free) (cw : vx_CSW R s args own index y bytes maxL ret hh ws rm mc ms n) (hp : PreS s H Pc As)
    (hg : g.method = m) (hn : As.length = n) (hsize : g.locals.size = nL) (hstack : g.stack = As.reverse ++ rest) (hW : 2 * g.monitorRoom + (rest.map fun v => v.category).sum ≤ 8) (hdg : decode cc g.pc = .ok (.invokestatic index, 3)) (hf : cells + mc ≤ R.cells ∧ slots + ms ≤ R.slots) :
    vx_Run p l e R s m args below meth c H locs cells slots mc ms g rest (Qc As.toArray) XC free := by
  obtain ⟨⟨hrc, hrs, hfr, hlo, hws, hcw⟩, hcode, hini, hy, hlen, hl, hstt⟩ := cw
  have hK : vx_Back l R p e below s args y 3 8 (PreOf R mc ms Pc) (PostOf Qc mc ms free) (vx_Post XC mc ms free) := vx_backW (hh := hh) (bytes := bytes) (maxL := maxL) (ret := ret) hM hp.1 hrc hrs hfr hlo hws hcw (fun a' U hW => word_at hW (Or.inl (by first | rfl | simp [Cond.onTables, Cond.keeps, Cond.steady])) hini)
  obtain ⟨hx, hb, hml, ho, -⟩ := S
  intro T hT X
  rcases vx_callSX X hx (hh := hh) (bytes := bytes) (maxL := maxL) (ret := ret) ho hl hstt hini hcode hy hK hg (hsize.trans hml.symm) (argsL := As) (rest := rest) (fun sig h => hn.trans (hlen sig h)) hstack hW (by rw [hb]; exact hdg)
    (fun vm₁ hW₁ => ⟨hf.1, hf.2, hp.2 (T.setVm vm₁) hT hW₁⟩) with ⟨v, vm₁, ⟨U', l2, c2, s2⟩, hW₁, X', ⟨g', mk, t, L, e1, e2, hq, h1, hL, h2, h3⟩, st⟩ | ⟨q, vm₁, ⟨U', l2, c2, s2⟩, hW₁, X', ⟨g', mk, t, L, E, ce, e1, e2, hq, hce, hcv, hcl, h1, hL, h2, h3⟩, st⟩
  · dsimp only [Pt.U, Pt.locs, Pt.cells, Pt.slots] at X' e1 e2 h1 h2 h3 st
    subst h1; subst h2; subst h3
    exact Or.inl ⟨v, (T.setVm vm₁).calling g' mk As.toArray, t, U', L, hT, X', hL, e1, e2, hq, st⟩
  · dsimp only [Pt.U, Pt.locs, Pt.cells, Pt.slots] at X' e1 e2 h1 h2 h3 st hcl
    subst h1; subst h2; subst h3
    exact Or.inr ⟨q, (T.setVm vm₁).calling g' mk As.toArray, t, U', L, E, ce, hT, X', hL, e1, e2, hq, hce, hcv, vx_cls hW₁ hcl, st⟩
end
end VXH
theorem vx_ofWH {l : Launch} {y : MethodName} {ws ws' : List Cond} {rm : Room} {Pc : Array Value → State → Prop} {Qc : Array Value → State → Outcome → State → Prop} {XC : String → State → State → Prop} {mc ms : Nat} {free : Addr → Prop} {cc : ByteArray} {maxL : Nat} {ret : Option FieldType} {hh : List (Nat × Nat × Nat × Nat)}
    (hy : plainName y.cls = true) (hw : ws = Cond.codeWith y cc maxL ret hh :: ws')
    (body : ∀ p e s m args below meth c s₁, BodyLoose p l y (headSpec ws rm) cc maxL ret e s m args below meth c s₁ → c.maxLocals = maxL → Pc args s →
      W p l e (headSpec ws rm).room s m args below meth c s.heap [] 0 0 (vx_MQ below Qc XC args s mc ms free) (entryFrame m args maxL)) : vx_Met l y ws rm Pc Qc XC mc ms free := by
  refine MetFree.of_bodyS (code := cc) (maxLocals := maxL) (ret := ret) hy ?_ ?_
  · intro args s m h hn
    obtain ⟨m9, meth, c, hn9, h1, h2, h3, h4, -, h5, h6, -⟩ := Cond.codeWith_spec (atoms_spec (ws := ws) h _ (by rw [hw]; exact List.mem_cons_self))
    cases hn.symm.trans hn9
    exact ⟨meth, c, h1, h2, h3, h4, h5, h6⟩
  · intro p e s m args below meth c s₁ B hml hP _
    have hh0 : s₁.heap = s.heap := by rw [B.state]; rfl
    obtain ⟨t, a1, o, b1, b2, b3⟩ := body p e s m args below meth c s₁ B hml hP s₁ hh0 (Stand.of_body B)
    exact ⟨t, o, a1, b1, b2, b3⟩
/-! ===== END ===== -/
end
section
/-! ===== BEGIN printed: names, fields, word lists, decode rows ===== -/
def RX0 : String := "ParcelledTable$Part"
def TX0 : u_T := fun k => match k with
  | 0 => ("ParcelledTable$Part", "number", "I", true)
  | 1 => ("ParcelledTable$Part", "from", "I", true)
  | 2 => ("ParcelledTable$Part", "to", "I", false)
  | 3 => ("ParcelledTable$Part", "kind", "I", true)
  | 4 => ("ParcelledTable$Part", "detail", "I", true)
  | _ => ("ParcelledTable$Part", "state", "I", false)
def tyX0 : Nat → FieldType := fun k => match k with
  | 0 => .int
  | 1 => .int
  | 2 => .int
  | 3 => .int
  | 4 => .int
  | _ => .int
abbrev wsX00 : List Cond := u_ws RX0 TX0 6
theorem nmX0 : ∀ a, a < 6 → ∀ b, b < 6 → a ≠ b → (TX0 a).2.1 ≠ (TX0 b).2.1 := by decide +kernel
theorem tyX0_ok : ∀ k, k < 6 → parseFieldDescriptor (TX0 k).2.2.1 = some (tyX0 k) := by decide +kernel
abbrev cX0_init : ByteArray := prog_2_method_1_code
def yX0_init : MethodName := ⟨RX0, "<init>", "(IIIII)V"⟩
abbrev cX0_covers : ByteArray := prog_2_method_2_code
def yX0_covers : MethodName := ⟨RX0, "covers", "(I)Z"⟩
abbrev cX0_overlaps : ByteArray := prog_2_method_3_code
def yX0_overlaps : MethodName := ⟨RX0, "overlaps", "(LParcelledTable$Part;)Z"⟩
abbrev cX0_leaves : ByteArray := prog_2_method_4_code
def yX0_leaves : MethodName := ⟨RX0, "leaves", "()I"⟩
abbrev cX0_leafFor : ByteArray := prog_2_method_5_code
def yX0_leafFor : MethodName := ⟨RX0, "leafFor", "(II)I"⟩
abbrev cX0_mayHold : ByteArray := prog_2_method_6_code
def yX0_mayHold : MethodName := ⟨RX0, "mayHold", "(ILParcelledTable$Question;)Z"⟩
abbrev cX0_sortsByList : ByteArray := prog_2_method_7_code
def yX0_sortsByList : MethodName := ⟨RX0, "sortsByList", "(I)I"⟩
abbrev cX0_hashReaches : ByteArray := prog_2_method_8_code
def yX0_hashReaches : MethodName := ⟨RX0, "hashReaches", "(III)Z"⟩
abbrev cX0_leafByHash : ByteArray := prog_2_method_9_code
def yX0_leafByHash : MethodName := ⟨RX0, "leafByHash", "(I)I"⟩
def RX1 : String := "ParcelledTable$Question"
def TX1 : u_T := fun k => match k with
  | 0 => ("ParcelledTable$Question", "low", "I", true)
  | 1 => ("ParcelledTable$Question", "high", "I", true)
  | _ => ("ParcelledTable$Question", "sorts", "I", true)
def tyX1 : Nat → FieldType := fun k => match k with
  | 0 => .int
  | 1 => .int
  | _ => .int
abbrev wsX10 : List Cond := u_ws RX1 TX1 3
theorem nmX1 : ∀ a, a < 3 → ∀ b, b < 3 → a ≠ b → (TX1 a).2.1 ≠ (TX1 b).2.1 := by decide +kernel
theorem tyX1_ok : ∀ k, k < 3 → parseFieldDescriptor (TX1 k).2.2.1 = some (tyX1 k) := by decide +kernel
abbrev cX1_init : ByteArray := prog_3_method_1_code
def yX1_init : MethodName := ⟨RX1, "<init>", "(III)V"⟩
def RX2 : String := "ParcelledTable$Row"
def TX2 : u_T := fun k => match k with
  | 0 => ("ParcelledTable$Row", "key", "I", false)
  | 1 => ("ParcelledTable$Row", "sort", "I", false)
  | 2 => ("ParcelledTable$Row", "value", "I", true)
  | _ => ("ParcelledTable$Row", "part", "LParcelledTable$Part;", false)
def tyX2 : Nat → FieldType := fun k => match k with
  | 0 => .int
  | 1 => .int
  | 2 => .int
  | _ => .object "ParcelledTable$Part"
abbrev wsX20 : List Cond := u_ws RX2 TX2 4
theorem nmX2 : ∀ a, a < 4 → ∀ b, b < 4 → a ≠ b → (TX2 a).2.1 ≠ (TX2 b).2.1 := by decide +kernel
theorem tyX2_ok : ∀ k, k < 4 → parseFieldDescriptor (TX2 k).2.2.1 = some (tyX2 k) := by decide +kernel
abbrev cX2_init : ByteArray := prog_4_method_1_code
def yX2_init : MethodName := ⟨RX2, "<init>", "(IIILParcelledTable$Part;)V"⟩
abbrev cX2_isInTable : ByteArray := prog_4_method_2_code
def yX2_isInTable : MethodName := ⟨RX2, "isInTable", "()Z"⟩
abbrev cX2_liesIn : ByteArray := prog_4_method_3_code
def yX2_liesIn : MethodName := ⟨RX2, "liesIn", "(LParcelledTable$Part;I)Z"⟩
abbrev cX2_fits : ByteArray := prog_4_method_4_code
def yX2_fits : MethodName := ⟨RX2, "fits", "(LParcelledTable$Question;)Z"⟩
abbrev cX2_place : ByteArray := prog_4_method_5_code
def yX2_place : MethodName := ⟨RX2, "place", "()I"⟩
def RX3 : String := "ParcelledTable"
def TX3 : u_T := fun k => match k with
  | 0 => ("ParcelledTable", "rest", "LParcelledTable$Part;", true)
  | 1 => ("ParcelledTable", "allParts", "[LParcelledTable$Part;", true)
  | 2 => ("ParcelledTable", "partsMade", "I", false)
  | 3 => ("ParcelledTable", "allRows", "[LParcelledTable$Row;", true)
  | 4 => ("ParcelledTable", "rowsInserted", "I", false)
  | _ => ("ParcelledTable", "stale", "Z", false)
def tyX3 : Nat → FieldType := fun k => match k with
  | 0 => .object "ParcelledTable$Part"
  | 1 => .array (.object "ParcelledTable$Part")
  | 2 => .int
  | 3 => .array (.object "ParcelledTable$Row")
  | 4 => .int
  | _ => .boolean
abbrev wsX30 : List Cond := u_ws RX3 TX3 6
theorem nmX3 : ∀ a, a < 6 → ∀ b, b < 6 → a ≠ b → (TX3 a).2.1 ≠ (TX3 b).2.1 := by decide +kernel
theorem tyX3_ok : ∀ k, k < 6 → parseFieldDescriptor (TX3 k).2.2.1 = some (tyX3 k) := by decide +kernel
abbrev cX3_init : ByteArray := prog_1_method_1_code
def yX3_init : MethodName := ⟨RX3, "<init>", "()V"⟩
abbrev cX3_makePart : ByteArray := prog_1_method_2_code
def yX3_makePart : MethodName := ⟨RX3, "makePart", "(IIII)I"⟩
abbrev cX3_carveOut : ByteArray := prog_1_method_3_code
def yX3_carveOut : MethodName := ⟨RX3, "carveOut", "(IIII)I"⟩
abbrev cX3_split : ByteArray := prog_1_method_4_code
def yX3_split : MethodName := ⟨RX3, "split", "(II)I"⟩
abbrev cX3_merge : ByteArray := prog_1_method_5_code
def yX3_merge : MethodName := ⟨RX3, "merge", "(II)I"⟩
abbrev cX3_detach : ByteArray := prog_1_method_6_code
def yX3_detach : MethodName := ⟨RX3, "detach", "(I)I"⟩
abbrev cX3_attach : ByteArray := prog_1_method_7_code
def yX3_attach : MethodName := ⟨RX3, "attach", "(I)I"⟩
abbrev cX3_exchange : ByteArray := prog_1_method_8_code
def yX3_exchange : MethodName := ⟨RX3, "exchange", "(II)I"⟩
abbrev cX3_insert : ByteArray := prog_1_method_9_code
def yX3_insert : MethodName := ⟨RX3, "insert", "(III)I"⟩
abbrev cX3_change : ByteArray := prog_1_method_10_code
def yX3_change : MethodName := ⟨RX3, "change", "(III)Z"⟩
abbrev cX3_remove : ByteArray := prog_1_method_11_code
def yX3_remove : MethodName := ⟨RX3, "remove", "(I)I"⟩
abbrev cX3_parts : ByteArray := prog_1_method_12_code
def yX3_parts : MethodName := ⟨RX3, "parts", "()I"⟩
abbrev cX3_stateOf : ByteArray := prog_1_method_13_code
def yX3_stateOf : MethodName := ⟨RX3, "stateOf", "(I)I"⟩
abbrev cX3_partOf : ByteArray := prog_1_method_14_code
def yX3_partOf : MethodName := ⟨RX3, "partOf", "(I)I"⟩
abbrev cX3_leafOf : ByteArray := prog_1_method_15_code
def yX3_leafOf : MethodName := ⟨RX3, "leafOf", "(I)I"⟩
abbrev cX3_rowsIn : ByteArray := prog_1_method_16_code
def yX3_rowsIn : MethodName := ⟨RX3, "rowsIn", "(II)I"⟩
abbrev cX3_rows : ByteArray := prog_1_method_17_code
def yX3_rows : MethodName := ⟨RX3, "rows", "()I"⟩
abbrev cX3_count : ByteArray := prog_1_method_18_code
def yX3_count : MethodName := ⟨RX3, "count", "(III)I"⟩
abbrev cX3_countPlain : ByteArray := prog_1_method_19_code
def yX3_countPlain : MethodName := ⟨RX3, "countPlain", "(III)I"⟩
abbrev cX3_read : ByteArray := prog_1_method_20_code
def yX3_read : MethodName := ⟨RX3, "read", "(III)I"⟩
abbrev cX3_matters : ByteArray := prog_1_method_21_code
def yX3_matters : MethodName := ⟨RX3, "matters", "(IIIII)Z"⟩
abbrev cX3_isStale : ByteArray := prog_1_method_22_code
def yX3_isStale : MethodName := ⟨RX3, "isStale", "()Z"⟩
abbrev cX3_buildIndex : ByteArray := prog_1_method_23_code
def yX3_buildIndex : MethodName := ⟨RX3, "buildIndex", "()I"⟩
abbrev cX3_find : ByteArray := prog_1_method_24_code
def yX3_find : MethodName := ⟨RX3, "find", "(I)I"⟩
abbrev cX3_findIn : ByteArray := prog_1_method_25_code
def yX3_findIn : MethodName := ⟨RX3, "findIn", "(II)I"⟩
abbrev cX3_checkKey : ByteArray := prog_1_method_26_code
def yX3_checkKey : MethodName := ⟨RX3, "checkKey", "(I)V"⟩
abbrev cX3_checkSort : ByteArray := prog_1_method_27_code
def yX3_checkSort : MethodName := ⟨RX3, "checkSort", "(I)V"⟩
abbrev cX3_checkValue : ByteArray := prog_1_method_28_code
def yX3_checkValue : MethodName := ⟨RX3, "checkValue", "(I)V"⟩
abbrev cX3_checkRange : ByteArray := prog_1_method_29_code
def yX3_checkRange : MethodName := ⟨RX3, "checkRange", "(II)V"⟩
abbrev cX3_checkKind : ByteArray := prog_1_method_30_code
def yX3_checkKind : MethodName := ⟨RX3, "checkKind", "(II)V"⟩
abbrev cX3_leastDetail : ByteArray := prog_1_method_31_code
def yX3_leastDetail : MethodName := ⟨RX3, "leastDetail", "(I)I"⟩
abbrev cX3_mostDetail : ByteArray := prog_1_method_32_code
def yX3_mostDetail : MethodName := ⟨RX3, "mostDetail", "(I)I"⟩
abbrev cX3_checkedQuestion : ByteArray := prog_1_method_33_code
def yX3_checkedQuestion : MethodName := ⟨RX3, "checkedQuestion", "(III)LParcelledTable$Question;"⟩
abbrev cX3_knownPart : ByteArray := prog_1_method_34_code
def yX3_knownPart : MethodName := ⟨RX3, "knownPart", "(I)LParcelledTable$Part;"⟩
abbrev cX3_livingPart : ByteArray := prog_1_method_35_code
def yX3_livingPart : MethodName := ⟨RX3, "livingPart", "(I)LParcelledTable$Part;"⟩
abbrev cX3_livingPartWithRange : ByteArray := prog_1_method_36_code
def yX3_livingPartWithRange : MethodName := ⟨RX3, "livingPartWithRange", "(I)LParcelledTable$Part;"⟩
abbrev cX3_livingPartWithLeaf : ByteArray := prog_1_method_37_code
def yX3_livingPartWithLeaf : MethodName := ⟨RX3, "livingPartWithLeaf", "(II)LParcelledTable$Part;"⟩
abbrev cX3_presentRow : ByteArray := prog_1_method_38_code
def yX3_presentRow : MethodName := ⟨RX3, "presentRow", "(I)LParcelledTable$Row;"⟩
abbrev cX3_refuseUnlessAttached : ByteArray := prog_1_method_39_code
def yX3_refuseUnlessAttached : MethodName := ⟨RX3, "refuseUnlessAttached", "(LParcelledTable$Part;)V"⟩
abbrev cX3_refuseUnlessDetached : ByteArray := prog_1_method_40_code
def yX3_refuseUnlessDetached : MethodName := ⟨RX3, "refuseUnlessDetached", "(LParcelledTable$Part;)V"⟩
abbrev cX3_refuseOverlap : ByteArray := prog_1_method_41_code
def yX3_refuseOverlap : MethodName := ⟨RX3, "refuseOverlap", "(LParcelledTable$Part;)V"⟩
abbrev cX3_refuseRowsOfRest : ByteArray := prog_1_method_42_code
def yX3_refuseRowsOfRest : MethodName := ⟨RX3, "refuseRowsOfRest", "(LParcelledTable$Part;)V"⟩
abbrev cX3_refuseForeignRows : ByteArray := prog_1_method_43_code
def yX3_refuseForeignRows : MethodName := ⟨RX3, "refuseForeignRows", "(LParcelledTable$Part;LParcelledTable$Part;)V"⟩
abbrev cX3_plannedPart : ByteArray := prog_1_method_44_code
def yX3_plannedPart : MethodName := ⟨RX3, "plannedPart", "(IIII)LParcelledTable$Part;"⟩
abbrev cX3_keepPart : ByteArray := prog_1_method_45_code
def yX3_keepPart : MethodName := ⟨RX3, "keepPart", "(LParcelledTable$Part;)V"⟩
abbrev cX3_holderOf : ByteArray := prog_1_method_46_code
def yX3_holderOf : MethodName := ⟨RX3, "holderOf", "(I)LParcelledTable$Part;"⟩
abbrev cX3_moveRows : ByteArray := prog_1_method_47_code
def yX3_moveRows : MethodName := ⟨RX3, "moveRows", "(LParcelledTable$Part;LParcelledTable$Part;)V"⟩
abbrev cX3_swapRows : ByteArray := prog_1_method_48_code
def yX3_swapRows : MethodName := ⟨RX3, "swapRows", "(LParcelledTable$Part;LParcelledTable$Part;)V"⟩
abbrev cX3_rowsOf : ByteArray := prog_1_method_49_code
def yX3_rowsOf : MethodName := ⟨RX3, "rowsOf", "(LParcelledTable$Part;)I"⟩
abbrev cX3_mayMatter : ByteArray := prog_1_method_50_code
def yX3_mayMatter : MethodName := ⟨RX3, "mayMatter", "(LParcelledTable$Part;ILParcelledTable$Question;)Z"⟩
abbrev cX3_restMayHold : ByteArray := prog_1_method_51_code
def yX3_restMayHold : MethodName := ⟨RX3, "restMayHold", "(II)Z"⟩
abbrev cX3_leavesThatMayMatter : ByteArray := prog_1_method_52_code
def yX3_leavesThatMayMatter : MethodName := ⟨RX3, "leavesThatMayMatter", "(LParcelledTable$Part;LParcelledTable$Question;)I"⟩
abbrev cX3_countInPart : ByteArray := prog_1_method_53_code
def yX3_countInPart : MethodName := ⟨RX3, "countInPart", "(LParcelledTable$Part;LParcelledTable$Question;)I"⟩
abbrev cX3_countInLeaf : ByteArray := prog_1_method_54_code
def yX3_countInLeaf : MethodName := ⟨RX3, "countInLeaf", "(LParcelledTable$Part;ILParcelledTable$Question;)I"⟩
abbrev cX3_hasSort : ByteArray := prog_1_method_55_code
def yX3_hasSort : MethodName := ⟨RX3, "hasSort", "(II)Z"⟩
def RX4 : String := "ParcelledTableModel"
def TX4 : u_T := fun k => match k with
  | 0 => ("ParcelledTableModel", "thrown", "I", false)
  | 1 => ("ParcelledTableModel", "from", "[I", true)
  | 2 => ("ParcelledTableModel", "to", "[I", true)
  | 3 => ("ParcelledTableModel", "kind", "[I", true)
  | 4 => ("ParcelledTableModel", "detail", "[I", true)
  | 5 => ("ParcelledTableModel", "state", "[I", true)
  | 6 => ("ParcelledTableModel", "parts", "I", false)
  | 7 => ("ParcelledTableModel", "part", "[I", true)
  | 8 => ("ParcelledTableModel", "key", "[I", true)
  | 9 => ("ParcelledTableModel", "sort", "[I", true)
  | 10 => ("ParcelledTableModel", "value", "[I", true)
  | 11 => ("ParcelledTableModel", "inserted", "I", false)
  | _ => ("ParcelledTableModel", "isStale", "Z", false)
def tyX4 : Nat → FieldType := fun k => match k with
  | 0 => .int
  | 1 => .array .int
  | 2 => .array .int
  | 3 => .array .int
  | 4 => .array .int
  | 5 => .array .int
  | 6 => .int
  | 7 => .array .int
  | 8 => .array .int
  | 9 => .array .int
  | 10 => .array .int
  | 11 => .int
  | _ => .boolean
abbrev wsX40 : List Cond := u_ws RX4 TX4 13
theorem nmX4 : ∀ a, a < 13 → ∀ b, b < 13 → a ≠ b → (TX4 a).2.1 ≠ (TX4 b).2.1 := by decide +kernel
theorem tyX4_ok : ∀ k, k < 13 → parseFieldDescriptor (TX4 k).2.2.1 = some (tyX4 k) := by decide +kernel
abbrev cX4_init : ByteArray := prog_6_method_1_code
def yX4_init : MethodName := ⟨RX4, "<init>", "()V"⟩
abbrev cX4_thrown : ByteArray := prog_6_method_2_code
def yX4_thrown : MethodName := ⟨RX4, "thrown", "()I"⟩
abbrev cX4_isFine : ByteArray := prog_6_method_3_code
def yX4_isFine : MethodName := ⟨RX4, "isFine", "(I)Z"⟩
abbrev cX4_isIn : ByteArray := prog_6_method_4_code
def yX4_isIn : MethodName := ⟨RX4, "isIn", "(III)Z"⟩
abbrev cX4_isKey : ByteArray := prog_6_method_5_code
def yX4_isKey : MethodName := ⟨RX4, "isKey", "(I)Z"⟩
abbrev cX4_isPart : ByteArray := prog_6_method_6_code
def yX4_isPart : MethodName := ⟨RX4, "isPart", "(I)Z"⟩
abbrev cX4_isAny : ByteArray := prog_6_method_7_code
def yX4_isAny : MethodName := ⟨RX4, "isAny", "(I)Z"⟩
abbrev cX4_isRow : ByteArray := prog_6_method_8_code
def yX4_isRow : MethodName := ⟨RX4, "isRow", "(I)Z"⟩
abbrev cX4_isAttached : ByteArray := prog_6_method_9_code
def yX4_isAttached : MethodName := ⟨RX4, "isAttached", "(I)Z"⟩
abbrev cX4_hasKey : ByteArray := prog_6_method_10_code
def yX4_hasKey : MethodName := ⟨RX4, "hasKey", "(II)Z"⟩
abbrev cX4_partWith : ByteArray := prog_6_method_11_code
def yX4_partWith : MethodName := ⟨RX4, "partWith", "(I)I"⟩
abbrev cX4_leaves : ByteArray := prog_6_method_12_code
def yX4_leaves : MethodName := ⟨RX4, "leaves", "(I)I"⟩
abbrev cX4_leaf : ByteArray := prog_6_method_13_code
def yX4_leaf : MethodName := ⟨RX4, "leaf", "(III)I"⟩
abbrev cX4_rowsOf : ByteArray := prog_6_method_14_code
def yX4_rowsOf : MethodName := ⟨RX4, "rowsOf", "(I)I"⟩
abbrev cX4_isInRest : ByteArray := prog_6_method_15_code
def yX4_isInRest : MethodName := ⟨RX4, "isInRest", "(II)Z"⟩
abbrev cX4_overlaps : ByteArray := prog_6_method_16_code
def yX4_overlaps : MethodName := ⟨RX4, "overlaps", "(II)Z"⟩
abbrev cX4_isShape : ByteArray := prog_6_method_17_code
def yX4_isShape : MethodName := ⟨RX4, "isShape", "(IIII)Z"⟩
abbrev cX4_makes : ByteArray := prog_6_method_18_code
def yX4_makes : MethodName := ⟨RX4, "makes", "(IIII)I"⟩
abbrev cX4_moves : ByteArray := prog_6_method_19_code
def yX4_moves : MethodName := ⟨RX4, "moves", "(II)V"⟩
abbrev cX4_makePart : ByteArray := prog_6_method_20_code
def yX4_makePart : MethodName := ⟨RX4, "makePart", "(IIII)I"⟩
abbrev cX4_carveOut : ByteArray := prog_6_method_21_code
def yX4_carveOut : MethodName := ⟨RX4, "carveOut", "(IIII)I"⟩
abbrev cX4_split : ByteArray := prog_6_method_22_code
def yX4_split : MethodName := ⟨RX4, "split", "(II)I"⟩
abbrev cX4_merge : ByteArray := prog_6_method_23_code
def yX4_merge : MethodName := ⟨RX4, "merge", "(II)I"⟩
abbrev cX4_detach : ByteArray := prog_6_method_24_code
def yX4_detach : MethodName := ⟨RX4, "detach", "(I)I"⟩
abbrev cX4_attach : ByteArray := prog_6_method_25_code
def yX4_attach : MethodName := ⟨RX4, "attach", "(I)I"⟩
abbrev cX4_fits : ByteArray := prog_6_method_26_code
def yX4_fits : MethodName := ⟨RX4, "fits", "(II)Z"⟩
abbrev cX4_exchange : ByteArray := prog_6_method_27_code
def yX4_exchange : MethodName := ⟨RX4, "exchange", "(II)I"⟩
abbrev cX4_isShaped : ByteArray := prog_6_method_28_code
def yX4_isShaped : MethodName := ⟨RX4, "isShaped", "(II)Z"⟩
abbrev cX4_insert : ByteArray := prog_6_method_29_code
def yX4_insert : MethodName := ⟨RX4, "insert", "(III)I"⟩
abbrev cX4_place : ByteArray := prog_6_method_30_code
def yX4_place : MethodName := ⟨RX4, "place", "(I)I"⟩
abbrev cX4_isTabled : ByteArray := prog_6_method_31_code
def yX4_isTabled : MethodName := ⟨RX4, "isTabled", "(I)Z"⟩
abbrev cX4_change : ByteArray := prog_6_method_32_code
def yX4_change : MethodName := ⟨RX4, "change", "(III)Z"⟩
abbrev cX4_remove : ByteArray := prog_6_method_33_code
def yX4_remove : MethodName := ⟨RX4, "remove", "(I)I"⟩
abbrev cX4_parts : ByteArray := prog_6_method_34_code
def yX4_parts : MethodName := ⟨RX4, "parts", "()I"⟩
abbrev cX4_stateOf : ByteArray := prog_6_method_35_code
def yX4_stateOf : MethodName := ⟨RX4, "stateOf", "(I)I"⟩
abbrev cX4_partOf : ByteArray := prog_6_method_36_code
def yX4_partOf : MethodName := ⟨RX4, "partOf", "(I)I"⟩
abbrev cX4_leafOf : ByteArray := prog_6_method_37_code
def yX4_leafOf : MethodName := ⟨RX4, "leafOf", "(I)I"⟩
abbrev cX4_isLeaf : ByteArray := prog_6_method_38_code
def yX4_isLeaf : MethodName := ⟨RX4, "isLeaf", "(II)Z"⟩
abbrev cX4_rowsIn : ByteArray := prog_6_method_39_code
def yX4_rowsIn : MethodName := ⟨RX4, "rowsIn", "(II)I"⟩
abbrev cX4_rows : ByteArray := prog_6_method_40_code
def yX4_rows : MethodName := ⟨RX4, "rows", "()I"⟩
abbrev cX4_isQuestion : ByteArray := prog_6_method_41_code
def yX4_isQuestion : MethodName := ⟨RX4, "isQuestion", "(III)Z"⟩
abbrev cX4_counted : ByteArray := prog_6_method_42_code
def yX4_counted : MethodName := ⟨RX4, "counted", "(III)I"⟩
abbrev cX4_count : ByteArray := prog_6_method_43_code
def yX4_count : MethodName := ⟨RX4, "count", "(III)I"⟩
abbrev cX4_countPlain : ByteArray := prog_6_method_44_code
def yX4_countPlain : MethodName := ⟨RX4, "countPlain", "(III)I"⟩
abbrev cX4_isMatter : ByteArray := prog_6_method_45_code
def yX4_isMatter : MethodName := ⟨RX4, "isMatter", "(IIIII)Z"⟩
abbrev cX4_read : ByteArray := prog_6_method_46_code
def yX4_read : MethodName := ⟨RX4, "read", "(III)I"⟩
abbrev cX4_matters : ByteArray := prog_6_method_47_code
def yX4_matters : MethodName := ⟨RX4, "matters", "(IIIII)Z"⟩
abbrev cX4_isStale : ByteArray := prog_6_method_48_code
def yX4_isStale : MethodName := ⟨RX4, "isStale", "()Z"⟩
abbrev cX4_buildIndex : ByteArray := prog_6_method_49_code
def yX4_buildIndex : MethodName := ⟨RX4, "buildIndex", "()I"⟩
abbrev cX4_find : ByteArray := prog_6_method_50_code
def yX4_find : MethodName := ⟨RX4, "find", "(I)I"⟩
abbrev cX4_findIn : ByteArray := prog_6_method_51_code
def yX4_findIn : MethodName := ⟨RX4, "findIn", "(II)I"⟩
def RJ9 : String := "java/lang/Math"
def TJ9 : u_T := fun k => match k with
  | _ => ("", "", "", false)
def tyJ9 : Nat → FieldType := fun k => match k with
  | _ => .int
abbrev wsJ90 : List Cond := u_ws RJ9 TJ9 0
theorem nmJ9 : ∀ a, a < 0 → ∀ b, b < 0 → a ≠ b → (TJ9 a).2.1 ≠ (TJ9 b).2.1 := by decide +kernel
theorem tyJ9_ok : ∀ k, k < 0 → parseFieldDescriptor (TJ9 k).2.2.1 = some (tyJ9 k) := by decide +kernel
abbrev cJ9_max_7cf53 : ByteArray := prog_11_method_65_code
def yJ9_max_7cf53 : MethodName := ⟨RJ9, "max", "(II)I"⟩
abbrev cJ9_min_7cf53 : ByteArray := prog_11_method_69_code
def yJ9_min_7cf53 : MethodName := ⟨RJ9, "min", "(II)I"⟩
def RJ0 : String := "java/lang/String"
def TJ0 : u_T := fun k => match k with
  | _ => ("", "", "", false)
def tyJ0 : Nat → FieldType := fun k => match k with
  | _ => .int
abbrev wsJ00 : List Cond := u_ws RJ0 TJ0 0
theorem nmJ0 : ∀ a, a < 0 → ∀ b, b < 0 → a ≠ b → (TJ0 a).2.1 ≠ (TJ0 b).2.1 := by decide +kernel
theorem tyJ0_ok : ∀ k, k < 0 → parseFieldDescriptor (TJ0 k).2.2.1 = some (tyJ0 k) := by decide +kernel
def RL : String := "ParcelledTableLaw"
abbrev cL_makePart : ByteArray := method_3_code
def yL_makePart : MethodName := ⟨RL, "makePart", "(LParcelledTable;IIII[J)I"⟩
abbrev cL_carveOut : ByteArray := method_4_code
def yL_carveOut : MethodName := ⟨RL, "carveOut", "(LParcelledTable;IIII[J)I"⟩
abbrev cL_split : ByteArray := method_5_code
def yL_split : MethodName := ⟨RL, "split", "(LParcelledTable;II[J)I"⟩
abbrev cL_merge : ByteArray := method_6_code
def yL_merge : MethodName := ⟨RL, "merge", "(LParcelledTable;II[J)I"⟩
abbrev cL_detach : ByteArray := method_7_code
def yL_detach : MethodName := ⟨RL, "detach", "(LParcelledTable;I[J)I"⟩
abbrev cL_attach : ByteArray := method_8_code
def yL_attach : MethodName := ⟨RL, "attach", "(LParcelledTable;I[J)I"⟩
abbrev cL_exchange : ByteArray := method_9_code
def yL_exchange : MethodName := ⟨RL, "exchange", "(LParcelledTable;II[J)I"⟩
abbrev cL_insert : ByteArray := method_10_code
def yL_insert : MethodName := ⟨RL, "insert", "(LParcelledTable;III[J)I"⟩
abbrev cL_change : ByteArray := method_11_code
def yL_change : MethodName := ⟨RL, "change", "(LParcelledTable;III[J)I"⟩
abbrev cL_remove : ByteArray := method_12_code
def yL_remove : MethodName := ⟨RL, "remove", "(LParcelledTable;I[J)I"⟩
abbrev cL_stateOf : ByteArray := method_13_code
def yL_stateOf : MethodName := ⟨RL, "stateOf", "(LParcelledTable;I[J)I"⟩
abbrev cL_partOf : ByteArray := method_14_code
def yL_partOf : MethodName := ⟨RL, "partOf", "(LParcelledTable;I[J)I"⟩
abbrev cL_leafOf : ByteArray := method_15_code
def yL_leafOf : MethodName := ⟨RL, "leafOf", "(LParcelledTable;I[J)I"⟩
abbrev cL_rowsIn : ByteArray := method_16_code
def yL_rowsIn : MethodName := ⟨RL, "rowsIn", "(LParcelledTable;II[J)I"⟩
abbrev cL_count : ByteArray := method_17_code
def yL_count : MethodName := ⟨RL, "count", "(LParcelledTable;III[J)I"⟩
abbrev cL_countPlain : ByteArray := method_18_code
def yL_countPlain : MethodName := ⟨RL, "countPlain", "(LParcelledTable;III[J)I"⟩
abbrev cL_read : ByteArray := method_19_code
def yL_read : MethodName := ⟨RL, "read", "(LParcelledTable;III[J)I"⟩
abbrev cL_matters : ByteArray := method_20_code
def yL_matters : MethodName := ⟨RL, "matters", "(LParcelledTable;IIIII[J)I"⟩
abbrev cL_find : ByteArray := method_21_code
def yL_find : MethodName := ⟨RL, "find", "(LParcelledTable;I[J)I"⟩
abbrev cL_findIn : ByteArray := method_22_code
def yL_findIn : MethodName := ⟨RL, "findIn", "(LParcelledTable;II[J)I"⟩
abbrev cL_law : ByteArray := code
def yL_law : MethodName := ⟨RL, "law", "([I)Z"⟩
def wsX0_init : List Cond := .code yX0_init cX0_init 6 none :: ([.methodLink RX0 3 objectInit, .instanceMethod objectInit, .code objectInit ⟨#[0xb1]⟩ 1 none, .fieldLink RX0 9 "ParcelledTable$Part" "number" "I", .fieldLink RX0 15 "ParcelledTable$Part" "from" "I", .fieldLink RX0 18 "ParcelledTable$Part" "to" "I", .fieldLink RX0 21 "ParcelledTable$Part" "kind" "I", .fieldLink RX0 24 "ParcelledTable$Part" "detail" "I", .fieldLink RX0 27 "ParcelledTable$Part" "state" "I"] ++ wsX00)
def wsX0_covers : List Cond := .code yX0_covers cX0_covers 2 (some .boolean) :: ([.fieldLink RX0 15 "ParcelledTable$Part" "from" "I", .fieldLink RX0 18 "ParcelledTable$Part" "to" "I"] ++ wsX00)
def wsX0_overlaps : List Cond := .code yX0_overlaps cX0_overlaps 2 (some .boolean) :: ([.fieldLink RX0 15 "ParcelledTable$Part" "from" "I", .fieldLink RX0 18 "ParcelledTable$Part" "to" "I"] ++ wsX00)
def wsX0_leaves : List Cond := .code yX0_leaves cX0_leaves 1 (some .int) :: ([.fieldLink RX0 21 "ParcelledTable$Part" "kind" "I", .fieldLink RX0 24 "ParcelledTable$Part" "detail" "I"] ++ wsX00)
def wsX3_hasSort : List Cond := .code yX3_hasSort cX3_hasSort 2 (some .boolean) :: ([])
def wsX0_leafByHash : List Cond := .code yX0_leafByHash cX0_leafByHash 2 (some .int) :: ([.fieldLink RX0 24 "ParcelledTable$Part" "detail" "I"] ++ wsX00)
def wsX0_leafFor : List Cond := .code yX0_leafFor cX0_leafFor 3 (some .int) :: ([.fieldLink RX0 21 "ParcelledTable$Part" "kind" "I", .fieldLink RX0 24 "ParcelledTable$Part" "detail" "I", .static yX3_hasSort, .initialized RX3, .code yX3_hasSort cX3_hasSort 2 (some .boolean), .methodLink RX0 34 yX0_leafByHash, .instanceMethod yX0_leafByHash, .selects RX0 yX0_leafByHash yX0_leafByHash, .initialized RX0, .code yX0_leafByHash cX0_leafByHash 2 (some .int)] ++ wsX00)
def wsX0_sortsByList : List Cond := .code yX0_sortsByList cX0_sortsByList 2 (some .int) :: ([.fieldLink RX0 24 "ParcelledTable$Part" "detail" "I"] ++ wsX00)
def wsX0_hashReaches : List Cond := .code yX0_hashReaches cX0_hashReaches 6 (some .boolean) :: ([.fieldLink RX0 24 "ParcelledTable$Part" "detail" "I", .methodLink RX0 52 Lib.Math.min.name, .static Lib.Math.min.name, .initialized "java/lang/Math", .code Lib.Math.min.name Lib.Math.min.code 2 (some .int), .methodLink RX0 34 yX0_leafByHash, .instanceMethod yX0_leafByHash, .selects RX0 yX0_leafByHash yX0_leafByHash, .initialized RX0, .code yX0_leafByHash cX0_leafByHash 2 (some .int)] ++ wsX00)
def wsX0_mayHold_r1 : List Cond := [Cond.fieldLink RX0 15 "ParcelledTable$Part" "from" "I", Cond.fieldLink RX0 38 "ParcelledTable$Question" "low" "I", Cond.methodLink RX0 43 Lib.Math.max.name, Cond.static Lib.Math.max.name, Cond.initialized "java/lang/Math", Cond.code Lib.Math.max.name Lib.Math.max.code 2 (some .int), Cond.fieldLink RX0 18 "ParcelledTable$Part" "to" "I", Cond.fieldLink RX0 49 "ParcelledTable$Question" "high" "I", Cond.methodLink RX0 52 Lib.Math.min.name, Cond.static Lib.Math.min.name, Cond.code Lib.Math.min.name Lib.Math.min.code 2 (some .int), Cond.fieldLink RX0 21 "ParcelledTable$Part" "kind" "I", Cond.fieldLink RX0 55 "ParcelledTable$Question" "sorts" "I", Cond.methodLink RX0 58 yX0_sortsByList, Cond.instanceMethod yX0_sortsByList, Cond.selects RX0 yX0_sortsByList yX0_sortsByList, Cond.initialized RX0, Cond.code yX0_sortsByList cX0_sortsByList 2 (some .int), Cond.fieldLink RX0 24 "ParcelledTable$Part" "detail" "I", Cond.methodLink RX0 61 yX0_hashReaches, Cond.instanceMethod yX0_hashReaches, Cond.selects RX0 yX0_hashReaches yX0_hashReaches, Cond.code yX0_hashReaches cX0_hashReaches 6 (some .boolean), Cond.methodLink RX0 34 yX0_leafByHash]
def wsX0_mayHold_r2 : List Cond := [Cond.instanceMethod yX0_leafByHash, Cond.selects RX0 yX0_leafByHash yX0_leafByHash, Cond.code yX0_leafByHash cX0_leafByHash 2 (some .int)]
def wsX0_mayHold : List Cond := .code yX0_mayHold cX0_mayHold 5 (some .boolean) :: ((wsX0_mayHold_r1 ++ wsX0_mayHold_r2) ++ wsX00 ++ wsX10)
def wsX1_init : List Cond := .code yX1_init cX1_init 4 none :: ([.methodLink RX1 1 objectInit, .instanceMethod objectInit, .code objectInit ⟨#[0xb1]⟩ 1 none, .fieldLink RX1 7 "ParcelledTable$Question" "low" "I", .fieldLink RX1 13 "ParcelledTable$Question" "high" "I", .fieldLink RX1 16 "ParcelledTable$Question" "sorts" "I"] ++ wsX10)
def wsX2_init : List Cond := .code yX2_init cX2_init 5 none :: ([.methodLink RX2 3 objectInit, .instanceMethod objectInit, .code objectInit ⟨#[0xb1]⟩ 1 none, .fieldLink RX2 9 "ParcelledTable$Row" "key" "I", .fieldLink RX2 15 "ParcelledTable$Row" "sort" "I", .fieldLink RX2 18 "ParcelledTable$Row" "value" "I", .fieldLink RX2 21 "ParcelledTable$Row" "part" "LParcelledTable$Part;"] ++ wsX20)
def wsX2_isInTable : List Cond := .code yX2_isInTable cX2_isInTable 1 (some .boolean) :: ([.fieldLink RX2 21 "ParcelledTable$Row" "part" "LParcelledTable$Part;", .fieldLink RX2 25 "ParcelledTable$Part" "state" "I"] ++ wsX20 ++ wsX00)
def wsX2_liesIn : List Cond := .code yX2_liesIn cX2_liesIn 3 (some .boolean) :: ([.fieldLink RX2 21 "ParcelledTable$Row" "part" "LParcelledTable$Part;", .fieldLink RX2 9 "ParcelledTable$Row" "key" "I", .fieldLink RX2 15 "ParcelledTable$Row" "sort" "I", .methodLink RX2 30 yX0_leafFor, .instanceMethod yX0_leafFor, .selects RX0 yX0_leafFor yX0_leafFor, .initialized RX0, .code yX0_leafFor cX0_leafFor 3 (some .int), .fieldLink RX0 21 "ParcelledTable$Part" "kind" "I", .fieldLink RX0 24 "ParcelledTable$Part" "detail" "I", .static yX3_hasSort, .initialized RX3, .code yX3_hasSort cX3_hasSort 2 (some .boolean), .methodLink RX0 34 yX0_leafByHash, .instanceMethod yX0_leafByHash, .selects RX0 yX0_leafByHash yX0_leafByHash, .code yX0_leafByHash cX0_leafByHash 2 (some .int)] ++ wsX20 ++ wsX00)
def wsX2_fits : List Cond := .code yX2_fits cX2_fits 2 (some .boolean) :: ([.fieldLink RX2 9 "ParcelledTable$Row" "key" "I", .fieldLink RX2 34 "ParcelledTable$Question" "low" "I", .fieldLink RX2 39 "ParcelledTable$Question" "high" "I", .fieldLink RX2 42 "ParcelledTable$Question" "sorts" "I", .fieldLink RX2 15 "ParcelledTable$Row" "sort" "I", .static yX3_hasSort, .initialized RX3, .code yX3_hasSort cX3_hasSort 2 (some .boolean)] ++ wsX20 ++ wsX10)
def wsX2_place : List Cond := .code yX2_place cX2_place 1 (some .int) :: ([.fieldLink RX2 21 "ParcelledTable$Row" "part" "LParcelledTable$Part;", .fieldLink RX2 49 "ParcelledTable$Part" "number" "I", .fieldLink RX2 9 "ParcelledTable$Row" "key" "I", .fieldLink RX2 15 "ParcelledTable$Row" "sort" "I", .methodLink RX2 30 yX0_leafFor, .instanceMethod yX0_leafFor, .selects RX0 yX0_leafFor yX0_leafFor, .initialized RX0, .code yX0_leafFor cX0_leafFor 3 (some .int), .fieldLink RX0 21 "ParcelledTable$Part" "kind" "I", .fieldLink RX0 24 "ParcelledTable$Part" "detail" "I", .static yX3_hasSort, .initialized RX3, .code yX3_hasSort cX3_hasSort 2 (some .boolean), .methodLink RX0 34 yX0_leafByHash, .instanceMethod yX0_leafByHash, .selects RX0 yX0_leafByHash yX0_leafByHash, .code yX0_leafByHash cX0_leafByHash 2 (some .int)] ++ wsX20 ++ wsX00)
def wsX3_init : List Cond := .code yX3_init cX3_init 1 none :: ([.methodLink RX3 1 objectInit, .instanceMethod objectInit, .code objectInit ⟨#[0xb1]⟩ 1 none, .classLink RX3 7 RX0, .instantiable RX0 6, .initialized RX0, .fieldLink RX3 14 "ParcelledTable" "rest" "LParcelledTable$Part;", .fieldLink RX3 18 "ParcelledTable" "allParts" "[LParcelledTable$Part;", .classLink RX3 22 RX2, .fieldLink RX3 24 "ParcelledTable" "allRows" "[LParcelledTable$Row;", .methodLink RX3 11 yX0_init, .instanceMethod yX0_init, .code yX0_init cX0_init 6 none, .methodLink RX0 3 objectInit, .fieldLink RX0 9 "ParcelledTable$Part" "number" "I", .fieldLink RX0 15 "ParcelledTable$Part" "from" "I", .fieldLink RX0 18 "ParcelledTable$Part" "to" "I", .fieldLink RX0 21 "ParcelledTable$Part" "kind" "I", .fieldLink RX0 24 "ParcelledTable$Part" "detail" "I", .fieldLink RX0 27 "ParcelledTable$Part" "state" "I"] ++ wsX00 ++ wsX30)
def wsX3_checkKey : List Cond := .code yX3_checkKey cX3_checkKey 1 none :: ([.classLink RX3 64 "java/lang/IllegalArgumentException", .initialized "java/lang/IllegalArgumentException"] ++ (vx_atS RX3 68 "java/lang/IllegalArgumentException" ["java/lang/RuntimeException", "java/lang/Exception"]).filter goodWord)
def wsX3_checkRange : List Cond := .code yX3_checkRange cX3_checkRange 2 none :: ([.classLink RX3 64 "java/lang/IllegalArgumentException", .initialized "java/lang/IllegalArgumentException", .methodLink RX3 103 yX3_checkKey, .static yX3_checkKey, .initialized RX3, .code yX3_checkKey cX3_checkKey 1 none] ++ (vx_atS RX3 68 "java/lang/IllegalArgumentException" ["java/lang/RuntimeException", "java/lang/Exception"]).filter goodWord)
def wsX3_leastDetail : List Cond := .code yX3_leastDetail cX3_leastDetail 1 (some .int) :: ([])
def wsX3_mostDetail : List Cond := .code yX3_mostDetail cX3_mostDetail 1 (some .int) :: ([])
def wsX3_checkKind : List Cond := .code yX3_checkKind cX3_checkKind 2 none :: ([.classLink RX3 64 "java/lang/IllegalArgumentException", .initialized "java/lang/IllegalArgumentException", .methodLink RX3 199 yX3_leastDetail, .static yX3_leastDetail, .initialized RX3, .code yX3_leastDetail cX3_leastDetail 1 (some .int), .methodLink RX3 203 yX3_mostDetail, .static yX3_mostDetail, .code yX3_mostDetail cX3_mostDetail 1 (some .int)] ++ (vx_atS RX3 68 "java/lang/IllegalArgumentException" ["java/lang/RuntimeException", "java/lang/Exception"]).filter goodWord)
def wsX3_plannedPart_r1 : List Cond := [Cond.classLink RX3 7 RX0, Cond.instantiable RX0 6, Cond.initialized RX0, Cond.fieldLink RX3 144 "ParcelledTable" "partsMade" "I", Cond.methodLink RX3 251 yX3_checkRange, Cond.static yX3_checkRange, Cond.initialized RX3, Cond.code yX3_checkRange cX3_checkRange 2 none, Cond.classLink RX3 64 "java/lang/IllegalArgumentException", Cond.initialized "java/lang/IllegalArgumentException", Cond.methodLink RX3 103 yX3_checkKey, Cond.static yX3_checkKey, Cond.code yX3_checkKey cX3_checkKey 1 none, Cond.methodLink RX3 255 yX3_checkKind, Cond.static yX3_checkKind, Cond.code yX3_checkKind cX3_checkKind 2 none, Cond.methodLink RX3 199 yX3_leastDetail, Cond.static yX3_leastDetail, Cond.code yX3_leastDetail cX3_leastDetail 1 (some .int), Cond.methodLink RX3 203 yX3_mostDetail, Cond.static yX3_mostDetail, Cond.code yX3_mostDetail cX3_mostDetail 1 (some .int), Cond.methodLink RX3 11 yX0_init, Cond.instanceMethod yX0_init]
def wsX3_plannedPart_r2 : List Cond := [Cond.code yX0_init cX0_init 6 none, Cond.methodLink RX0 3 objectInit, Cond.instanceMethod objectInit, Cond.code objectInit ⟨#[0xb1]⟩ 1 none, Cond.fieldLink RX0 9 "ParcelledTable$Part" "number" "I", Cond.fieldLink RX0 15 "ParcelledTable$Part" "from" "I", Cond.fieldLink RX0 18 "ParcelledTable$Part" "to" "I", Cond.fieldLink RX0 21 "ParcelledTable$Part" "kind" "I", Cond.fieldLink RX0 24 "ParcelledTable$Part" "detail" "I", Cond.fieldLink RX0 27 "ParcelledTable$Part" "state" "I"]
def wsX3_plannedPart : List Cond := .code yX3_plannedPart cX3_plannedPart 5 (some (.object "ParcelledTable$Part")) :: ((wsX3_plannedPart_r1 ++ wsX3_plannedPart_r2) ++ wsX00 ++ wsX30 ++ (vx_atS RX3 68 "java/lang/IllegalArgumentException" ["java/lang/RuntimeException", "java/lang/Exception"]).filter goodWord)
def wsX3_refuseOverlap : List Cond := .code yX3_refuseOverlap cX3_refuseOverlap 6 none :: ([.classLink RX3 80 "java/lang/IllegalStateException", .initialized "java/lang/IllegalStateException", .fieldLink RX3 18 "ParcelledTable" "allParts" "[LParcelledTable$Part;", .fieldLink RX3 87 "ParcelledTable$Part" "state" "I", .methodLink RX3 237 yX0_overlaps, .instanceMethod yX0_overlaps, .selects RX0 yX0_overlaps yX0_overlaps, .initialized RX0, .code yX0_overlaps cX0_overlaps 2 (some .boolean), .fieldLink RX0 15 "ParcelledTable$Part" "from" "I", .fieldLink RX0 18 "ParcelledTable$Part" "to" "I"] ++ wsX30 ++ wsX00 ++ (vx_atS RX3 84 "java/lang/IllegalStateException" ["java/lang/RuntimeException", "java/lang/Exception"]).filter goodWord)
def wsX3_refuseRowsOfRest : List Cond := .code yX3_refuseRowsOfRest cX3_refuseRowsOfRest 6 none :: ([.classLink RX3 80 "java/lang/IllegalStateException", .initialized "java/lang/IllegalStateException", .fieldLink RX3 24 "ParcelledTable" "allRows" "[LParcelledTable$Row;", .fieldLink RX3 128 "ParcelledTable$Row" "part" "LParcelledTable$Part;", .fieldLink RX3 14 "ParcelledTable" "rest" "LParcelledTable$Part;", .fieldLink RX3 135 "ParcelledTable$Row" "key" "I", .methodLink RX3 243 yX0_covers, .instanceMethod yX0_covers, .selects RX0 yX0_covers yX0_covers, .initialized RX0, .code yX0_covers cX0_covers 2 (some .boolean), .fieldLink RX0 15 "ParcelledTable$Part" "from" "I", .fieldLink RX0 18 "ParcelledTable$Part" "to" "I"] ++ wsX30 ++ wsX20 ++ wsX00 ++ (vx_atS RX3 84 "java/lang/IllegalStateException" ["java/lang/RuntimeException", "java/lang/Exception"]).filter goodWord)
def wsX3_keepPart : List Cond := .code yX3_keepPart cX3_keepPart 2 none :: ([.classLink RX3 80 "java/lang/IllegalStateException", .initialized "java/lang/IllegalStateException", .fieldLink RX3 42 "ParcelledTable$Part" "number" "I", .fieldLink RX3 18 "ParcelledTable" "allParts" "[LParcelledTable$Part;", .fieldLink RX3 144 "ParcelledTable" "partsMade" "I"] ++ wsX00 ++ wsX30 ++ (vx_atS RX3 84 "java/lang/IllegalStateException" ["java/lang/RuntimeException", "java/lang/Exception"]).filter goodWord)
def wsX3_makePart_r1 : List Cond := [Cond.fieldLink RX3 42 "ParcelledTable$Part" "number" "I", Cond.methodLink RX3 28 yX3_plannedPart, Cond.instanceMethod yX3_plannedPart, Cond.selects RX3 yX3_plannedPart yX3_plannedPart, Cond.initialized RX3, Cond.code yX3_plannedPart cX3_plannedPart 5 (some (.object "ParcelledTable$Part")), Cond.classLink RX3 7 RX0, Cond.instantiable RX0 6, Cond.initialized RX0, Cond.fieldLink RX3 144 "ParcelledTable" "partsMade" "I", Cond.methodLink RX3 251 yX3_checkRange, Cond.static yX3_checkRange, Cond.code yX3_checkRange cX3_checkRange 2 none, Cond.classLink RX3 64 "java/lang/IllegalArgumentException", Cond.initialized "java/lang/IllegalArgumentException", Cond.methodLink RX3 103 yX3_checkKey, Cond.static yX3_checkKey, Cond.code yX3_checkKey cX3_checkKey 1 none, Cond.methodLink RX3 255 yX3_checkKind, Cond.static yX3_checkKind, Cond.code yX3_checkKind cX3_checkKind 2 none, Cond.methodLink RX3 199 yX3_leastDetail, Cond.static yX3_leastDetail, Cond.code yX3_leastDetail cX3_leastDetail 1 (some .int)]
def wsX3_makePart_r2 : List Cond := [Cond.methodLink RX3 203 yX3_mostDetail, Cond.static yX3_mostDetail, Cond.code yX3_mostDetail cX3_mostDetail 1 (some .int), Cond.methodLink RX3 11 yX0_init, Cond.instanceMethod yX0_init, Cond.code yX0_init cX0_init 6 none, Cond.methodLink RX0 3 objectInit, Cond.instanceMethod objectInit, Cond.code objectInit ⟨#[0xb1]⟩ 1 none, Cond.fieldLink RX0 9 "ParcelledTable$Part" "number" "I", Cond.fieldLink RX0 15 "ParcelledTable$Part" "from" "I", Cond.fieldLink RX0 18 "ParcelledTable$Part" "to" "I", Cond.fieldLink RX0 21 "ParcelledTable$Part" "kind" "I", Cond.fieldLink RX0 24 "ParcelledTable$Part" "detail" "I", Cond.fieldLink RX0 27 "ParcelledTable$Part" "state" "I", Cond.methodLink RX3 32 yX3_refuseOverlap, Cond.instanceMethod yX3_refuseOverlap, Cond.selects RX3 yX3_refuseOverlap yX3_refuseOverlap, Cond.code yX3_refuseOverlap cX3_refuseOverlap 6 none, Cond.classLink RX3 80 "java/lang/IllegalStateException", Cond.initialized "java/lang/IllegalStateException", Cond.fieldLink RX3 18 "ParcelledTable" "allParts" "[LParcelledTable$Part;", Cond.fieldLink RX3 87 "ParcelledTable$Part" "state" "I", Cond.methodLink RX3 237 yX0_overlaps]
def wsX3_makePart_r3 : List Cond := [Cond.instanceMethod yX0_overlaps, Cond.selects RX0 yX0_overlaps yX0_overlaps, Cond.code yX0_overlaps cX0_overlaps 2 (some .boolean), Cond.methodLink RX3 36 yX3_refuseRowsOfRest, Cond.instanceMethod yX3_refuseRowsOfRest, Cond.selects RX3 yX3_refuseRowsOfRest yX3_refuseRowsOfRest, Cond.code yX3_refuseRowsOfRest cX3_refuseRowsOfRest 6 none, Cond.fieldLink RX3 24 "ParcelledTable" "allRows" "[LParcelledTable$Row;", Cond.fieldLink RX3 128 "ParcelledTable$Row" "part" "LParcelledTable$Part;", Cond.fieldLink RX3 14 "ParcelledTable" "rest" "LParcelledTable$Part;", Cond.fieldLink RX3 135 "ParcelledTable$Row" "key" "I", Cond.methodLink RX3 243 yX0_covers, Cond.instanceMethod yX0_covers, Cond.selects RX0 yX0_covers yX0_covers, Cond.code yX0_covers cX0_covers 2 (some .boolean), Cond.methodLink RX3 39 yX3_keepPart, Cond.instanceMethod yX3_keepPart, Cond.selects RX3 yX3_keepPart yX3_keepPart, Cond.code yX3_keepPart cX3_keepPart 2 none]
def wsX3_makePart : List Cond := .code yX3_makePart cX3_makePart 6 (some .int) :: ((wsX3_makePart_r1 ++ (wsX3_makePart_r2 ++ wsX3_makePart_r3)) ++ wsX00 ++ wsX30 ++ wsX20 ++ (vx_atS RX3 68 "java/lang/IllegalArgumentException" ["java/lang/RuntimeException", "java/lang/Exception"]).filter goodWord ++ (vx_atS RX3 84 "java/lang/IllegalStateException" ["java/lang/RuntimeException", "java/lang/Exception"]).filter goodWord)
def wsX3_moveRows : List Cond := .code yX3_moveRows cX3_moveRows 7 none :: ([.fieldLink RX3 24 "ParcelledTable" "allRows" "[LParcelledTable$Row;", .fieldLink RX3 128 "ParcelledTable$Row" "part" "LParcelledTable$Part;", .fieldLink RX3 135 "ParcelledTable$Row" "key" "I", .methodLink RX3 243 yX0_covers, .instanceMethod yX0_covers, .selects RX0 yX0_covers yX0_covers, .initialized RX0, .code yX0_covers cX0_covers 2 (some .boolean), .fieldLink RX0 15 "ParcelledTable$Part" "from" "I", .fieldLink RX0 18 "ParcelledTable$Part" "to" "I"] ++ wsX30 ++ wsX20 ++ wsX00)
def wsX3_rowsOf : List Cond := .code yX3_rowsOf cX3_rowsOf 7 (some .int) :: ([.fieldLink RX3 24 "ParcelledTable" "allRows" "[LParcelledTable$Row;", .fieldLink RX3 128 "ParcelledTable$Row" "part" "LParcelledTable$Part;"] ++ wsX30 ++ wsX20)
def wsX3_carveOut_r1 : List Cond := [Cond.fieldLink RX3 14 "ParcelledTable" "rest" "LParcelledTable$Part;", Cond.methodLink RX3 28 yX3_plannedPart, Cond.instanceMethod yX3_plannedPart, Cond.selects RX3 yX3_plannedPart yX3_plannedPart, Cond.initialized RX3, Cond.code yX3_plannedPart cX3_plannedPart 5 (some (.object "ParcelledTable$Part")), Cond.classLink RX3 7 RX0, Cond.instantiable RX0 6, Cond.initialized RX0, Cond.fieldLink RX3 144 "ParcelledTable" "partsMade" "I", Cond.methodLink RX3 251 yX3_checkRange, Cond.static yX3_checkRange, Cond.code yX3_checkRange cX3_checkRange 2 none, Cond.classLink RX3 64 "java/lang/IllegalArgumentException", Cond.initialized "java/lang/IllegalArgumentException", Cond.methodLink RX3 103 yX3_checkKey, Cond.static yX3_checkKey, Cond.code yX3_checkKey cX3_checkKey 1 none, Cond.methodLink RX3 255 yX3_checkKind, Cond.static yX3_checkKind, Cond.code yX3_checkKind cX3_checkKind 2 none, Cond.methodLink RX3 199 yX3_leastDetail, Cond.static yX3_leastDetail, Cond.code yX3_leastDetail cX3_leastDetail 1 (some .int)]
def wsX3_carveOut_r2 : List Cond := [Cond.methodLink RX3 203 yX3_mostDetail, Cond.static yX3_mostDetail, Cond.code yX3_mostDetail cX3_mostDetail 1 (some .int), Cond.methodLink RX3 11 yX0_init, Cond.instanceMethod yX0_init, Cond.code yX0_init cX0_init 6 none, Cond.methodLink RX0 3 objectInit, Cond.instanceMethod objectInit, Cond.code objectInit ⟨#[0xb1]⟩ 1 none, Cond.fieldLink RX0 9 "ParcelledTable$Part" "number" "I", Cond.fieldLink RX0 15 "ParcelledTable$Part" "from" "I", Cond.fieldLink RX0 18 "ParcelledTable$Part" "to" "I", Cond.fieldLink RX0 21 "ParcelledTable$Part" "kind" "I", Cond.fieldLink RX0 24 "ParcelledTable$Part" "detail" "I", Cond.fieldLink RX0 27 "ParcelledTable$Part" "state" "I", Cond.methodLink RX3 32 yX3_refuseOverlap, Cond.instanceMethod yX3_refuseOverlap, Cond.selects RX3 yX3_refuseOverlap yX3_refuseOverlap, Cond.code yX3_refuseOverlap cX3_refuseOverlap 6 none, Cond.classLink RX3 80 "java/lang/IllegalStateException", Cond.initialized "java/lang/IllegalStateException", Cond.fieldLink RX3 18 "ParcelledTable" "allParts" "[LParcelledTable$Part;", Cond.fieldLink RX3 87 "ParcelledTable$Part" "state" "I", Cond.methodLink RX3 237 yX0_overlaps]
def wsX3_carveOut_r3 : List Cond := [Cond.instanceMethod yX0_overlaps, Cond.selects RX0 yX0_overlaps yX0_overlaps, Cond.code yX0_overlaps cX0_overlaps 2 (some .boolean), Cond.methodLink RX3 39 yX3_keepPart, Cond.instanceMethod yX3_keepPart, Cond.selects RX3 yX3_keepPart yX3_keepPart, Cond.code yX3_keepPart cX3_keepPart 2 none, Cond.fieldLink RX3 42 "ParcelledTable$Part" "number" "I", Cond.methodLink RX3 46 yX3_moveRows, Cond.instanceMethod yX3_moveRows, Cond.selects RX3 yX3_moveRows yX3_moveRows, Cond.code yX3_moveRows cX3_moveRows 7 none, Cond.fieldLink RX3 24 "ParcelledTable" "allRows" "[LParcelledTable$Row;", Cond.fieldLink RX3 128 "ParcelledTable$Row" "part" "LParcelledTable$Part;", Cond.fieldLink RX3 135 "ParcelledTable$Row" "key" "I", Cond.methodLink RX3 243 yX0_covers, Cond.instanceMethod yX0_covers, Cond.selects RX0 yX0_covers yX0_covers, Cond.code yX0_covers cX0_covers 2 (some .boolean), Cond.methodLink RX3 50 yX3_rowsOf, Cond.instanceMethod yX3_rowsOf, Cond.selects RX3 yX3_rowsOf yX3_rowsOf, Cond.code yX3_rowsOf cX3_rowsOf 7 (some .int)]
def wsX3_carveOut : List Cond := .code yX3_carveOut cX3_carveOut 6 (some .int) :: ((wsX3_carveOut_r1 ++ (wsX3_carveOut_r2 ++ wsX3_carveOut_r3)) ++ wsX30 ++ wsX00 ++ wsX20 ++ (vx_atS RX3 68 "java/lang/IllegalArgumentException" ["java/lang/RuntimeException", "java/lang/Exception"]).filter goodWord ++ (vx_atS RX3 84 "java/lang/IllegalStateException" ["java/lang/RuntimeException", "java/lang/Exception"]).filter goodWord)
def wsX3_knownPart : List Cond := .code yX3_knownPart cX3_knownPart 3 (some (.object "ParcelledTable$Part")) :: ([.classLink RX3 217 "java/lang/IndexOutOfBoundsException", .initialized "java/lang/IndexOutOfBoundsException", .fieldLink RX3 18 "ParcelledTable" "allParts" "[LParcelledTable$Part;"] ++ wsX30 ++ (vx_atS RX3 221 "java/lang/IndexOutOfBoundsException" ["java/lang/RuntimeException", "java/lang/Exception"]).filter goodWord)
def wsX3_livingPart : List Cond := .code yX3_livingPart cX3_livingPart 3 (some (.object "ParcelledTable$Part")) :: ([.classLink RX3 217 "java/lang/IndexOutOfBoundsException", .initialized "java/lang/IndexOutOfBoundsException", .fieldLink RX3 87 "ParcelledTable$Part" "state" "I", .methodLink RX3 147 yX3_knownPart, .instanceMethod yX3_knownPart, .selects RX3 yX3_knownPart yX3_knownPart, .initialized RX3, .code yX3_knownPart cX3_knownPart 3 (some (.object "ParcelledTable$Part")), .fieldLink RX3 18 "ParcelledTable" "allParts" "[LParcelledTable$Part;"] ++ wsX00 ++ wsX30 ++ (vx_atS RX3 221 "java/lang/IndexOutOfBoundsException" ["java/lang/RuntimeException", "java/lang/Exception"]).filter goodWord)
def wsX3_livingPartWithRange : List Cond := .code yX3_livingPartWithRange cX3_livingPartWithRange 3 (some (.object "ParcelledTable$Part")) :: ([.classLink RX3 217 "java/lang/IndexOutOfBoundsException", .initialized "java/lang/IndexOutOfBoundsException", .fieldLink RX3 14 "ParcelledTable" "rest" "LParcelledTable$Part;", .methodLink RX3 186 yX3_livingPart, .instanceMethod yX3_livingPart, .selects RX3 yX3_livingPart yX3_livingPart, .initialized RX3, .code yX3_livingPart cX3_livingPart 3 (some (.object "ParcelledTable$Part")), .fieldLink RX3 87 "ParcelledTable$Part" "state" "I", .methodLink RX3 147 yX3_knownPart, .instanceMethod yX3_knownPart, .selects RX3 yX3_knownPart yX3_knownPart, .code yX3_knownPart cX3_knownPart 3 (some (.object "ParcelledTable$Part")), .fieldLink RX3 18 "ParcelledTable" "allParts" "[LParcelledTable$Part;"] ++ wsX30 ++ wsX00 ++ (vx_atS RX3 221 "java/lang/IndexOutOfBoundsException" ["java/lang/RuntimeException", "java/lang/Exception"]).filter goodWord)
def wsX3_refuseUnlessAttached : List Cond := .code yX3_refuseUnlessAttached cX3_refuseUnlessAttached 1 none :: ([.classLink RX3 80 "java/lang/IllegalStateException", .initialized "java/lang/IllegalStateException", .fieldLink RX3 87 "ParcelledTable$Part" "state" "I"] ++ wsX00 ++ (vx_atS RX3 84 "java/lang/IllegalStateException" ["java/lang/RuntimeException", "java/lang/Exception"]).filter goodWord)
def wsX3_split_r1 : List Cond := [Cond.classLink RX3 64 "java/lang/IllegalArgumentException", Cond.initialized "java/lang/IllegalArgumentException", Cond.fieldLink RX3 58 "ParcelledTable$Part" "from" "I", Cond.fieldLink RX3 61 "ParcelledTable$Part" "to" "I", Cond.fieldLink RX3 74 "ParcelledTable$Part" "kind" "I", Cond.fieldLink RX3 77 "ParcelledTable$Part" "detail" "I", Cond.fieldLink RX3 42 "ParcelledTable$Part" "number" "I", Cond.methodLink RX3 54 yX3_livingPartWithRange, Cond.instanceMethod yX3_livingPartWithRange, Cond.selects RX3 yX3_livingPartWithRange yX3_livingPartWithRange, Cond.initialized RX3, Cond.code yX3_livingPartWithRange cX3_livingPartWithRange 3 (some (.object "ParcelledTable$Part")), Cond.classLink RX3 217 "java/lang/IndexOutOfBoundsException", Cond.initialized "java/lang/IndexOutOfBoundsException", Cond.fieldLink RX3 14 "ParcelledTable" "rest" "LParcelledTable$Part;", Cond.methodLink RX3 186 yX3_livingPart, Cond.instanceMethod yX3_livingPart, Cond.selects RX3 yX3_livingPart yX3_livingPart, Cond.code yX3_livingPart cX3_livingPart 3 (some (.object "ParcelledTable$Part")), Cond.fieldLink RX3 87 "ParcelledTable$Part" "state" "I", Cond.methodLink RX3 147 yX3_knownPart, Cond.instanceMethod yX3_knownPart, Cond.selects RX3 yX3_knownPart yX3_knownPart, Cond.code yX3_knownPart cX3_knownPart 3 (some (.object "ParcelledTable$Part"))]
def wsX3_split_r2 : List Cond := [Cond.fieldLink RX3 18 "ParcelledTable" "allParts" "[LParcelledTable$Part;", Cond.methodLink RX3 71 yX3_refuseUnlessAttached, Cond.static yX3_refuseUnlessAttached, Cond.code yX3_refuseUnlessAttached cX3_refuseUnlessAttached 1 none, Cond.classLink RX3 80 "java/lang/IllegalStateException", Cond.initialized "java/lang/IllegalStateException", Cond.methodLink RX3 28 yX3_plannedPart, Cond.instanceMethod yX3_plannedPart, Cond.selects RX3 yX3_plannedPart yX3_plannedPart, Cond.code yX3_plannedPart cX3_plannedPart 5 (some (.object "ParcelledTable$Part")), Cond.classLink RX3 7 RX0, Cond.instantiable RX0 6, Cond.initialized RX0, Cond.fieldLink RX3 144 "ParcelledTable" "partsMade" "I", Cond.methodLink RX3 251 yX3_checkRange, Cond.static yX3_checkRange, Cond.code yX3_checkRange cX3_checkRange 2 none, Cond.methodLink RX3 103 yX3_checkKey, Cond.static yX3_checkKey, Cond.code yX3_checkKey cX3_checkKey 1 none, Cond.methodLink RX3 255 yX3_checkKind, Cond.static yX3_checkKind, Cond.code yX3_checkKind cX3_checkKind 2 none, Cond.methodLink RX3 199 yX3_leastDetail]
def wsX3_split_r3 : List Cond := [Cond.static yX3_leastDetail, Cond.code yX3_leastDetail cX3_leastDetail 1 (some .int), Cond.methodLink RX3 203 yX3_mostDetail, Cond.static yX3_mostDetail, Cond.code yX3_mostDetail cX3_mostDetail 1 (some .int), Cond.methodLink RX3 11 yX0_init, Cond.instanceMethod yX0_init, Cond.code yX0_init cX0_init 6 none, Cond.methodLink RX0 3 objectInit, Cond.instanceMethod objectInit, Cond.code objectInit ⟨#[0xb1]⟩ 1 none, Cond.fieldLink RX0 9 "ParcelledTable$Part" "number" "I", Cond.fieldLink RX0 15 "ParcelledTable$Part" "from" "I", Cond.fieldLink RX0 18 "ParcelledTable$Part" "to" "I", Cond.fieldLink RX0 21 "ParcelledTable$Part" "kind" "I", Cond.fieldLink RX0 24 "ParcelledTable$Part" "detail" "I", Cond.fieldLink RX0 27 "ParcelledTable$Part" "state" "I", Cond.methodLink RX3 39 yX3_keepPart, Cond.instanceMethod yX3_keepPart, Cond.selects RX3 yX3_keepPart yX3_keepPart, Cond.code yX3_keepPart cX3_keepPart 2 none, Cond.methodLink RX3 46 yX3_moveRows, Cond.instanceMethod yX3_moveRows, Cond.selects RX3 yX3_moveRows yX3_moveRows]
def wsX3_split_r4 : List Cond := [Cond.code yX3_moveRows cX3_moveRows 7 none, Cond.fieldLink RX3 24 "ParcelledTable" "allRows" "[LParcelledTable$Row;", Cond.fieldLink RX3 128 "ParcelledTable$Row" "part" "LParcelledTable$Part;", Cond.fieldLink RX3 135 "ParcelledTable$Row" "key" "I", Cond.methodLink RX3 243 yX0_covers, Cond.instanceMethod yX0_covers, Cond.selects RX0 yX0_covers yX0_covers, Cond.code yX0_covers cX0_covers 2 (some .boolean)]
def wsX3_split : List Cond := .code yX3_split cX3_split 5 (some .int) :: ((wsX3_split_r1 ++ (wsX3_split_r2 ++ (wsX3_split_r3 ++ wsX3_split_r4))) ++ wsX00 ++ wsX30 ++ wsX20 ++ (vx_atS RX3 68 "java/lang/IllegalArgumentException" ["java/lang/RuntimeException", "java/lang/Exception"]).filter goodWord ++ (vx_atS RX3 221 "java/lang/IndexOutOfBoundsException" ["java/lang/RuntimeException", "java/lang/Exception"]).filter goodWord ++ (vx_atS RX3 84 "java/lang/IllegalStateException" ["java/lang/RuntimeException", "java/lang/Exception"]).filter goodWord)
def wsX3_merge_r1 : List Cond := [Cond.classLink RX3 80 "java/lang/IllegalStateException", Cond.initialized "java/lang/IllegalStateException", Cond.fieldLink RX3 58 "ParcelledTable$Part" "from" "I", Cond.fieldLink RX3 61 "ParcelledTable$Part" "to" "I", Cond.fieldLink RX3 74 "ParcelledTable$Part" "kind" "I", Cond.fieldLink RX3 77 "ParcelledTable$Part" "detail" "I", Cond.fieldLink RX3 87 "ParcelledTable$Part" "state" "I", Cond.methodLink RX3 54 yX3_livingPartWithRange, Cond.instanceMethod yX3_livingPartWithRange, Cond.selects RX3 yX3_livingPartWithRange yX3_livingPartWithRange, Cond.initialized RX3, Cond.code yX3_livingPartWithRange cX3_livingPartWithRange 3 (some (.object "ParcelledTable$Part")), Cond.classLink RX3 217 "java/lang/IndexOutOfBoundsException", Cond.initialized "java/lang/IndexOutOfBoundsException", Cond.fieldLink RX3 14 "ParcelledTable" "rest" "LParcelledTable$Part;", Cond.methodLink RX3 186 yX3_livingPart, Cond.instanceMethod yX3_livingPart, Cond.selects RX3 yX3_livingPart yX3_livingPart, Cond.code yX3_livingPart cX3_livingPart 3 (some (.object "ParcelledTable$Part")), Cond.methodLink RX3 147 yX3_knownPart, Cond.instanceMethod yX3_knownPart, Cond.selects RX3 yX3_knownPart yX3_knownPart, Cond.code yX3_knownPart cX3_knownPart 3 (some (.object "ParcelledTable$Part")), Cond.fieldLink RX3 18 "ParcelledTable" "allParts" "[LParcelledTable$Part;"]
def wsX3_merge_r2 : List Cond := [Cond.methodLink RX3 71 yX3_refuseUnlessAttached, Cond.static yX3_refuseUnlessAttached, Cond.code yX3_refuseUnlessAttached cX3_refuseUnlessAttached 1 none, Cond.methodLink RX3 46 yX3_moveRows, Cond.instanceMethod yX3_moveRows, Cond.selects RX3 yX3_moveRows yX3_moveRows, Cond.code yX3_moveRows cX3_moveRows 7 none, Cond.fieldLink RX3 24 "ParcelledTable" "allRows" "[LParcelledTable$Row;", Cond.fieldLink RX3 128 "ParcelledTable$Row" "part" "LParcelledTable$Part;", Cond.fieldLink RX3 135 "ParcelledTable$Row" "key" "I", Cond.methodLink RX3 243 yX0_covers, Cond.instanceMethod yX0_covers, Cond.selects RX0 yX0_covers yX0_covers, Cond.initialized RX0, Cond.code yX0_covers cX0_covers 2 (some .boolean), Cond.fieldLink RX0 15 "ParcelledTable$Part" "from" "I", Cond.fieldLink RX0 18 "ParcelledTable$Part" "to" "I", Cond.methodLink RX3 50 yX3_rowsOf, Cond.instanceMethod yX3_rowsOf, Cond.selects RX3 yX3_rowsOf yX3_rowsOf, Cond.code yX3_rowsOf cX3_rowsOf 7 (some .int)]
def wsX3_merge : List Cond := .code yX3_merge cX3_merge 5 (some .int) :: ((wsX3_merge_r1 ++ wsX3_merge_r2) ++ wsX00 ++ wsX30 ++ wsX20 ++ (vx_atS RX3 84 "java/lang/IllegalStateException" ["java/lang/RuntimeException", "java/lang/Exception"]).filter goodWord ++ (vx_atS RX3 221 "java/lang/IndexOutOfBoundsException" ["java/lang/RuntimeException", "java/lang/Exception"]).filter goodWord)
def wsX3_detach_r1 : List Cond := [Cond.fieldLink RX3 87 "ParcelledTable$Part" "state" "I", Cond.fieldLink RX3 90 "ParcelledTable" "stale" "Z", Cond.methodLink RX3 54 yX3_livingPartWithRange, Cond.instanceMethod yX3_livingPartWithRange, Cond.selects RX3 yX3_livingPartWithRange yX3_livingPartWithRange, Cond.initialized RX3, Cond.code yX3_livingPartWithRange cX3_livingPartWithRange 3 (some (.object "ParcelledTable$Part")), Cond.classLink RX3 217 "java/lang/IndexOutOfBoundsException", Cond.initialized "java/lang/IndexOutOfBoundsException", Cond.fieldLink RX3 14 "ParcelledTable" "rest" "LParcelledTable$Part;", Cond.methodLink RX3 186 yX3_livingPart, Cond.instanceMethod yX3_livingPart, Cond.selects RX3 yX3_livingPart yX3_livingPart, Cond.code yX3_livingPart cX3_livingPart 3 (some (.object "ParcelledTable$Part")), Cond.methodLink RX3 147 yX3_knownPart, Cond.instanceMethod yX3_knownPart, Cond.selects RX3 yX3_knownPart yX3_knownPart, Cond.code yX3_knownPart cX3_knownPart 3 (some (.object "ParcelledTable$Part")), Cond.fieldLink RX3 18 "ParcelledTable" "allParts" "[LParcelledTable$Part;", Cond.methodLink RX3 71 yX3_refuseUnlessAttached, Cond.static yX3_refuseUnlessAttached, Cond.code yX3_refuseUnlessAttached cX3_refuseUnlessAttached 1 none, Cond.classLink RX3 80 "java/lang/IllegalStateException", Cond.initialized "java/lang/IllegalStateException"]
def wsX3_detach_r2 : List Cond := [Cond.methodLink RX3 50 yX3_rowsOf, Cond.instanceMethod yX3_rowsOf, Cond.selects RX3 yX3_rowsOf yX3_rowsOf, Cond.code yX3_rowsOf cX3_rowsOf 7 (some .int), Cond.fieldLink RX3 24 "ParcelledTable" "allRows" "[LParcelledTable$Row;", Cond.fieldLink RX3 128 "ParcelledTable$Row" "part" "LParcelledTable$Part;"]
def wsX3_detach : List Cond := .code yX3_detach cX3_detach 3 (some .int) :: ((wsX3_detach_r1 ++ wsX3_detach_r2) ++ wsX00 ++ wsX30 ++ wsX20 ++ (vx_atS RX3 221 "java/lang/IndexOutOfBoundsException" ["java/lang/RuntimeException", "java/lang/Exception"]).filter goodWord ++ (vx_atS RX3 84 "java/lang/IllegalStateException" ["java/lang/RuntimeException", "java/lang/Exception"]).filter goodWord)
def wsX3_refuseUnlessDetached : List Cond := .code yX3_refuseUnlessDetached cX3_refuseUnlessDetached 1 none :: ([.classLink RX3 80 "java/lang/IllegalStateException", .initialized "java/lang/IllegalStateException", .fieldLink RX3 87 "ParcelledTable$Part" "state" "I"] ++ wsX00 ++ (vx_atS RX3 84 "java/lang/IllegalStateException" ["java/lang/RuntimeException", "java/lang/Exception"]).filter goodWord)
def wsX3_attach_r1 : List Cond := [Cond.fieldLink RX3 87 "ParcelledTable$Part" "state" "I", Cond.fieldLink RX3 90 "ParcelledTable" "stale" "Z", Cond.methodLink RX3 54 yX3_livingPartWithRange, Cond.instanceMethod yX3_livingPartWithRange, Cond.selects RX3 yX3_livingPartWithRange yX3_livingPartWithRange, Cond.initialized RX3, Cond.code yX3_livingPartWithRange cX3_livingPartWithRange 3 (some (.object "ParcelledTable$Part")), Cond.classLink RX3 217 "java/lang/IndexOutOfBoundsException", Cond.initialized "java/lang/IndexOutOfBoundsException", Cond.fieldLink RX3 14 "ParcelledTable" "rest" "LParcelledTable$Part;", Cond.methodLink RX3 186 yX3_livingPart, Cond.instanceMethod yX3_livingPart, Cond.selects RX3 yX3_livingPart yX3_livingPart, Cond.code yX3_livingPart cX3_livingPart 3 (some (.object "ParcelledTable$Part")), Cond.methodLink RX3 147 yX3_knownPart, Cond.instanceMethod yX3_knownPart, Cond.selects RX3 yX3_knownPart yX3_knownPart, Cond.code yX3_knownPart cX3_knownPart 3 (some (.object "ParcelledTable$Part")), Cond.fieldLink RX3 18 "ParcelledTable" "allParts" "[LParcelledTable$Part;", Cond.methodLink RX3 94 yX3_refuseUnlessDetached, Cond.static yX3_refuseUnlessDetached, Cond.code yX3_refuseUnlessDetached cX3_refuseUnlessDetached 1 none, Cond.classLink RX3 80 "java/lang/IllegalStateException", Cond.initialized "java/lang/IllegalStateException"]
def wsX3_attach_r2 : List Cond := [Cond.methodLink RX3 32 yX3_refuseOverlap, Cond.instanceMethod yX3_refuseOverlap, Cond.selects RX3 yX3_refuseOverlap yX3_refuseOverlap, Cond.code yX3_refuseOverlap cX3_refuseOverlap 6 none, Cond.methodLink RX3 237 yX0_overlaps, Cond.instanceMethod yX0_overlaps, Cond.selects RX0 yX0_overlaps yX0_overlaps, Cond.initialized RX0, Cond.code yX0_overlaps cX0_overlaps 2 (some .boolean), Cond.fieldLink RX0 15 "ParcelledTable$Part" "from" "I", Cond.fieldLink RX0 18 "ParcelledTable$Part" "to" "I", Cond.methodLink RX3 36 yX3_refuseRowsOfRest, Cond.instanceMethod yX3_refuseRowsOfRest, Cond.selects RX3 yX3_refuseRowsOfRest yX3_refuseRowsOfRest, Cond.code yX3_refuseRowsOfRest cX3_refuseRowsOfRest 6 none, Cond.fieldLink RX3 24 "ParcelledTable" "allRows" "[LParcelledTable$Row;", Cond.fieldLink RX3 128 "ParcelledTable$Row" "part" "LParcelledTable$Part;", Cond.fieldLink RX3 135 "ParcelledTable$Row" "key" "I", Cond.methodLink RX3 243 yX0_covers, Cond.instanceMethod yX0_covers, Cond.selects RX0 yX0_covers yX0_covers, Cond.code yX0_covers cX0_covers 2 (some .boolean), Cond.methodLink RX3 50 yX3_rowsOf, Cond.instanceMethod yX3_rowsOf]
def wsX3_attach_r3 : List Cond := [Cond.selects RX3 yX3_rowsOf yX3_rowsOf, Cond.code yX3_rowsOf cX3_rowsOf 7 (some .int)]
def wsX3_attach : List Cond := .code yX3_attach cX3_attach 3 (some .int) :: ((wsX3_attach_r1 ++ (wsX3_attach_r2 ++ wsX3_attach_r3)) ++ wsX00 ++ wsX30 ++ wsX20 ++ (vx_atS RX3 221 "java/lang/IndexOutOfBoundsException" ["java/lang/RuntimeException", "java/lang/Exception"]).filter goodWord ++ (vx_atS RX3 84 "java/lang/IllegalStateException" ["java/lang/RuntimeException", "java/lang/Exception"]).filter goodWord)
def wsX3_refuseForeignRows : List Cond := .code yX3_refuseForeignRows cX3_refuseForeignRows 7 none :: ([.classLink RX3 80 "java/lang/IllegalStateException", .initialized "java/lang/IllegalStateException", .fieldLink RX3 24 "ParcelledTable" "allRows" "[LParcelledTable$Row;", .fieldLink RX3 128 "ParcelledTable$Row" "part" "LParcelledTable$Part;", .fieldLink RX3 135 "ParcelledTable$Row" "key" "I", .methodLink RX3 243 yX0_covers, .instanceMethod yX0_covers, .selects RX0 yX0_covers yX0_covers, .initialized RX0, .code yX0_covers cX0_covers 2 (some .boolean), .fieldLink RX0 15 "ParcelledTable$Part" "from" "I", .fieldLink RX0 18 "ParcelledTable$Part" "to" "I"] ++ wsX30 ++ wsX20 ++ wsX00 ++ (vx_atS RX3 84 "java/lang/IllegalStateException" ["java/lang/RuntimeException", "java/lang/Exception"]).filter goodWord)
def wsX3_swapRows : List Cond := .code yX3_swapRows cX3_swapRows 7 none :: ([.fieldLink RX3 24 "ParcelledTable" "allRows" "[LParcelledTable$Row;", .fieldLink RX3 128 "ParcelledTable$Row" "part" "LParcelledTable$Part;"] ++ wsX30 ++ wsX20)
def wsX3_exchange_r1 : List Cond := [Cond.fieldLink RX3 90 "ParcelledTable" "stale" "Z", Cond.methodLink RX3 54 yX3_livingPartWithRange, Cond.instanceMethod yX3_livingPartWithRange, Cond.selects RX3 yX3_livingPartWithRange yX3_livingPartWithRange, Cond.initialized RX3, Cond.code yX3_livingPartWithRange cX3_livingPartWithRange 3 (some (.object "ParcelledTable$Part")), Cond.classLink RX3 217 "java/lang/IndexOutOfBoundsException", Cond.initialized "java/lang/IndexOutOfBoundsException", Cond.fieldLink RX3 14 "ParcelledTable" "rest" "LParcelledTable$Part;", Cond.methodLink RX3 186 yX3_livingPart, Cond.instanceMethod yX3_livingPart, Cond.selects RX3 yX3_livingPart yX3_livingPart, Cond.code yX3_livingPart cX3_livingPart 3 (some (.object "ParcelledTable$Part")), Cond.fieldLink RX3 87 "ParcelledTable$Part" "state" "I", Cond.methodLink RX3 147 yX3_knownPart, Cond.instanceMethod yX3_knownPart, Cond.selects RX3 yX3_knownPart yX3_knownPart, Cond.code yX3_knownPart cX3_knownPart 3 (some (.object "ParcelledTable$Part")), Cond.fieldLink RX3 18 "ParcelledTable" "allParts" "[LParcelledTable$Part;", Cond.methodLink RX3 71 yX3_refuseUnlessAttached, Cond.static yX3_refuseUnlessAttached, Cond.code yX3_refuseUnlessAttached cX3_refuseUnlessAttached 1 none, Cond.classLink RX3 80 "java/lang/IllegalStateException", Cond.initialized "java/lang/IllegalStateException"]
def wsX3_exchange_r2 : List Cond := [Cond.methodLink RX3 94 yX3_refuseUnlessDetached, Cond.static yX3_refuseUnlessDetached, Cond.code yX3_refuseUnlessDetached cX3_refuseUnlessDetached 1 none, Cond.methodLink RX3 97 yX3_refuseForeignRows, Cond.instanceMethod yX3_refuseForeignRows, Cond.selects RX3 yX3_refuseForeignRows yX3_refuseForeignRows, Cond.code yX3_refuseForeignRows cX3_refuseForeignRows 7 none, Cond.fieldLink RX3 24 "ParcelledTable" "allRows" "[LParcelledTable$Row;", Cond.fieldLink RX3 128 "ParcelledTable$Row" "part" "LParcelledTable$Part;", Cond.fieldLink RX3 135 "ParcelledTable$Row" "key" "I", Cond.methodLink RX3 243 yX0_covers, Cond.instanceMethod yX0_covers, Cond.selects RX0 yX0_covers yX0_covers, Cond.initialized RX0, Cond.code yX0_covers cX0_covers 2 (some .boolean), Cond.fieldLink RX0 15 "ParcelledTable$Part" "from" "I", Cond.fieldLink RX0 18 "ParcelledTable$Part" "to" "I", Cond.methodLink RX3 100 yX3_swapRows, Cond.instanceMethod yX3_swapRows, Cond.selects RX3 yX3_swapRows yX3_swapRows, Cond.code yX3_swapRows cX3_swapRows 7 none, Cond.methodLink RX3 50 yX3_rowsOf, Cond.instanceMethod yX3_rowsOf, Cond.selects RX3 yX3_rowsOf yX3_rowsOf]
def wsX3_exchange_r3 : List Cond := [Cond.code yX3_rowsOf cX3_rowsOf 7 (some .int)]
def wsX3_exchange : List Cond := .code yX3_exchange cX3_exchange 5 (some .int) :: ((wsX3_exchange_r1 ++ (wsX3_exchange_r2 ++ wsX3_exchange_r3)) ++ wsX30 ++ wsX00 ++ wsX20 ++ (vx_atS RX3 221 "java/lang/IndexOutOfBoundsException" ["java/lang/RuntimeException", "java/lang/Exception"]).filter goodWord ++ (vx_atS RX3 84 "java/lang/IllegalStateException" ["java/lang/RuntimeException", "java/lang/Exception"]).filter goodWord)
def wsX3_checkSort : List Cond := .code yX3_checkSort cX3_checkSort 1 none :: ([.classLink RX3 64 "java/lang/IllegalArgumentException", .initialized "java/lang/IllegalArgumentException"] ++ (vx_atS RX3 68 "java/lang/IllegalArgumentException" ["java/lang/RuntimeException", "java/lang/Exception"]).filter goodWord)
def wsX3_checkValue : List Cond := .code yX3_checkValue cX3_checkValue 1 none :: ([.classLink RX3 64 "java/lang/IllegalArgumentException", .initialized "java/lang/IllegalArgumentException"] ++ (vx_atS RX3 68 "java/lang/IllegalArgumentException" ["java/lang/RuntimeException", "java/lang/Exception"]).filter goodWord)
def wsX3_holderOf : List Cond := .code yX3_holderOf cX3_holderOf 6 (some (.object "ParcelledTable$Part")) :: ([.fieldLink RX3 18 "ParcelledTable" "allParts" "[LParcelledTable$Part;", .fieldLink RX3 87 "ParcelledTable$Part" "state" "I", .fieldLink RX3 14 "ParcelledTable" "rest" "LParcelledTable$Part;", .methodLink RX3 243 yX0_covers, .instanceMethod yX0_covers, .selects RX0 yX0_covers yX0_covers, .initialized RX0, .code yX0_covers cX0_covers 2 (some .boolean), .fieldLink RX0 15 "ParcelledTable$Part" "from" "I", .fieldLink RX0 18 "ParcelledTable$Part" "to" "I"] ++ wsX30 ++ wsX00)
def wsX3_insert_r1 : List Cond := [Cond.classLink RX3 80 "java/lang/IllegalStateException", Cond.initialized "java/lang/IllegalStateException", Cond.fieldLink RX3 113 "ParcelledTable" "rowsInserted" "I", Cond.fieldLink RX3 24 "ParcelledTable" "allRows" "[LParcelledTable$Row;", Cond.classLink RX3 22 RX2, Cond.instantiable RX2 4, Cond.initialized RX2, Cond.methodLink RX3 103 yX3_checkKey, Cond.static yX3_checkKey, Cond.initialized RX3, Cond.code yX3_checkKey cX3_checkKey 1 none, Cond.classLink RX3 64 "java/lang/IllegalArgumentException", Cond.initialized "java/lang/IllegalArgumentException", Cond.methodLink RX3 107 yX3_checkSort, Cond.static yX3_checkSort, Cond.code yX3_checkSort cX3_checkSort 1 none, Cond.methodLink RX3 110 yX3_checkValue, Cond.static yX3_checkValue, Cond.code yX3_checkValue cX3_checkValue 1 none, Cond.methodLink RX3 118 yX3_holderOf, Cond.instanceMethod yX3_holderOf, Cond.selects RX3 yX3_holderOf yX3_holderOf, Cond.code yX3_holderOf cX3_holderOf 6 (some (.object "ParcelledTable$Part")), Cond.fieldLink RX3 18 "ParcelledTable" "allParts" "[LParcelledTable$Part;"]
def wsX3_insert_r2 : List Cond := [Cond.fieldLink RX3 87 "ParcelledTable$Part" "state" "I", Cond.fieldLink RX3 14 "ParcelledTable" "rest" "LParcelledTable$Part;", Cond.methodLink RX3 243 yX0_covers, Cond.instanceMethod yX0_covers, Cond.selects RX0 yX0_covers yX0_covers, Cond.initialized RX0, Cond.code yX0_covers cX0_covers 2 (some .boolean), Cond.fieldLink RX0 15 "ParcelledTable$Part" "from" "I", Cond.fieldLink RX0 18 "ParcelledTable$Part" "to" "I", Cond.methodLink RX3 121 yX2_init, Cond.instanceMethod yX2_init, Cond.code yX2_init cX2_init 5 none, Cond.methodLink RX2 3 objectInit, Cond.instanceMethod objectInit, Cond.code objectInit ⟨#[0xb1]⟩ 1 none, Cond.fieldLink RX2 9 "ParcelledTable$Row" "key" "I", Cond.fieldLink RX2 15 "ParcelledTable$Row" "sort" "I", Cond.fieldLink RX2 18 "ParcelledTable$Row" "value" "I", Cond.fieldLink RX2 21 "ParcelledTable$Row" "part" "LParcelledTable$Part;"]
def wsX3_insert : List Cond := .code yX3_insert cX3_insert 5 (some .int) :: ((wsX3_insert_r1 ++ wsX3_insert_r2) ++ wsX30 ++ wsX20 ++ wsX00 ++ (vx_atS RX3 84 "java/lang/IllegalStateException" ["java/lang/RuntimeException", "java/lang/Exception"]).filter goodWord ++ (vx_atS RX3 68 "java/lang/IllegalArgumentException" ["java/lang/RuntimeException", "java/lang/Exception"]).filter goodWord)
def wsX3_presentRow : List Cond := .code yX3_presentRow cX3_presentRow 3 (some (.object "ParcelledTable$Row")) :: ([.classLink RX3 217 "java/lang/IndexOutOfBoundsException", .initialized "java/lang/IndexOutOfBoundsException", .fieldLink RX3 24 "ParcelledTable" "allRows" "[LParcelledTable$Row;"] ++ wsX30 ++ (vx_atS RX3 221 "java/lang/IndexOutOfBoundsException" ["java/lang/RuntimeException", "java/lang/Exception"]).filter goodWord)
def wsX3_change_r1 : List Cond := [Cond.fieldLink RX3 128 "ParcelledTable$Row" "part" "LParcelledTable$Part;", Cond.fieldLink RX3 135 "ParcelledTable$Row" "key" "I", Cond.fieldLink RX3 138 "ParcelledTable$Row" "sort" "I", Cond.methodLink RX3 124 yX3_presentRow, Cond.instanceMethod yX3_presentRow, Cond.selects RX3 yX3_presentRow yX3_presentRow, Cond.initialized RX3, Cond.code yX3_presentRow cX3_presentRow 3 (some (.object "ParcelledTable$Row")), Cond.classLink RX3 217 "java/lang/IndexOutOfBoundsException", Cond.initialized "java/lang/IndexOutOfBoundsException", Cond.fieldLink RX3 24 "ParcelledTable" "allRows" "[LParcelledTable$Row;", Cond.methodLink RX3 103 yX3_checkKey, Cond.static yX3_checkKey, Cond.code yX3_checkKey cX3_checkKey 1 none, Cond.classLink RX3 64 "java/lang/IllegalArgumentException", Cond.initialized "java/lang/IllegalArgumentException", Cond.methodLink RX3 107 yX3_checkSort, Cond.static yX3_checkSort, Cond.code yX3_checkSort cX3_checkSort 1 none, Cond.methodLink RX3 71 yX3_refuseUnlessAttached, Cond.static yX3_refuseUnlessAttached, Cond.code yX3_refuseUnlessAttached cX3_refuseUnlessAttached 1 none, Cond.classLink RX3 80 "java/lang/IllegalStateException", Cond.initialized "java/lang/IllegalStateException"]
def wsX3_change_r2 : List Cond := [Cond.fieldLink RX3 87 "ParcelledTable$Part" "state" "I", Cond.methodLink RX3 131 yX2_place, Cond.instanceMethod yX2_place, Cond.selects RX2 yX2_place yX2_place, Cond.initialized RX2, Cond.code yX2_place cX2_place 1 (some .int), Cond.fieldLink RX2 21 "ParcelledTable$Row" "part" "LParcelledTable$Part;", Cond.fieldLink RX2 49 "ParcelledTable$Part" "number" "I", Cond.fieldLink RX2 9 "ParcelledTable$Row" "key" "I", Cond.fieldLink RX2 15 "ParcelledTable$Row" "sort" "I", Cond.methodLink RX2 30 yX0_leafFor, Cond.instanceMethod yX0_leafFor, Cond.selects RX0 yX0_leafFor yX0_leafFor, Cond.initialized RX0, Cond.code yX0_leafFor cX0_leafFor 3 (some .int), Cond.fieldLink RX0 21 "ParcelledTable$Part" "kind" "I", Cond.fieldLink RX0 24 "ParcelledTable$Part" "detail" "I", Cond.static yX3_hasSort, Cond.code yX3_hasSort cX3_hasSort 2 (some .boolean), Cond.methodLink RX0 34 yX0_leafByHash, Cond.instanceMethod yX0_leafByHash, Cond.selects RX0 yX0_leafByHash yX0_leafByHash, Cond.code yX0_leafByHash cX0_leafByHash 2 (some .int), Cond.methodLink RX3 118 yX3_holderOf]
def wsX3_change_r3 : List Cond := [Cond.instanceMethod yX3_holderOf, Cond.selects RX3 yX3_holderOf yX3_holderOf, Cond.code yX3_holderOf cX3_holderOf 6 (some (.object "ParcelledTable$Part")), Cond.fieldLink RX3 18 "ParcelledTable" "allParts" "[LParcelledTable$Part;", Cond.fieldLink RX3 14 "ParcelledTable" "rest" "LParcelledTable$Part;", Cond.methodLink RX3 243 yX0_covers, Cond.instanceMethod yX0_covers, Cond.selects RX0 yX0_covers yX0_covers, Cond.code yX0_covers cX0_covers 2 (some .boolean), Cond.fieldLink RX0 15 "ParcelledTable$Part" "from" "I", Cond.fieldLink RX0 18 "ParcelledTable$Part" "to" "I"]
def wsX3_change : List Cond := .code yX3_change cX3_change 6 (some .boolean) :: ((wsX3_change_r1 ++ (wsX3_change_r2 ++ wsX3_change_r3)) ++ wsX20 ++ wsX30 ++ wsX00 ++ (vx_atS RX3 221 "java/lang/IndexOutOfBoundsException" ["java/lang/RuntimeException", "java/lang/Exception"]).filter goodWord ++ (vx_atS RX3 68 "java/lang/IllegalArgumentException" ["java/lang/RuntimeException", "java/lang/Exception"]).filter goodWord ++ (vx_atS RX3 84 "java/lang/IllegalStateException" ["java/lang/RuntimeException", "java/lang/Exception"]).filter goodWord)
def wsX3_remove : List Cond := .code yX3_remove cX3_remove 3 (some .int) :: ([.fieldLink RX3 24 "ParcelledTable" "allRows" "[LParcelledTable$Row;", .fieldLink RX3 141 "ParcelledTable$Row" "value" "I", .methodLink RX3 124 yX3_presentRow, .instanceMethod yX3_presentRow, .selects RX3 yX3_presentRow yX3_presentRow, .initialized RX3, .code yX3_presentRow cX3_presentRow 3 (some (.object "ParcelledTable$Row")), .classLink RX3 217 "java/lang/IndexOutOfBoundsException", .initialized "java/lang/IndexOutOfBoundsException"] ++ wsX30 ++ wsX20 ++ (vx_atS RX3 221 "java/lang/IndexOutOfBoundsException" ["java/lang/RuntimeException", "java/lang/Exception"]).filter goodWord)
def wsX3_parts : List Cond := .code yX3_parts cX3_parts 1 (some .int) :: ([.fieldLink RX3 144 "ParcelledTable" "partsMade" "I"] ++ wsX30)
def wsX3_stateOf : List Cond := .code yX3_stateOf cX3_stateOf 2 (some .int) :: ([.fieldLink RX3 87 "ParcelledTable$Part" "state" "I", .methodLink RX3 147 yX3_knownPart, .instanceMethod yX3_knownPart, .selects RX3 yX3_knownPart yX3_knownPart, .initialized RX3, .code yX3_knownPart cX3_knownPart 3 (some (.object "ParcelledTable$Part")), .classLink RX3 217 "java/lang/IndexOutOfBoundsException", .initialized "java/lang/IndexOutOfBoundsException", .fieldLink RX3 18 "ParcelledTable" "allParts" "[LParcelledTable$Part;"] ++ wsX00 ++ wsX30 ++ (vx_atS RX3 221 "java/lang/IndexOutOfBoundsException" ["java/lang/RuntimeException", "java/lang/Exception"]).filter goodWord)
def wsX3_partOf : List Cond := .code yX3_partOf cX3_partOf 2 (some .int) :: ([.fieldLink RX3 42 "ParcelledTable$Part" "number" "I", .methodLink RX3 103 yX3_checkKey, .static yX3_checkKey, .initialized RX3, .code yX3_checkKey cX3_checkKey 1 none, .classLink RX3 64 "java/lang/IllegalArgumentException", .initialized "java/lang/IllegalArgumentException", .methodLink RX3 118 yX3_holderOf, .instanceMethod yX3_holderOf, .selects RX3 yX3_holderOf yX3_holderOf, .code yX3_holderOf cX3_holderOf 6 (some (.object "ParcelledTable$Part")), .fieldLink RX3 18 "ParcelledTable" "allParts" "[LParcelledTable$Part;", .fieldLink RX3 87 "ParcelledTable$Part" "state" "I", .fieldLink RX3 14 "ParcelledTable" "rest" "LParcelledTable$Part;", .methodLink RX3 243 yX0_covers, .instanceMethod yX0_covers, .selects RX0 yX0_covers yX0_covers, .initialized RX0, .code yX0_covers cX0_covers 2 (some .boolean), .fieldLink RX0 15 "ParcelledTable$Part" "from" "I", .fieldLink RX0 18 "ParcelledTable$Part" "to" "I"] ++ wsX00 ++ wsX30 ++ (vx_atS RX3 68 "java/lang/IllegalArgumentException" ["java/lang/RuntimeException", "java/lang/Exception"]).filter goodWord)
def wsX3_leafOf_r1 : List Cond := [Cond.methodLink RX3 124 yX3_presentRow, Cond.instanceMethod yX3_presentRow, Cond.selects RX3 yX3_presentRow yX3_presentRow, Cond.initialized RX3, Cond.code yX3_presentRow cX3_presentRow 3 (some (.object "ParcelledTable$Row")), Cond.classLink RX3 217 "java/lang/IndexOutOfBoundsException", Cond.initialized "java/lang/IndexOutOfBoundsException", Cond.fieldLink RX3 24 "ParcelledTable" "allRows" "[LParcelledTable$Row;", Cond.methodLink RX3 131 yX2_place, Cond.instanceMethod yX2_place, Cond.selects RX2 yX2_place yX2_place, Cond.initialized RX2, Cond.code yX2_place cX2_place 1 (some .int), Cond.fieldLink RX2 21 "ParcelledTable$Row" "part" "LParcelledTable$Part;", Cond.fieldLink RX2 49 "ParcelledTable$Part" "number" "I", Cond.fieldLink RX2 9 "ParcelledTable$Row" "key" "I", Cond.fieldLink RX2 15 "ParcelledTable$Row" "sort" "I", Cond.methodLink RX2 30 yX0_leafFor, Cond.instanceMethod yX0_leafFor, Cond.selects RX0 yX0_leafFor yX0_leafFor, Cond.initialized RX0, Cond.code yX0_leafFor cX0_leafFor 3 (some .int), Cond.fieldLink RX0 21 "ParcelledTable$Part" "kind" "I", Cond.fieldLink RX0 24 "ParcelledTable$Part" "detail" "I"]
def wsX3_leafOf_r2 : List Cond := [Cond.static yX3_hasSort, Cond.code yX3_hasSort cX3_hasSort 2 (some .boolean), Cond.methodLink RX0 34 yX0_leafByHash, Cond.instanceMethod yX0_leafByHash, Cond.selects RX0 yX0_leafByHash yX0_leafByHash, Cond.code yX0_leafByHash cX0_leafByHash 2 (some .int)]
def wsX3_leafOf : List Cond := .code yX3_leafOf cX3_leafOf 2 (some .int) :: ((wsX3_leafOf_r1 ++ wsX3_leafOf_r2) ++ wsX30 ++ wsX20 ++ wsX00 ++ (vx_atS RX3 221 "java/lang/IndexOutOfBoundsException" ["java/lang/RuntimeException", "java/lang/Exception"]).filter goodWord)
def wsX3_livingPartWithLeaf : List Cond := .code yX3_livingPartWithLeaf cX3_livingPartWithLeaf 4 (some (.object "ParcelledTable$Part")) :: ([.classLink RX3 217 "java/lang/IndexOutOfBoundsException", .initialized "java/lang/IndexOutOfBoundsException", .methodLink RX3 186 yX3_livingPart, .instanceMethod yX3_livingPart, .selects RX3 yX3_livingPart yX3_livingPart, .initialized RX3, .code yX3_livingPart cX3_livingPart 3 (some (.object "ParcelledTable$Part")), .fieldLink RX3 87 "ParcelledTable$Part" "state" "I", .methodLink RX3 147 yX3_knownPart, .instanceMethod yX3_knownPart, .selects RX3 yX3_knownPart yX3_knownPart, .code yX3_knownPart cX3_knownPart 3 (some (.object "ParcelledTable$Part")), .fieldLink RX3 18 "ParcelledTable" "allParts" "[LParcelledTable$Part;", .methodLink RX3 226 yX0_leaves, .instanceMethod yX0_leaves, .selects RX0 yX0_leaves yX0_leaves, .initialized RX0, .code yX0_leaves cX0_leaves 1 (some .int), .fieldLink RX0 21 "ParcelledTable$Part" "kind" "I", .fieldLink RX0 24 "ParcelledTable$Part" "detail" "I"] ++ wsX00 ++ wsX30 ++ (vx_atS RX3 221 "java/lang/IndexOutOfBoundsException" ["java/lang/RuntimeException", "java/lang/Exception"]).filter goodWord)
def wsX3_rowsIn_r1 : List Cond := [Cond.fieldLink RX3 24 "ParcelledTable" "allRows" "[LParcelledTable$Row;", Cond.methodLink RX3 150 yX3_livingPartWithLeaf, Cond.instanceMethod yX3_livingPartWithLeaf, Cond.selects RX3 yX3_livingPartWithLeaf yX3_livingPartWithLeaf, Cond.initialized RX3, Cond.code yX3_livingPartWithLeaf cX3_livingPartWithLeaf 4 (some (.object "ParcelledTable$Part")), Cond.classLink RX3 217 "java/lang/IndexOutOfBoundsException", Cond.initialized "java/lang/IndexOutOfBoundsException", Cond.methodLink RX3 186 yX3_livingPart, Cond.instanceMethod yX3_livingPart, Cond.selects RX3 yX3_livingPart yX3_livingPart, Cond.code yX3_livingPart cX3_livingPart 3 (some (.object "ParcelledTable$Part")), Cond.fieldLink RX3 87 "ParcelledTable$Part" "state" "I", Cond.methodLink RX3 147 yX3_knownPart, Cond.instanceMethod yX3_knownPart, Cond.selects RX3 yX3_knownPart yX3_knownPart, Cond.code yX3_knownPart cX3_knownPart 3 (some (.object "ParcelledTable$Part")), Cond.fieldLink RX3 18 "ParcelledTable" "allParts" "[LParcelledTable$Part;", Cond.methodLink RX3 226 yX0_leaves, Cond.instanceMethod yX0_leaves, Cond.selects RX0 yX0_leaves yX0_leaves, Cond.initialized RX0, Cond.code yX0_leaves cX0_leaves 1 (some .int), Cond.fieldLink RX0 21 "ParcelledTable$Part" "kind" "I"]
def wsX3_rowsIn_r2 : List Cond := [Cond.fieldLink RX0 24 "ParcelledTable$Part" "detail" "I", Cond.methodLink RX3 154 yX2_liesIn, Cond.instanceMethod yX2_liesIn, Cond.selects RX2 yX2_liesIn yX2_liesIn, Cond.initialized RX2, Cond.code yX2_liesIn cX2_liesIn 3 (some .boolean), Cond.fieldLink RX2 21 "ParcelledTable$Row" "part" "LParcelledTable$Part;", Cond.fieldLink RX2 9 "ParcelledTable$Row" "key" "I", Cond.fieldLink RX2 15 "ParcelledTable$Row" "sort" "I", Cond.methodLink RX2 30 yX0_leafFor, Cond.instanceMethod yX0_leafFor, Cond.selects RX0 yX0_leafFor yX0_leafFor, Cond.code yX0_leafFor cX0_leafFor 3 (some .int), Cond.static yX3_hasSort, Cond.code yX3_hasSort cX3_hasSort 2 (some .boolean), Cond.methodLink RX0 34 yX0_leafByHash, Cond.instanceMethod yX0_leafByHash, Cond.selects RX0 yX0_leafByHash yX0_leafByHash, Cond.code yX0_leafByHash cX0_leafByHash 2 (some .int)]
def wsX3_rowsIn : List Cond := .code yX3_rowsIn cX3_rowsIn 9 (some .int) :: ((wsX3_rowsIn_r1 ++ wsX3_rowsIn_r2) ++ wsX30 ++ wsX00 ++ wsX20 ++ (vx_atS RX3 221 "java/lang/IndexOutOfBoundsException" ["java/lang/RuntimeException", "java/lang/Exception"]).filter goodWord)
def wsX3_rows : List Cond := .code yX3_rows cX3_rows 6 (some .int) :: ([.fieldLink RX3 24 "ParcelledTable" "allRows" "[LParcelledTable$Row;", .methodLink RX3 158 yX2_isInTable, .instanceMethod yX2_isInTable, .selects RX2 yX2_isInTable yX2_isInTable, .initialized RX2, .code yX2_isInTable cX2_isInTable 1 (some .boolean), .fieldLink RX2 21 "ParcelledTable$Row" "part" "LParcelledTable$Part;", .fieldLink RX2 25 "ParcelledTable$Part" "state" "I"] ++ wsX30 ++ wsX20 ++ wsX00)
def wsX3_checkedQuestion : List Cond := .code yX3_checkedQuestion cX3_checkedQuestion 3 (some (.object "ParcelledTable$Question")) :: ([.classLink RX3 64 "java/lang/IllegalArgumentException", .initialized "java/lang/IllegalArgumentException", .classLink RX3 212 RX1, .instantiable RX1 3, .initialized RX1, .methodLink RX3 103 yX3_checkKey, .static yX3_checkKey, .initialized RX3, .code yX3_checkKey cX3_checkKey 1 none, .methodLink RX3 214 yX1_init, .instanceMethod yX1_init, .code yX1_init cX1_init 4 none, .methodLink RX1 1 objectInit, .instanceMethod objectInit, .code objectInit ⟨#[0xb1]⟩ 1 none, .fieldLink RX1 7 "ParcelledTable$Question" "low" "I", .fieldLink RX1 13 "ParcelledTable$Question" "high" "I", .fieldLink RX1 16 "ParcelledTable$Question" "sorts" "I"] ++ wsX10 ++ (vx_atS RX3 68 "java/lang/IllegalArgumentException" ["java/lang/RuntimeException", "java/lang/Exception"]).filter goodWord)
def wsX3_restMayHold : List Cond := .code yX3_restMayHold cX3_restMayHold 6 (some .boolean) :: ([.fieldLink RX3 14 "ParcelledTable" "rest" "LParcelledTable$Part;", .fieldLink RX3 61 "ParcelledTable$Part" "to" "I", .methodLink RX3 118 yX3_holderOf, .instanceMethod yX3_holderOf, .selects RX3 yX3_holderOf yX3_holderOf, .initialized RX3, .code yX3_holderOf cX3_holderOf 6 (some (.object "ParcelledTable$Part")), .fieldLink RX3 18 "ParcelledTable" "allParts" "[LParcelledTable$Part;", .fieldLink RX3 87 "ParcelledTable$Part" "state" "I", .methodLink RX3 243 yX0_covers, .instanceMethod yX0_covers, .selects RX0 yX0_covers yX0_covers, .initialized RX0, .code yX0_covers cX0_covers 2 (some .boolean), .fieldLink RX0 15 "ParcelledTable$Part" "from" "I", .fieldLink RX0 18 "ParcelledTable$Part" "to" "I"] ++ wsX30 ++ wsX00)
def wsX3_mayMatter_r1 : List Cond := [Cond.fieldLink RX3 87 "ParcelledTable$Part" "state" "I", Cond.fieldLink RX3 260 "ParcelledTable$Question" "sorts" "I", Cond.fieldLink RX3 14 "ParcelledTable" "rest" "LParcelledTable$Part;", Cond.fieldLink RX3 263 "ParcelledTable$Question" "low" "I", Cond.fieldLink RX3 266 "ParcelledTable$Question" "high" "I", Cond.methodLink RX3 269 yX3_restMayHold, Cond.instanceMethod yX3_restMayHold, Cond.selects RX3 yX3_restMayHold yX3_restMayHold, Cond.initialized RX3, Cond.code yX3_restMayHold cX3_restMayHold 6 (some .boolean), Cond.fieldLink RX3 61 "ParcelledTable$Part" "to" "I", Cond.methodLink RX3 118 yX3_holderOf, Cond.instanceMethod yX3_holderOf, Cond.selects RX3 yX3_holderOf yX3_holderOf, Cond.code yX3_holderOf cX3_holderOf 6 (some (.object "ParcelledTable$Part")), Cond.fieldLink RX3 18 "ParcelledTable" "allParts" "[LParcelledTable$Part;", Cond.methodLink RX3 243 yX0_covers, Cond.instanceMethod yX0_covers, Cond.selects RX0 yX0_covers yX0_covers, Cond.initialized RX0, Cond.code yX0_covers cX0_covers 2 (some .boolean), Cond.fieldLink RX0 15 "ParcelledTable$Part" "from" "I", Cond.fieldLink RX0 18 "ParcelledTable$Part" "to" "I", Cond.methodLink RX3 273 yX0_mayHold]
def wsX3_mayMatter_r2 : List Cond := [Cond.instanceMethod yX0_mayHold, Cond.selects RX0 yX0_mayHold yX0_mayHold, Cond.code yX0_mayHold cX0_mayHold 5 (some .boolean), Cond.fieldLink RX0 38 "ParcelledTable$Question" "low" "I", Cond.methodLink RX0 43 Lib.Math.max.name, Cond.static Lib.Math.max.name, Cond.initialized "java/lang/Math", Cond.code Lib.Math.max.name Lib.Math.max.code 2 (some .int), Cond.fieldLink RX0 49 "ParcelledTable$Question" "high" "I", Cond.methodLink RX0 52 Lib.Math.min.name, Cond.static Lib.Math.min.name, Cond.code Lib.Math.min.name Lib.Math.min.code 2 (some .int), Cond.fieldLink RX0 21 "ParcelledTable$Part" "kind" "I", Cond.fieldLink RX0 55 "ParcelledTable$Question" "sorts" "I", Cond.methodLink RX0 58 yX0_sortsByList, Cond.instanceMethod yX0_sortsByList, Cond.selects RX0 yX0_sortsByList yX0_sortsByList, Cond.code yX0_sortsByList cX0_sortsByList 2 (some .int), Cond.fieldLink RX0 24 "ParcelledTable$Part" "detail" "I", Cond.methodLink RX0 61 yX0_hashReaches, Cond.instanceMethod yX0_hashReaches, Cond.selects RX0 yX0_hashReaches yX0_hashReaches, Cond.code yX0_hashReaches cX0_hashReaches 6 (some .boolean), Cond.methodLink RX0 34 yX0_leafByHash]
def wsX3_mayMatter_r3 : List Cond := [Cond.instanceMethod yX0_leafByHash, Cond.selects RX0 yX0_leafByHash yX0_leafByHash, Cond.code yX0_leafByHash cX0_leafByHash 2 (some .int)]
def wsX3_mayMatter : List Cond := .code yX3_mayMatter cX3_mayMatter 4 (some .boolean) :: ((wsX3_mayMatter_r1 ++ (wsX3_mayMatter_r2 ++ wsX3_mayMatter_r3)) ++ wsX00 ++ wsX10 ++ wsX30)
def wsX3_countInLeaf_r1 : List Cond := [Cond.fieldLink RX3 24 "ParcelledTable" "allRows" "[LParcelledTable$Row;", Cond.methodLink RX3 154 yX2_liesIn, Cond.instanceMethod yX2_liesIn, Cond.selects RX2 yX2_liesIn yX2_liesIn, Cond.initialized RX2, Cond.code yX2_liesIn cX2_liesIn 3 (some .boolean), Cond.fieldLink RX2 21 "ParcelledTable$Row" "part" "LParcelledTable$Part;", Cond.fieldLink RX2 9 "ParcelledTable$Row" "key" "I", Cond.fieldLink RX2 15 "ParcelledTable$Row" "sort" "I", Cond.methodLink RX2 30 yX0_leafFor, Cond.instanceMethod yX0_leafFor, Cond.selects RX0 yX0_leafFor yX0_leafFor, Cond.initialized RX0, Cond.code yX0_leafFor cX0_leafFor 3 (some .int), Cond.fieldLink RX0 21 "ParcelledTable$Part" "kind" "I", Cond.fieldLink RX0 24 "ParcelledTable$Part" "detail" "I", Cond.static yX3_hasSort, Cond.initialized RX3, Cond.code yX3_hasSort cX3_hasSort 2 (some .boolean), Cond.methodLink RX0 34 yX0_leafByHash, Cond.instanceMethod yX0_leafByHash, Cond.selects RX0 yX0_leafByHash yX0_leafByHash, Cond.code yX0_leafByHash cX0_leafByHash 2 (some .int), Cond.methodLink RX3 170 yX2_fits]
def wsX3_countInLeaf_r2 : List Cond := [Cond.instanceMethod yX2_fits, Cond.selects RX2 yX2_fits yX2_fits, Cond.code yX2_fits cX2_fits 2 (some .boolean), Cond.fieldLink RX2 34 "ParcelledTable$Question" "low" "I", Cond.fieldLink RX2 39 "ParcelledTable$Question" "high" "I", Cond.fieldLink RX2 42 "ParcelledTable$Question" "sorts" "I"]
def wsX3_countInLeaf : List Cond := .code yX3_countInLeaf cX3_countInLeaf 9 (some .int) :: ((wsX3_countInLeaf_r1 ++ wsX3_countInLeaf_r2) ++ wsX30 ++ wsX20 ++ wsX00 ++ wsX10)
def wsX3_countInPart_r1 : List Cond := [Cond.methodLink RX3 226 yX0_leaves, Cond.instanceMethod yX0_leaves, Cond.selects RX0 yX0_leaves yX0_leaves, Cond.initialized RX0, Cond.code yX0_leaves cX0_leaves 1 (some .int), Cond.fieldLink RX0 21 "ParcelledTable$Part" "kind" "I", Cond.fieldLink RX0 24 "ParcelledTable$Part" "detail" "I", Cond.methodLink RX3 177 yX3_mayMatter, Cond.instanceMethod yX3_mayMatter, Cond.selects RX3 yX3_mayMatter yX3_mayMatter, Cond.initialized RX3, Cond.code yX3_mayMatter cX3_mayMatter 4 (some .boolean), Cond.fieldLink RX3 87 "ParcelledTable$Part" "state" "I", Cond.fieldLink RX3 260 "ParcelledTable$Question" "sorts" "I", Cond.fieldLink RX3 14 "ParcelledTable" "rest" "LParcelledTable$Part;", Cond.fieldLink RX3 263 "ParcelledTable$Question" "low" "I", Cond.fieldLink RX3 266 "ParcelledTable$Question" "high" "I", Cond.methodLink RX3 269 yX3_restMayHold, Cond.instanceMethod yX3_restMayHold, Cond.selects RX3 yX3_restMayHold yX3_restMayHold, Cond.code yX3_restMayHold cX3_restMayHold 6 (some .boolean), Cond.fieldLink RX3 61 "ParcelledTable$Part" "to" "I", Cond.methodLink RX3 118 yX3_holderOf, Cond.instanceMethod yX3_holderOf]
def wsX3_countInPart_r2 : List Cond := [Cond.selects RX3 yX3_holderOf yX3_holderOf, Cond.code yX3_holderOf cX3_holderOf 6 (some (.object "ParcelledTable$Part")), Cond.fieldLink RX3 18 "ParcelledTable" "allParts" "[LParcelledTable$Part;", Cond.methodLink RX3 243 yX0_covers, Cond.instanceMethod yX0_covers, Cond.selects RX0 yX0_covers yX0_covers, Cond.code yX0_covers cX0_covers 2 (some .boolean), Cond.fieldLink RX0 15 "ParcelledTable$Part" "from" "I", Cond.fieldLink RX0 18 "ParcelledTable$Part" "to" "I", Cond.methodLink RX3 273 yX0_mayHold, Cond.instanceMethod yX0_mayHold, Cond.selects RX0 yX0_mayHold yX0_mayHold, Cond.code yX0_mayHold cX0_mayHold 5 (some .boolean), Cond.fieldLink RX0 38 "ParcelledTable$Question" "low" "I", Cond.methodLink RX0 43 Lib.Math.max.name, Cond.static Lib.Math.max.name, Cond.initialized "java/lang/Math", Cond.code Lib.Math.max.name Lib.Math.max.code 2 (some .int), Cond.fieldLink RX0 49 "ParcelledTable$Question" "high" "I", Cond.methodLink RX0 52 Lib.Math.min.name, Cond.static Lib.Math.min.name, Cond.code Lib.Math.min.name Lib.Math.min.code 2 (some .int), Cond.fieldLink RX0 55 "ParcelledTable$Question" "sorts" "I", Cond.methodLink RX0 58 yX0_sortsByList]
def wsX3_countInPart_r3 : List Cond := [Cond.instanceMethod yX0_sortsByList, Cond.selects RX0 yX0_sortsByList yX0_sortsByList, Cond.code yX0_sortsByList cX0_sortsByList 2 (some .int), Cond.methodLink RX0 61 yX0_hashReaches, Cond.instanceMethod yX0_hashReaches, Cond.selects RX0 yX0_hashReaches yX0_hashReaches, Cond.code yX0_hashReaches cX0_hashReaches 6 (some .boolean), Cond.methodLink RX0 34 yX0_leafByHash, Cond.instanceMethod yX0_leafByHash, Cond.selects RX0 yX0_leafByHash yX0_leafByHash, Cond.code yX0_leafByHash cX0_leafByHash 2 (some .int), Cond.methodLink RX3 277 yX3_countInLeaf, Cond.instanceMethod yX3_countInLeaf, Cond.selects RX3 yX3_countInLeaf yX3_countInLeaf, Cond.code yX3_countInLeaf cX3_countInLeaf 9 (some .int), Cond.fieldLink RX3 24 "ParcelledTable" "allRows" "[LParcelledTable$Row;", Cond.methodLink RX3 154 yX2_liesIn, Cond.instanceMethod yX2_liesIn, Cond.selects RX2 yX2_liesIn yX2_liesIn, Cond.initialized RX2, Cond.code yX2_liesIn cX2_liesIn 3 (some .boolean), Cond.fieldLink RX2 21 "ParcelledTable$Row" "part" "LParcelledTable$Part;", Cond.fieldLink RX2 9 "ParcelledTable$Row" "key" "I", Cond.fieldLink RX2 15 "ParcelledTable$Row" "sort" "I"]
def wsX3_countInPart_r4 : List Cond := [Cond.methodLink RX2 30 yX0_leafFor, Cond.instanceMethod yX0_leafFor, Cond.selects RX0 yX0_leafFor yX0_leafFor, Cond.code yX0_leafFor cX0_leafFor 3 (some .int), Cond.static yX3_hasSort, Cond.code yX3_hasSort cX3_hasSort 2 (some .boolean), Cond.methodLink RX3 170 yX2_fits, Cond.instanceMethod yX2_fits, Cond.selects RX2 yX2_fits yX2_fits, Cond.code yX2_fits cX2_fits 2 (some .boolean), Cond.fieldLink RX2 34 "ParcelledTable$Question" "low" "I", Cond.fieldLink RX2 39 "ParcelledTable$Question" "high" "I", Cond.fieldLink RX2 42 "ParcelledTable$Question" "sorts" "I"]
def wsX3_countInPart : List Cond := .code yX3_countInPart cX3_countInPart 5 (some .int) :: ((wsX3_countInPart_r1 ++ (wsX3_countInPart_r2 ++ (wsX3_countInPart_r3 ++ wsX3_countInPart_r4))) ++ wsX00 ++ wsX10 ++ wsX30 ++ wsX20)
def wsX3_count_r1 : List Cond := [Cond.fieldLink RX3 18 "ParcelledTable" "allParts" "[LParcelledTable$Part;", Cond.methodLink RX3 162 yX3_checkedQuestion, Cond.static yX3_checkedQuestion, Cond.initialized RX3, Cond.code yX3_checkedQuestion cX3_checkedQuestion 3 (some (.object "ParcelledTable$Question")), Cond.classLink RX3 64 "java/lang/IllegalArgumentException", Cond.initialized "java/lang/IllegalArgumentException", Cond.classLink RX3 212 RX1, Cond.instantiable RX1 3, Cond.initialized RX1, Cond.methodLink RX3 103 yX3_checkKey, Cond.static yX3_checkKey, Cond.code yX3_checkKey cX3_checkKey 1 none, Cond.methodLink RX3 214 yX1_init, Cond.instanceMethod yX1_init, Cond.code yX1_init cX1_init 4 none, Cond.methodLink RX1 1 objectInit, Cond.instanceMethod objectInit, Cond.code objectInit ⟨#[0xb1]⟩ 1 none, Cond.fieldLink RX1 7 "ParcelledTable$Question" "low" "I", Cond.fieldLink RX1 13 "ParcelledTable$Question" "high" "I", Cond.fieldLink RX1 16 "ParcelledTable$Question" "sorts" "I", Cond.methodLink RX3 166 yX3_countInPart, Cond.instanceMethod yX3_countInPart]
def wsX3_count_r2 : List Cond := [Cond.selects RX3 yX3_countInPart yX3_countInPart, Cond.code yX3_countInPart cX3_countInPart 5 (some .int), Cond.methodLink RX3 226 yX0_leaves, Cond.instanceMethod yX0_leaves, Cond.selects RX0 yX0_leaves yX0_leaves, Cond.initialized RX0, Cond.code yX0_leaves cX0_leaves 1 (some .int), Cond.fieldLink RX0 21 "ParcelledTable$Part" "kind" "I", Cond.fieldLink RX0 24 "ParcelledTable$Part" "detail" "I", Cond.methodLink RX3 177 yX3_mayMatter, Cond.instanceMethod yX3_mayMatter, Cond.selects RX3 yX3_mayMatter yX3_mayMatter, Cond.code yX3_mayMatter cX3_mayMatter 4 (some .boolean), Cond.fieldLink RX3 87 "ParcelledTable$Part" "state" "I", Cond.fieldLink RX3 260 "ParcelledTable$Question" "sorts" "I", Cond.fieldLink RX3 14 "ParcelledTable" "rest" "LParcelledTable$Part;", Cond.fieldLink RX3 263 "ParcelledTable$Question" "low" "I", Cond.fieldLink RX3 266 "ParcelledTable$Question" "high" "I", Cond.methodLink RX3 269 yX3_restMayHold, Cond.instanceMethod yX3_restMayHold, Cond.selects RX3 yX3_restMayHold yX3_restMayHold, Cond.code yX3_restMayHold cX3_restMayHold 6 (some .boolean), Cond.fieldLink RX3 61 "ParcelledTable$Part" "to" "I", Cond.methodLink RX3 118 yX3_holderOf]
def wsX3_count_r3 : List Cond := [Cond.instanceMethod yX3_holderOf, Cond.selects RX3 yX3_holderOf yX3_holderOf, Cond.code yX3_holderOf cX3_holderOf 6 (some (.object "ParcelledTable$Part")), Cond.methodLink RX3 243 yX0_covers, Cond.instanceMethod yX0_covers, Cond.selects RX0 yX0_covers yX0_covers, Cond.code yX0_covers cX0_covers 2 (some .boolean), Cond.fieldLink RX0 15 "ParcelledTable$Part" "from" "I", Cond.fieldLink RX0 18 "ParcelledTable$Part" "to" "I", Cond.methodLink RX3 273 yX0_mayHold, Cond.instanceMethod yX0_mayHold, Cond.selects RX0 yX0_mayHold yX0_mayHold, Cond.code yX0_mayHold cX0_mayHold 5 (some .boolean), Cond.fieldLink RX0 38 "ParcelledTable$Question" "low" "I", Cond.methodLink RX0 43 Lib.Math.max.name, Cond.static Lib.Math.max.name, Cond.initialized "java/lang/Math", Cond.code Lib.Math.max.name Lib.Math.max.code 2 (some .int), Cond.fieldLink RX0 49 "ParcelledTable$Question" "high" "I", Cond.methodLink RX0 52 Lib.Math.min.name, Cond.static Lib.Math.min.name, Cond.code Lib.Math.min.name Lib.Math.min.code 2 (some .int), Cond.fieldLink RX0 55 "ParcelledTable$Question" "sorts" "I", Cond.methodLink RX0 58 yX0_sortsByList]
def wsX3_count_r4 : List Cond := [Cond.instanceMethod yX0_sortsByList, Cond.selects RX0 yX0_sortsByList yX0_sortsByList, Cond.code yX0_sortsByList cX0_sortsByList 2 (some .int), Cond.methodLink RX0 61 yX0_hashReaches, Cond.instanceMethod yX0_hashReaches, Cond.selects RX0 yX0_hashReaches yX0_hashReaches, Cond.code yX0_hashReaches cX0_hashReaches 6 (some .boolean), Cond.methodLink RX0 34 yX0_leafByHash, Cond.instanceMethod yX0_leafByHash, Cond.selects RX0 yX0_leafByHash yX0_leafByHash, Cond.code yX0_leafByHash cX0_leafByHash 2 (some .int), Cond.methodLink RX3 277 yX3_countInLeaf, Cond.instanceMethod yX3_countInLeaf, Cond.selects RX3 yX3_countInLeaf yX3_countInLeaf, Cond.code yX3_countInLeaf cX3_countInLeaf 9 (some .int), Cond.fieldLink RX3 24 "ParcelledTable" "allRows" "[LParcelledTable$Row;", Cond.methodLink RX3 154 yX2_liesIn, Cond.instanceMethod yX2_liesIn, Cond.selects RX2 yX2_liesIn yX2_liesIn, Cond.initialized RX2, Cond.code yX2_liesIn cX2_liesIn 3 (some .boolean), Cond.fieldLink RX2 21 "ParcelledTable$Row" "part" "LParcelledTable$Part;", Cond.fieldLink RX2 9 "ParcelledTable$Row" "key" "I", Cond.fieldLink RX2 15 "ParcelledTable$Row" "sort" "I"]
def wsX3_count_r5 : List Cond := [Cond.methodLink RX2 30 yX0_leafFor, Cond.instanceMethod yX0_leafFor, Cond.selects RX0 yX0_leafFor yX0_leafFor, Cond.code yX0_leafFor cX0_leafFor 3 (some .int), Cond.static yX3_hasSort, Cond.code yX3_hasSort cX3_hasSort 2 (some .boolean), Cond.methodLink RX3 170 yX2_fits, Cond.instanceMethod yX2_fits, Cond.selects RX2 yX2_fits yX2_fits, Cond.code yX2_fits cX2_fits 2 (some .boolean), Cond.fieldLink RX2 34 "ParcelledTable$Question" "low" "I", Cond.fieldLink RX2 39 "ParcelledTable$Question" "high" "I", Cond.fieldLink RX2 42 "ParcelledTable$Question" "sorts" "I"]
def wsX3_count : List Cond := .code yX3_count cX3_count 10 (some .int) :: ((wsX3_count_r1 ++ (wsX3_count_r2 ++ (wsX3_count_r3 ++ (wsX3_count_r4 ++ wsX3_count_r5)))) ++ wsX30 ++ wsX10 ++ wsX00 ++ wsX20 ++ (vx_atS RX3 68 "java/lang/IllegalArgumentException" ["java/lang/RuntimeException", "java/lang/Exception"]).filter goodWord)
def wsX3_countPlain_r1 : List Cond := [Cond.fieldLink RX3 24 "ParcelledTable" "allRows" "[LParcelledTable$Row;", Cond.methodLink RX3 162 yX3_checkedQuestion, Cond.static yX3_checkedQuestion, Cond.initialized RX3, Cond.code yX3_checkedQuestion cX3_checkedQuestion 3 (some (.object "ParcelledTable$Question")), Cond.classLink RX3 64 "java/lang/IllegalArgumentException", Cond.initialized "java/lang/IllegalArgumentException", Cond.classLink RX3 212 RX1, Cond.instantiable RX1 3, Cond.initialized RX1, Cond.methodLink RX3 103 yX3_checkKey, Cond.static yX3_checkKey, Cond.code yX3_checkKey cX3_checkKey 1 none, Cond.methodLink RX3 214 yX1_init, Cond.instanceMethod yX1_init, Cond.code yX1_init cX1_init 4 none, Cond.methodLink RX1 1 objectInit, Cond.instanceMethod objectInit, Cond.code objectInit ⟨#[0xb1]⟩ 1 none, Cond.fieldLink RX1 7 "ParcelledTable$Question" "low" "I", Cond.fieldLink RX1 13 "ParcelledTable$Question" "high" "I", Cond.fieldLink RX1 16 "ParcelledTable$Question" "sorts" "I", Cond.methodLink RX3 158 yX2_isInTable, Cond.instanceMethod yX2_isInTable]
def wsX3_countPlain_r2 : List Cond := [Cond.selects RX2 yX2_isInTable yX2_isInTable, Cond.initialized RX2, Cond.code yX2_isInTable cX2_isInTable 1 (some .boolean), Cond.fieldLink RX2 21 "ParcelledTable$Row" "part" "LParcelledTable$Part;", Cond.fieldLink RX2 25 "ParcelledTable$Part" "state" "I", Cond.methodLink RX3 170 yX2_fits, Cond.instanceMethod yX2_fits, Cond.selects RX2 yX2_fits yX2_fits, Cond.code yX2_fits cX2_fits 2 (some .boolean), Cond.fieldLink RX2 9 "ParcelledTable$Row" "key" "I", Cond.fieldLink RX2 34 "ParcelledTable$Question" "low" "I", Cond.fieldLink RX2 39 "ParcelledTable$Question" "high" "I", Cond.fieldLink RX2 42 "ParcelledTable$Question" "sorts" "I", Cond.fieldLink RX2 15 "ParcelledTable$Row" "sort" "I", Cond.static yX3_hasSort, Cond.code yX3_hasSort cX3_hasSort 2 (some .boolean)]
def wsX3_countPlain : List Cond := .code yX3_countPlain cX3_countPlain 10 (some .int) :: ((wsX3_countPlain_r1 ++ wsX3_countPlain_r2) ++ wsX30 ++ wsX10 ++ wsX20 ++ wsX00 ++ (vx_atS RX3 68 "java/lang/IllegalArgumentException" ["java/lang/RuntimeException", "java/lang/Exception"]).filter goodWord)
def wsX3_leavesThatMayMatter_r1 : List Cond := [Cond.methodLink RX3 226 yX0_leaves, Cond.instanceMethod yX0_leaves, Cond.selects RX0 yX0_leaves yX0_leaves, Cond.initialized RX0, Cond.code yX0_leaves cX0_leaves 1 (some .int), Cond.fieldLink RX0 21 "ParcelledTable$Part" "kind" "I", Cond.fieldLink RX0 24 "ParcelledTable$Part" "detail" "I", Cond.methodLink RX3 177 yX3_mayMatter, Cond.instanceMethod yX3_mayMatter, Cond.selects RX3 yX3_mayMatter yX3_mayMatter, Cond.initialized RX3, Cond.code yX3_mayMatter cX3_mayMatter 4 (some .boolean), Cond.fieldLink RX3 87 "ParcelledTable$Part" "state" "I", Cond.fieldLink RX3 260 "ParcelledTable$Question" "sorts" "I", Cond.fieldLink RX3 14 "ParcelledTable" "rest" "LParcelledTable$Part;", Cond.fieldLink RX3 263 "ParcelledTable$Question" "low" "I", Cond.fieldLink RX3 266 "ParcelledTable$Question" "high" "I", Cond.methodLink RX3 269 yX3_restMayHold, Cond.instanceMethod yX3_restMayHold, Cond.selects RX3 yX3_restMayHold yX3_restMayHold, Cond.code yX3_restMayHold cX3_restMayHold 6 (some .boolean), Cond.fieldLink RX3 61 "ParcelledTable$Part" "to" "I", Cond.methodLink RX3 118 yX3_holderOf, Cond.instanceMethod yX3_holderOf]
def wsX3_leavesThatMayMatter_r2 : List Cond := [Cond.selects RX3 yX3_holderOf yX3_holderOf, Cond.code yX3_holderOf cX3_holderOf 6 (some (.object "ParcelledTable$Part")), Cond.fieldLink RX3 18 "ParcelledTable" "allParts" "[LParcelledTable$Part;", Cond.methodLink RX3 243 yX0_covers, Cond.instanceMethod yX0_covers, Cond.selects RX0 yX0_covers yX0_covers, Cond.code yX0_covers cX0_covers 2 (some .boolean), Cond.fieldLink RX0 15 "ParcelledTable$Part" "from" "I", Cond.fieldLink RX0 18 "ParcelledTable$Part" "to" "I", Cond.methodLink RX3 273 yX0_mayHold, Cond.instanceMethod yX0_mayHold, Cond.selects RX0 yX0_mayHold yX0_mayHold, Cond.code yX0_mayHold cX0_mayHold 5 (some .boolean), Cond.fieldLink RX0 38 "ParcelledTable$Question" "low" "I", Cond.methodLink RX0 43 Lib.Math.max.name, Cond.static Lib.Math.max.name, Cond.initialized "java/lang/Math", Cond.code Lib.Math.max.name Lib.Math.max.code 2 (some .int), Cond.fieldLink RX0 49 "ParcelledTable$Question" "high" "I", Cond.methodLink RX0 52 Lib.Math.min.name, Cond.static Lib.Math.min.name, Cond.code Lib.Math.min.name Lib.Math.min.code 2 (some .int), Cond.fieldLink RX0 55 "ParcelledTable$Question" "sorts" "I", Cond.methodLink RX0 58 yX0_sortsByList]
def wsX3_leavesThatMayMatter_r3 : List Cond := [Cond.instanceMethod yX0_sortsByList, Cond.selects RX0 yX0_sortsByList yX0_sortsByList, Cond.code yX0_sortsByList cX0_sortsByList 2 (some .int), Cond.methodLink RX0 61 yX0_hashReaches, Cond.instanceMethod yX0_hashReaches, Cond.selects RX0 yX0_hashReaches yX0_hashReaches, Cond.code yX0_hashReaches cX0_hashReaches 6 (some .boolean), Cond.methodLink RX0 34 yX0_leafByHash, Cond.instanceMethod yX0_leafByHash, Cond.selects RX0 yX0_leafByHash yX0_leafByHash, Cond.code yX0_leafByHash cX0_leafByHash 2 (some .int)]
def wsX3_leavesThatMayMatter : List Cond := .code yX3_leavesThatMayMatter cX3_leavesThatMayMatter 5 (some .int) :: ((wsX3_leavesThatMayMatter_r1 ++ (wsX3_leavesThatMayMatter_r2 ++ wsX3_leavesThatMayMatter_r3)) ++ wsX00 ++ wsX10 ++ wsX30)
def wsX3_read_r1 : List Cond := [Cond.fieldLink RX3 18 "ParcelledTable" "allParts" "[LParcelledTable$Part;", Cond.methodLink RX3 162 yX3_checkedQuestion, Cond.static yX3_checkedQuestion, Cond.initialized RX3, Cond.code yX3_checkedQuestion cX3_checkedQuestion 3 (some (.object "ParcelledTable$Question")), Cond.classLink RX3 64 "java/lang/IllegalArgumentException", Cond.initialized "java/lang/IllegalArgumentException", Cond.classLink RX3 212 RX1, Cond.instantiable RX1 3, Cond.initialized RX1, Cond.methodLink RX3 103 yX3_checkKey, Cond.static yX3_checkKey, Cond.code yX3_checkKey cX3_checkKey 1 none, Cond.methodLink RX3 214 yX1_init, Cond.instanceMethod yX1_init, Cond.code yX1_init cX1_init 4 none, Cond.methodLink RX1 1 objectInit, Cond.instanceMethod objectInit, Cond.code objectInit ⟨#[0xb1]⟩ 1 none, Cond.fieldLink RX1 7 "ParcelledTable$Question" "low" "I", Cond.fieldLink RX1 13 "ParcelledTable$Question" "high" "I", Cond.fieldLink RX1 16 "ParcelledTable$Question" "sorts" "I", Cond.methodLink RX3 174 yX3_leavesThatMayMatter, Cond.instanceMethod yX3_leavesThatMayMatter]
def wsX3_read_r2 : List Cond := [Cond.selects RX3 yX3_leavesThatMayMatter yX3_leavesThatMayMatter, Cond.code yX3_leavesThatMayMatter cX3_leavesThatMayMatter 5 (some .int), Cond.methodLink RX3 226 yX0_leaves, Cond.instanceMethod yX0_leaves, Cond.selects RX0 yX0_leaves yX0_leaves, Cond.initialized RX0, Cond.code yX0_leaves cX0_leaves 1 (some .int), Cond.fieldLink RX0 21 "ParcelledTable$Part" "kind" "I", Cond.fieldLink RX0 24 "ParcelledTable$Part" "detail" "I", Cond.methodLink RX3 177 yX3_mayMatter, Cond.instanceMethod yX3_mayMatter, Cond.selects RX3 yX3_mayMatter yX3_mayMatter, Cond.code yX3_mayMatter cX3_mayMatter 4 (some .boolean), Cond.fieldLink RX3 87 "ParcelledTable$Part" "state" "I", Cond.fieldLink RX3 260 "ParcelledTable$Question" "sorts" "I", Cond.fieldLink RX3 14 "ParcelledTable" "rest" "LParcelledTable$Part;", Cond.fieldLink RX3 263 "ParcelledTable$Question" "low" "I", Cond.fieldLink RX3 266 "ParcelledTable$Question" "high" "I", Cond.methodLink RX3 269 yX3_restMayHold, Cond.instanceMethod yX3_restMayHold, Cond.selects RX3 yX3_restMayHold yX3_restMayHold, Cond.code yX3_restMayHold cX3_restMayHold 6 (some .boolean), Cond.fieldLink RX3 61 "ParcelledTable$Part" "to" "I", Cond.methodLink RX3 118 yX3_holderOf]
def wsX3_read_r3 : List Cond := [Cond.instanceMethod yX3_holderOf, Cond.selects RX3 yX3_holderOf yX3_holderOf, Cond.code yX3_holderOf cX3_holderOf 6 (some (.object "ParcelledTable$Part")), Cond.methodLink RX3 243 yX0_covers, Cond.instanceMethod yX0_covers, Cond.selects RX0 yX0_covers yX0_covers, Cond.code yX0_covers cX0_covers 2 (some .boolean), Cond.fieldLink RX0 15 "ParcelledTable$Part" "from" "I", Cond.fieldLink RX0 18 "ParcelledTable$Part" "to" "I", Cond.methodLink RX3 273 yX0_mayHold, Cond.instanceMethod yX0_mayHold, Cond.selects RX0 yX0_mayHold yX0_mayHold, Cond.code yX0_mayHold cX0_mayHold 5 (some .boolean), Cond.fieldLink RX0 38 "ParcelledTable$Question" "low" "I", Cond.methodLink RX0 43 Lib.Math.max.name, Cond.static Lib.Math.max.name, Cond.initialized "java/lang/Math", Cond.code Lib.Math.max.name Lib.Math.max.code 2 (some .int), Cond.fieldLink RX0 49 "ParcelledTable$Question" "high" "I", Cond.methodLink RX0 52 Lib.Math.min.name, Cond.static Lib.Math.min.name, Cond.code Lib.Math.min.name Lib.Math.min.code 2 (some .int), Cond.fieldLink RX0 55 "ParcelledTable$Question" "sorts" "I", Cond.methodLink RX0 58 yX0_sortsByList]
def wsX3_read_r4 : List Cond := [Cond.instanceMethod yX0_sortsByList, Cond.selects RX0 yX0_sortsByList yX0_sortsByList, Cond.code yX0_sortsByList cX0_sortsByList 2 (some .int), Cond.methodLink RX0 61 yX0_hashReaches, Cond.instanceMethod yX0_hashReaches, Cond.selects RX0 yX0_hashReaches yX0_hashReaches, Cond.code yX0_hashReaches cX0_hashReaches 6 (some .boolean), Cond.methodLink RX0 34 yX0_leafByHash, Cond.instanceMethod yX0_leafByHash, Cond.selects RX0 yX0_leafByHash yX0_leafByHash, Cond.code yX0_leafByHash cX0_leafByHash 2 (some .int)]
def wsX3_read : List Cond := .code yX3_read cX3_read 10 (some .int) :: ((wsX3_read_r1 ++ (wsX3_read_r2 ++ (wsX3_read_r3 ++ wsX3_read_r4))) ++ wsX30 ++ wsX10 ++ wsX00 ++ (vx_atS RX3 68 "java/lang/IllegalArgumentException" ["java/lang/RuntimeException", "java/lang/Exception"]).filter goodWord)
def wsX3_matters_r1 : List Cond := [Cond.methodLink RX3 150 yX3_livingPartWithLeaf, Cond.instanceMethod yX3_livingPartWithLeaf, Cond.selects RX3 yX3_livingPartWithLeaf yX3_livingPartWithLeaf, Cond.initialized RX3, Cond.code yX3_livingPartWithLeaf cX3_livingPartWithLeaf 4 (some (.object "ParcelledTable$Part")), Cond.classLink RX3 217 "java/lang/IndexOutOfBoundsException", Cond.initialized "java/lang/IndexOutOfBoundsException", Cond.methodLink RX3 186 yX3_livingPart, Cond.instanceMethod yX3_livingPart, Cond.selects RX3 yX3_livingPart yX3_livingPart, Cond.code yX3_livingPart cX3_livingPart 3 (some (.object "ParcelledTable$Part")), Cond.fieldLink RX3 87 "ParcelledTable$Part" "state" "I", Cond.methodLink RX3 147 yX3_knownPart, Cond.instanceMethod yX3_knownPart, Cond.selects RX3 yX3_knownPart yX3_knownPart, Cond.code yX3_knownPart cX3_knownPart 3 (some (.object "ParcelledTable$Part")), Cond.fieldLink RX3 18 "ParcelledTable" "allParts" "[LParcelledTable$Part;", Cond.methodLink RX3 226 yX0_leaves, Cond.instanceMethod yX0_leaves, Cond.selects RX0 yX0_leaves yX0_leaves, Cond.initialized RX0, Cond.code yX0_leaves cX0_leaves 1 (some .int), Cond.fieldLink RX0 21 "ParcelledTable$Part" "kind" "I", Cond.fieldLink RX0 24 "ParcelledTable$Part" "detail" "I"]
def wsX3_matters_r2 : List Cond := [Cond.methodLink RX3 162 yX3_checkedQuestion, Cond.static yX3_checkedQuestion, Cond.code yX3_checkedQuestion cX3_checkedQuestion 3 (some (.object "ParcelledTable$Question")), Cond.classLink RX3 64 "java/lang/IllegalArgumentException", Cond.initialized "java/lang/IllegalArgumentException", Cond.classLink RX3 212 RX1, Cond.instantiable RX1 3, Cond.initialized RX1, Cond.methodLink RX3 103 yX3_checkKey, Cond.static yX3_checkKey, Cond.code yX3_checkKey cX3_checkKey 1 none, Cond.methodLink RX3 214 yX1_init, Cond.instanceMethod yX1_init, Cond.code yX1_init cX1_init 4 none, Cond.methodLink RX1 1 objectInit, Cond.instanceMethod objectInit, Cond.code objectInit ⟨#[0xb1]⟩ 1 none, Cond.fieldLink RX1 7 "ParcelledTable$Question" "low" "I", Cond.fieldLink RX1 13 "ParcelledTable$Question" "high" "I", Cond.fieldLink RX1 16 "ParcelledTable$Question" "sorts" "I", Cond.methodLink RX3 177 yX3_mayMatter, Cond.instanceMethod yX3_mayMatter, Cond.selects RX3 yX3_mayMatter yX3_mayMatter, Cond.code yX3_mayMatter cX3_mayMatter 4 (some .boolean)]
def wsX3_matters_r3 : List Cond := [Cond.fieldLink RX3 260 "ParcelledTable$Question" "sorts" "I", Cond.fieldLink RX3 14 "ParcelledTable" "rest" "LParcelledTable$Part;", Cond.fieldLink RX3 263 "ParcelledTable$Question" "low" "I", Cond.fieldLink RX3 266 "ParcelledTable$Question" "high" "I", Cond.methodLink RX3 269 yX3_restMayHold, Cond.instanceMethod yX3_restMayHold, Cond.selects RX3 yX3_restMayHold yX3_restMayHold, Cond.code yX3_restMayHold cX3_restMayHold 6 (some .boolean), Cond.fieldLink RX3 61 "ParcelledTable$Part" "to" "I", Cond.methodLink RX3 118 yX3_holderOf, Cond.instanceMethod yX3_holderOf, Cond.selects RX3 yX3_holderOf yX3_holderOf, Cond.code yX3_holderOf cX3_holderOf 6 (some (.object "ParcelledTable$Part")), Cond.methodLink RX3 243 yX0_covers, Cond.instanceMethod yX0_covers, Cond.selects RX0 yX0_covers yX0_covers, Cond.code yX0_covers cX0_covers 2 (some .boolean), Cond.fieldLink RX0 15 "ParcelledTable$Part" "from" "I", Cond.fieldLink RX0 18 "ParcelledTable$Part" "to" "I", Cond.methodLink RX3 273 yX0_mayHold, Cond.instanceMethod yX0_mayHold, Cond.selects RX0 yX0_mayHold yX0_mayHold, Cond.code yX0_mayHold cX0_mayHold 5 (some .boolean), Cond.fieldLink RX0 38 "ParcelledTable$Question" "low" "I"]
def wsX3_matters_r4 : List Cond := [Cond.methodLink RX0 43 Lib.Math.max.name, Cond.static Lib.Math.max.name, Cond.initialized "java/lang/Math", Cond.code Lib.Math.max.name Lib.Math.max.code 2 (some .int), Cond.fieldLink RX0 49 "ParcelledTable$Question" "high" "I", Cond.methodLink RX0 52 Lib.Math.min.name, Cond.static Lib.Math.min.name, Cond.code Lib.Math.min.name Lib.Math.min.code 2 (some .int), Cond.fieldLink RX0 55 "ParcelledTable$Question" "sorts" "I", Cond.methodLink RX0 58 yX0_sortsByList, Cond.instanceMethod yX0_sortsByList, Cond.selects RX0 yX0_sortsByList yX0_sortsByList, Cond.code yX0_sortsByList cX0_sortsByList 2 (some .int), Cond.methodLink RX0 61 yX0_hashReaches, Cond.instanceMethod yX0_hashReaches, Cond.selects RX0 yX0_hashReaches yX0_hashReaches, Cond.code yX0_hashReaches cX0_hashReaches 6 (some .boolean), Cond.methodLink RX0 34 yX0_leafByHash, Cond.instanceMethod yX0_leafByHash, Cond.selects RX0 yX0_leafByHash yX0_leafByHash, Cond.code yX0_leafByHash cX0_leafByHash 2 (some .int)]
def wsX3_matters : List Cond := .code yX3_matters cX3_matters 7 (some .boolean) :: ((wsX3_matters_r1 ++ (wsX3_matters_r2 ++ (wsX3_matters_r3 ++ wsX3_matters_r4))) ++ wsX00 ++ wsX30 ++ wsX10 ++ (vx_atS RX3 221 "java/lang/IndexOutOfBoundsException" ["java/lang/RuntimeException", "java/lang/Exception"]).filter goodWord ++ (vx_atS RX3 68 "java/lang/IllegalArgumentException" ["java/lang/RuntimeException", "java/lang/Exception"]).filter goodWord)
def wsX3_isStale : List Cond := .code yX3_isStale cX3_isStale 1 (some .boolean) :: ([.fieldLink RX3 90 "ParcelledTable" "stale" "Z"] ++ wsX30)
def wsX3_buildIndex : List Cond := .code yX3_buildIndex cX3_buildIndex 1 (some .int) :: ([.fieldLink RX3 90 "ParcelledTable" "stale" "Z", .methodLink RX3 181 yX3_rows, .instanceMethod yX3_rows, .selects RX3 yX3_rows yX3_rows, .initialized RX3, .code yX3_rows cX3_rows 6 (some .int), .fieldLink RX3 24 "ParcelledTable" "allRows" "[LParcelledTable$Row;", .methodLink RX3 158 yX2_isInTable, .instanceMethod yX2_isInTable, .selects RX2 yX2_isInTable yX2_isInTable, .initialized RX2, .code yX2_isInTable cX2_isInTable 1 (some .boolean), .fieldLink RX2 21 "ParcelledTable$Row" "part" "LParcelledTable$Part;", .fieldLink RX2 25 "ParcelledTable$Part" "state" "I"] ++ wsX30 ++ wsX20 ++ wsX00)
def wsX3_find : List Cond := .code yX3_find cX3_find 7 (some .int) :: ([.classLink RX3 80 "java/lang/IllegalStateException", .initialized "java/lang/IllegalStateException", .fieldLink RX3 90 "ParcelledTable" "stale" "Z", .fieldLink RX3 24 "ParcelledTable" "allRows" "[LParcelledTable$Row;", .fieldLink RX3 141 "ParcelledTable$Row" "value" "I", .methodLink RX3 110 yX3_checkValue, .static yX3_checkValue, .initialized RX3, .code yX3_checkValue cX3_checkValue 1 none, .classLink RX3 64 "java/lang/IllegalArgumentException", .initialized "java/lang/IllegalArgumentException", .methodLink RX3 158 yX2_isInTable, .instanceMethod yX2_isInTable, .selects RX2 yX2_isInTable yX2_isInTable, .initialized RX2, .code yX2_isInTable cX2_isInTable 1 (some .boolean), .fieldLink RX2 21 "ParcelledTable$Row" "part" "LParcelledTable$Part;", .fieldLink RX2 25 "ParcelledTable$Part" "state" "I"] ++ wsX30 ++ wsX20 ++ wsX00 ++ (vx_atS RX3 84 "java/lang/IllegalStateException" ["java/lang/RuntimeException", "java/lang/Exception"]).filter goodWord ++ (vx_atS RX3 68 "java/lang/IllegalArgumentException" ["java/lang/RuntimeException", "java/lang/Exception"]).filter goodWord)
def wsX3_findIn : List Cond := .code yX3_findIn cX3_findIn 9 (some .int) :: ([.fieldLink RX3 24 "ParcelledTable" "allRows" "[LParcelledTable$Row;", .fieldLink RX3 128 "ParcelledTable$Row" "part" "LParcelledTable$Part;", .fieldLink RX3 141 "ParcelledTable$Row" "value" "I", .methodLink RX3 186 yX3_livingPart, .instanceMethod yX3_livingPart, .selects RX3 yX3_livingPart yX3_livingPart, .initialized RX3, .code yX3_livingPart cX3_livingPart 3 (some (.object "ParcelledTable$Part")), .classLink RX3 217 "java/lang/IndexOutOfBoundsException", .initialized "java/lang/IndexOutOfBoundsException", .fieldLink RX3 87 "ParcelledTable$Part" "state" "I", .methodLink RX3 147 yX3_knownPart, .instanceMethod yX3_knownPart, .selects RX3 yX3_knownPart yX3_knownPart, .code yX3_knownPart cX3_knownPart 3 (some (.object "ParcelledTable$Part")), .fieldLink RX3 18 "ParcelledTable" "allParts" "[LParcelledTable$Part;", .methodLink RX3 110 yX3_checkValue, .static yX3_checkValue, .code yX3_checkValue cX3_checkValue 1 none, .classLink RX3 64 "java/lang/IllegalArgumentException", .initialized "java/lang/IllegalArgumentException"] ++ wsX30 ++ wsX20 ++ wsX00 ++ (vx_atS RX3 221 "java/lang/IndexOutOfBoundsException" ["java/lang/RuntimeException", "java/lang/Exception"]).filter goodWord ++ (vx_atS RX3 68 "java/lang/IllegalArgumentException" ["java/lang/RuntimeException", "java/lang/Exception"]).filter goodWord)
def wsX4_init : List Cond := .code yX4_init cX4_init 1 none :: ([.methodLink RX4 1 objectInit, .instanceMethod objectInit, .code objectInit ⟨#[0xb1]⟩ 1 none, .arrayClass .int, .fieldLink RX4 7 "ParcelledTableModel" "from" "[I", .fieldLink RX4 13 "ParcelledTableModel" "to" "[I", .fieldLink RX4 16 "ParcelledTableModel" "kind" "[I", .fieldLink RX4 19 "ParcelledTableModel" "detail" "[I", .fieldLink RX4 22 "ParcelledTableModel" "state" "[I", .fieldLink RX4 25 "ParcelledTableModel" "part" "[I", .fieldLink RX4 28 "ParcelledTableModel" "key" "[I", .fieldLink RX4 31 "ParcelledTableModel" "sort" "[I", .fieldLink RX4 34 "ParcelledTableModel" "value" "[I"] ++ wsX40)
def wsX4_thrown : List Cond := .code yX4_thrown cX4_thrown 1 (some .int) :: ([.fieldLink RX4 37 "ParcelledTableModel" "thrown" "I"] ++ wsX40)
def wsX4_isFine : List Cond := .code yX4_isFine cX4_isFine 2 (some .boolean) :: ([.fieldLink RX4 37 "ParcelledTableModel" "thrown" "I"] ++ wsX40)
def wsX4_isIn : List Cond := .code yX4_isIn cX4_isIn 3 (some .boolean) :: ([])
def wsX4_isKey : List Cond := .code yX4_isKey cX4_isKey 1 (some .boolean) :: ([.methodLink RX4 41 yX4_isIn, .static yX4_isIn, .initialized RX4, .code yX4_isIn cX4_isIn 3 (some .boolean)])
def wsX4_isPart : List Cond := .code yX4_isPart cX4_isPart 2 (some .boolean) :: ([.fieldLink RX4 45 "ParcelledTableModel" "parts" "I", .fieldLink RX4 22 "ParcelledTableModel" "state" "[I", .methodLink RX4 41 yX4_isIn, .static yX4_isIn, .initialized RX4, .code yX4_isIn cX4_isIn 3 (some .boolean)] ++ wsX40)
def wsX4_isAny : List Cond := .code yX4_isAny cX4_isAny 2 (some .boolean) :: ([.methodLink RX4 48 yX4_isPart, .instanceMethod yX4_isPart, .selects RX4 yX4_isPart yX4_isPart, .initialized RX4, .code yX4_isPart cX4_isPart 2 (some .boolean), .fieldLink RX4 45 "ParcelledTableModel" "parts" "I", .fieldLink RX4 22 "ParcelledTableModel" "state" "[I", .methodLink RX4 41 yX4_isIn, .static yX4_isIn, .code yX4_isIn cX4_isIn 3 (some .boolean)] ++ wsX40)
def wsX4_isRow : List Cond := .code yX4_isRow cX4_isRow 2 (some .boolean) :: ([.fieldLink RX4 52 "ParcelledTableModel" "inserted" "I", .fieldLink RX4 25 "ParcelledTableModel" "part" "[I", .methodLink RX4 41 yX4_isIn, .static yX4_isIn, .initialized RX4, .code yX4_isIn cX4_isIn 3 (some .boolean)] ++ wsX40)
def wsX4_isAttached : List Cond := .code yX4_isAttached cX4_isAttached 2 (some .boolean) :: ([.fieldLink RX4 22 "ParcelledTableModel" "state" "[I"] ++ wsX40)
def wsX4_hasKey : List Cond := .code yX4_hasKey cX4_hasKey 3 (some .boolean) :: ([.fieldLink RX4 7 "ParcelledTableModel" "from" "[I", .fieldLink RX4 13 "ParcelledTableModel" "to" "[I", .methodLink RX4 41 yX4_isIn, .static yX4_isIn, .initialized RX4, .code yX4_isIn cX4_isIn 3 (some .boolean)] ++ wsX40)
def wsX4_partWith : List Cond := .code yX4_partWith cX4_partWith 3 (some .int) :: ([.fieldLink RX4 45 "ParcelledTableModel" "parts" "I", .methodLink RX4 55 yX4_isAttached, .instanceMethod yX4_isAttached, .selects RX4 yX4_isAttached yX4_isAttached, .initialized RX4, .code yX4_isAttached cX4_isAttached 2 (some .boolean), .fieldLink RX4 22 "ParcelledTableModel" "state" "[I", .methodLink RX4 58 yX4_hasKey, .instanceMethod yX4_hasKey, .selects RX4 yX4_hasKey yX4_hasKey, .code yX4_hasKey cX4_hasKey 3 (some .boolean), .fieldLink RX4 7 "ParcelledTableModel" "from" "[I", .fieldLink RX4 13 "ParcelledTableModel" "to" "[I", .methodLink RX4 41 yX4_isIn, .static yX4_isIn, .code yX4_isIn cX4_isIn 3 (some .boolean)] ++ wsX40)
def wsX4_leaves : List Cond := .code yX4_leaves cX4_leaves 2 (some .int) :: ([.fieldLink RX4 16 "ParcelledTableModel" "kind" "[I", .fieldLink RX4 19 "ParcelledTableModel" "detail" "[I"] ++ wsX40)
def wsX4_leaf : List Cond := .code yX4_leaf cX4_leaf 4 (some .int) :: ([.fieldLink RX4 16 "ParcelledTableModel" "kind" "[I", .fieldLink RX4 19 "ParcelledTableModel" "detail" "[I"] ++ wsX40)
def wsX4_rowsOf : List Cond := .code yX4_rowsOf cX4_rowsOf 4 (some .int) :: ([.fieldLink RX4 52 "ParcelledTableModel" "inserted" "I", .fieldLink RX4 25 "ParcelledTableModel" "part" "[I"] ++ wsX40)
def wsX4_isInRest : List Cond := .code yX4_isInRest cX4_isInRest 5 (some .boolean) :: ([.fieldLink RX4 52 "ParcelledTableModel" "inserted" "I", .fieldLink RX4 25 "ParcelledTableModel" "part" "[I", .fieldLink RX4 28 "ParcelledTableModel" "key" "[I", .methodLink RX4 41 yX4_isIn, .static yX4_isIn, .initialized RX4, .code yX4_isIn cX4_isIn 3 (some .boolean)] ++ wsX40)
def wsX4_overlaps : List Cond := .code yX4_overlaps cX4_overlaps 5 (some .boolean) :: ([.fieldLink RX4 45 "ParcelledTableModel" "parts" "I", .fieldLink RX4 13 "ParcelledTableModel" "to" "[I", .fieldLink RX4 7 "ParcelledTableModel" "from" "[I", .methodLink RX4 55 yX4_isAttached, .instanceMethod yX4_isAttached, .selects RX4 yX4_isAttached yX4_isAttached, .initialized RX4, .code yX4_isAttached cX4_isAttached 2 (some .boolean), .fieldLink RX4 22 "ParcelledTableModel" "state" "[I"] ++ wsX40)
def wsX4_isShape : List Cond := .code yX4_isShape cX4_isShape 5 (some .boolean) :: ([.methodLink RX4 41 yX4_isIn, .static yX4_isIn, .initialized RX4, .code yX4_isIn cX4_isIn 3 (some .boolean), .methodLink RX4 62 yX4_isKey, .static yX4_isKey, .code yX4_isKey cX4_isKey 1 (some .boolean)])
def wsX4_makes : List Cond := .code yX4_makes cX4_makes 5 (some .int) :: ([.fieldLink RX4 45 "ParcelledTableModel" "parts" "I", .fieldLink RX4 7 "ParcelledTableModel" "from" "[I", .fieldLink RX4 13 "ParcelledTableModel" "to" "[I", .fieldLink RX4 16 "ParcelledTableModel" "kind" "[I", .fieldLink RX4 19 "ParcelledTableModel" "detail" "[I", .fieldLink RX4 22 "ParcelledTableModel" "state" "[I"] ++ wsX40)
def wsX4_moves : List Cond := .code yX4_moves cX4_moves 4 none :: ([.fieldLink RX4 52 "ParcelledTableModel" "inserted" "I", .fieldLink RX4 25 "ParcelledTableModel" "part" "[I", .fieldLink RX4 28 "ParcelledTableModel" "key" "[I", .methodLink RX4 58 yX4_hasKey, .instanceMethod yX4_hasKey, .selects RX4 yX4_hasKey yX4_hasKey, .initialized RX4, .code yX4_hasKey cX4_hasKey 3 (some .boolean), .fieldLink RX4 7 "ParcelledTableModel" "from" "[I", .fieldLink RX4 13 "ParcelledTableModel" "to" "[I", .methodLink RX4 41 yX4_isIn, .static yX4_isIn, .code yX4_isIn cX4_isIn 3 (some .boolean)] ++ wsX40)
def wsX4_makePart_r1 : List Cond := [Cond.fieldLink RX4 45 "ParcelledTableModel" "parts" "I", Cond.methodLink RX4 65 yX4_isShape, Cond.static yX4_isShape, Cond.initialized RX4, Cond.code yX4_isShape cX4_isShape 5 (some .boolean), Cond.methodLink RX4 41 yX4_isIn, Cond.static yX4_isIn, Cond.code yX4_isIn cX4_isIn 3 (some .boolean), Cond.methodLink RX4 62 yX4_isKey, Cond.static yX4_isKey, Cond.code yX4_isKey cX4_isKey 1 (some .boolean), Cond.methodLink RX4 69 yX4_overlaps, Cond.instanceMethod yX4_overlaps, Cond.selects RX4 yX4_overlaps yX4_overlaps, Cond.code yX4_overlaps cX4_overlaps 5 (some .boolean), Cond.fieldLink RX4 13 "ParcelledTableModel" "to" "[I", Cond.fieldLink RX4 7 "ParcelledTableModel" "from" "[I", Cond.methodLink RX4 55 yX4_isAttached, Cond.instanceMethod yX4_isAttached, Cond.selects RX4 yX4_isAttached yX4_isAttached, Cond.code yX4_isAttached cX4_isAttached 2 (some .boolean), Cond.fieldLink RX4 22 "ParcelledTableModel" "state" "[I", Cond.methodLink RX4 72 yX4_isInRest, Cond.instanceMethod yX4_isInRest]
def wsX4_makePart_r2 : List Cond := [Cond.selects RX4 yX4_isInRest yX4_isInRest, Cond.code yX4_isInRest cX4_isInRest 5 (some .boolean), Cond.fieldLink RX4 52 "ParcelledTableModel" "inserted" "I", Cond.fieldLink RX4 25 "ParcelledTableModel" "part" "[I", Cond.fieldLink RX4 28 "ParcelledTableModel" "key" "[I", Cond.methodLink RX4 75 yX4_isFine, Cond.instanceMethod yX4_isFine, Cond.selects RX4 yX4_isFine yX4_isFine, Cond.code yX4_isFine cX4_isFine 2 (some .boolean), Cond.fieldLink RX4 37 "ParcelledTableModel" "thrown" "I", Cond.methodLink RX4 78 yX4_makes, Cond.instanceMethod yX4_makes, Cond.selects RX4 yX4_makes yX4_makes, Cond.code yX4_makes cX4_makes 5 (some .int), Cond.fieldLink RX4 16 "ParcelledTableModel" "kind" "[I", Cond.fieldLink RX4 19 "ParcelledTableModel" "detail" "[I"]
def wsX4_makePart : List Cond := .code yX4_makePart cX4_makePart 6 (some .int) :: ((wsX4_makePart_r1 ++ wsX4_makePart_r2) ++ wsX40)
def wsX4_carveOut_r1 : List Cond := [Cond.fieldLink RX4 45 "ParcelledTableModel" "parts" "I", Cond.methodLink RX4 65 yX4_isShape, Cond.static yX4_isShape, Cond.initialized RX4, Cond.code yX4_isShape cX4_isShape 5 (some .boolean), Cond.methodLink RX4 41 yX4_isIn, Cond.static yX4_isIn, Cond.code yX4_isIn cX4_isIn 3 (some .boolean), Cond.methodLink RX4 62 yX4_isKey, Cond.static yX4_isKey, Cond.code yX4_isKey cX4_isKey 1 (some .boolean), Cond.methodLink RX4 69 yX4_overlaps, Cond.instanceMethod yX4_overlaps, Cond.selects RX4 yX4_overlaps yX4_overlaps, Cond.code yX4_overlaps cX4_overlaps 5 (some .boolean), Cond.fieldLink RX4 13 "ParcelledTableModel" "to" "[I", Cond.fieldLink RX4 7 "ParcelledTableModel" "from" "[I", Cond.methodLink RX4 55 yX4_isAttached, Cond.instanceMethod yX4_isAttached, Cond.selects RX4 yX4_isAttached yX4_isAttached, Cond.code yX4_isAttached cX4_isAttached 2 (some .boolean), Cond.fieldLink RX4 22 "ParcelledTableModel" "state" "[I", Cond.methodLink RX4 75 yX4_isFine, Cond.instanceMethod yX4_isFine]
def wsX4_carveOut_r2 : List Cond := [Cond.selects RX4 yX4_isFine yX4_isFine, Cond.code yX4_isFine cX4_isFine 2 (some .boolean), Cond.fieldLink RX4 37 "ParcelledTableModel" "thrown" "I", Cond.methodLink RX4 78 yX4_makes, Cond.instanceMethod yX4_makes, Cond.selects RX4 yX4_makes yX4_makes, Cond.code yX4_makes cX4_makes 5 (some .int), Cond.fieldLink RX4 16 "ParcelledTableModel" "kind" "[I", Cond.fieldLink RX4 19 "ParcelledTableModel" "detail" "[I", Cond.methodLink RX4 82 yX4_moves, Cond.instanceMethod yX4_moves, Cond.selects RX4 yX4_moves yX4_moves, Cond.code yX4_moves cX4_moves 4 none, Cond.fieldLink RX4 52 "ParcelledTableModel" "inserted" "I", Cond.fieldLink RX4 25 "ParcelledTableModel" "part" "[I", Cond.fieldLink RX4 28 "ParcelledTableModel" "key" "[I", Cond.methodLink RX4 58 yX4_hasKey, Cond.instanceMethod yX4_hasKey, Cond.selects RX4 yX4_hasKey yX4_hasKey, Cond.code yX4_hasKey cX4_hasKey 3 (some .boolean), Cond.methodLink RX4 86 yX4_rowsOf, Cond.instanceMethod yX4_rowsOf, Cond.selects RX4 yX4_rowsOf yX4_rowsOf, Cond.code yX4_rowsOf cX4_rowsOf 4 (some .int)]
def wsX4_carveOut : List Cond := .code yX4_carveOut cX4_carveOut 7 (some .int) :: ((wsX4_carveOut_r1 ++ wsX4_carveOut_r2) ++ wsX40)
def wsX4_split_r1 : List Cond := [Cond.fieldLink RX4 7 "ParcelledTableModel" "from" "[I", Cond.fieldLink RX4 13 "ParcelledTableModel" "to" "[I", Cond.fieldLink RX4 45 "ParcelledTableModel" "parts" "I", Cond.fieldLink RX4 22 "ParcelledTableModel" "state" "[I", Cond.fieldLink RX4 16 "ParcelledTableModel" "kind" "[I", Cond.fieldLink RX4 19 "ParcelledTableModel" "detail" "[I", Cond.methodLink RX4 48 yX4_isPart, Cond.instanceMethod yX4_isPart, Cond.selects RX4 yX4_isPart yX4_isPart, Cond.initialized RX4, Cond.code yX4_isPart cX4_isPart 2 (some .boolean), Cond.methodLink RX4 41 yX4_isIn, Cond.static yX4_isIn, Cond.code yX4_isIn cX4_isIn 3 (some .boolean), Cond.methodLink RX4 75 yX4_isFine, Cond.instanceMethod yX4_isFine, Cond.selects RX4 yX4_isFine yX4_isFine, Cond.code yX4_isFine cX4_isFine 2 (some .boolean), Cond.fieldLink RX4 37 "ParcelledTableModel" "thrown" "I", Cond.methodLink RX4 78 yX4_makes, Cond.instanceMethod yX4_makes, Cond.selects RX4 yX4_makes yX4_makes, Cond.code yX4_makes cX4_makes 5 (some .int), Cond.methodLink RX4 82 yX4_moves]
def wsX4_split_r2 : List Cond := [Cond.instanceMethod yX4_moves, Cond.selects RX4 yX4_moves yX4_moves, Cond.code yX4_moves cX4_moves 4 none, Cond.fieldLink RX4 52 "ParcelledTableModel" "inserted" "I", Cond.fieldLink RX4 25 "ParcelledTableModel" "part" "[I", Cond.fieldLink RX4 28 "ParcelledTableModel" "key" "[I", Cond.methodLink RX4 58 yX4_hasKey, Cond.instanceMethod yX4_hasKey, Cond.selects RX4 yX4_hasKey yX4_hasKey, Cond.code yX4_hasKey cX4_hasKey 3 (some .boolean)]
def wsX4_split : List Cond := .code yX4_split cX4_split 5 (some .int) :: ((wsX4_split_r1 ++ wsX4_split_r2) ++ wsX40)
def wsX4_merge_r1 : List Cond := [Cond.fieldLink RX4 22 "ParcelledTableModel" "state" "[I", Cond.fieldLink RX4 7 "ParcelledTableModel" "from" "[I", Cond.fieldLink RX4 13 "ParcelledTableModel" "to" "[I", Cond.fieldLink RX4 16 "ParcelledTableModel" "kind" "[I", Cond.fieldLink RX4 19 "ParcelledTableModel" "detail" "[I", Cond.methodLink RX4 48 yX4_isPart, Cond.instanceMethod yX4_isPart, Cond.selects RX4 yX4_isPart yX4_isPart, Cond.initialized RX4, Cond.code yX4_isPart cX4_isPart 2 (some .boolean), Cond.fieldLink RX4 45 "ParcelledTableModel" "parts" "I", Cond.methodLink RX4 41 yX4_isIn, Cond.static yX4_isIn, Cond.code yX4_isIn cX4_isIn 3 (some .boolean), Cond.methodLink RX4 75 yX4_isFine, Cond.instanceMethod yX4_isFine, Cond.selects RX4 yX4_isFine yX4_isFine, Cond.code yX4_isFine cX4_isFine 2 (some .boolean), Cond.fieldLink RX4 37 "ParcelledTableModel" "thrown" "I", Cond.methodLink RX4 82 yX4_moves, Cond.instanceMethod yX4_moves, Cond.selects RX4 yX4_moves yX4_moves, Cond.code yX4_moves cX4_moves 4 none, Cond.fieldLink RX4 52 "ParcelledTableModel" "inserted" "I"]
def wsX4_merge_r2 : List Cond := [Cond.fieldLink RX4 25 "ParcelledTableModel" "part" "[I", Cond.fieldLink RX4 28 "ParcelledTableModel" "key" "[I", Cond.methodLink RX4 58 yX4_hasKey, Cond.instanceMethod yX4_hasKey, Cond.selects RX4 yX4_hasKey yX4_hasKey, Cond.code yX4_hasKey cX4_hasKey 3 (some .boolean), Cond.methodLink RX4 86 yX4_rowsOf, Cond.instanceMethod yX4_rowsOf, Cond.selects RX4 yX4_rowsOf yX4_rowsOf, Cond.code yX4_rowsOf cX4_rowsOf 4 (some .int)]
def wsX4_merge : List Cond := .code yX4_merge cX4_merge 5 (some .int) :: ((wsX4_merge_r1 ++ wsX4_merge_r2) ++ wsX40)
def wsX4_detach : List Cond := .code yX4_detach cX4_detach 3 (some .int) :: ([.fieldLink RX4 22 "ParcelledTableModel" "state" "[I", .fieldLink RX4 90 "ParcelledTableModel" "isStale" "Z", .methodLink RX4 48 yX4_isPart, .instanceMethod yX4_isPart, .selects RX4 yX4_isPart yX4_isPart, .initialized RX4, .code yX4_isPart cX4_isPart 2 (some .boolean), .fieldLink RX4 45 "ParcelledTableModel" "parts" "I", .methodLink RX4 41 yX4_isIn, .static yX4_isIn, .code yX4_isIn cX4_isIn 3 (some .boolean), .methodLink RX4 75 yX4_isFine, .instanceMethod yX4_isFine, .selects RX4 yX4_isFine yX4_isFine, .code yX4_isFine cX4_isFine 2 (some .boolean), .fieldLink RX4 37 "ParcelledTableModel" "thrown" "I", .methodLink RX4 86 yX4_rowsOf, .instanceMethod yX4_rowsOf, .selects RX4 yX4_rowsOf yX4_rowsOf, .code yX4_rowsOf cX4_rowsOf 4 (some .int), .fieldLink RX4 52 "ParcelledTableModel" "inserted" "I", .fieldLink RX4 25 "ParcelledTableModel" "part" "[I"] ++ wsX40)
def wsX4_attach_r1 : List Cond := [Cond.fieldLink RX4 22 "ParcelledTableModel" "state" "[I", Cond.fieldLink RX4 7 "ParcelledTableModel" "from" "[I", Cond.fieldLink RX4 13 "ParcelledTableModel" "to" "[I", Cond.fieldLink RX4 90 "ParcelledTableModel" "isStale" "Z", Cond.methodLink RX4 48 yX4_isPart, Cond.instanceMethod yX4_isPart, Cond.selects RX4 yX4_isPart yX4_isPart, Cond.initialized RX4, Cond.code yX4_isPart cX4_isPart 2 (some .boolean), Cond.fieldLink RX4 45 "ParcelledTableModel" "parts" "I", Cond.methodLink RX4 41 yX4_isIn, Cond.static yX4_isIn, Cond.code yX4_isIn cX4_isIn 3 (some .boolean), Cond.methodLink RX4 69 yX4_overlaps, Cond.instanceMethod yX4_overlaps, Cond.selects RX4 yX4_overlaps yX4_overlaps, Cond.code yX4_overlaps cX4_overlaps 5 (some .boolean), Cond.methodLink RX4 55 yX4_isAttached, Cond.instanceMethod yX4_isAttached, Cond.selects RX4 yX4_isAttached yX4_isAttached, Cond.code yX4_isAttached cX4_isAttached 2 (some .boolean), Cond.methodLink RX4 72 yX4_isInRest, Cond.instanceMethod yX4_isInRest, Cond.selects RX4 yX4_isInRest yX4_isInRest]
def wsX4_attach_r2 : List Cond := [Cond.code yX4_isInRest cX4_isInRest 5 (some .boolean), Cond.fieldLink RX4 52 "ParcelledTableModel" "inserted" "I", Cond.fieldLink RX4 25 "ParcelledTableModel" "part" "[I", Cond.fieldLink RX4 28 "ParcelledTableModel" "key" "[I", Cond.methodLink RX4 75 yX4_isFine, Cond.instanceMethod yX4_isFine, Cond.selects RX4 yX4_isFine yX4_isFine, Cond.code yX4_isFine cX4_isFine 2 (some .boolean), Cond.fieldLink RX4 37 "ParcelledTableModel" "thrown" "I", Cond.methodLink RX4 86 yX4_rowsOf, Cond.instanceMethod yX4_rowsOf, Cond.selects RX4 yX4_rowsOf yX4_rowsOf, Cond.code yX4_rowsOf cX4_rowsOf 4 (some .int)]
def wsX4_attach : List Cond := .code yX4_attach cX4_attach 3 (some .int) :: ((wsX4_attach_r1 ++ wsX4_attach_r2) ++ wsX40)
def wsX4_fits : List Cond := .code yX4_fits cX4_fits 5 (some .boolean) :: ([.fieldLink RX4 52 "ParcelledTableModel" "inserted" "I", .fieldLink RX4 25 "ParcelledTableModel" "part" "[I", .fieldLink RX4 28 "ParcelledTableModel" "key" "[I", .methodLink RX4 58 yX4_hasKey, .instanceMethod yX4_hasKey, .selects RX4 yX4_hasKey yX4_hasKey, .initialized RX4, .code yX4_hasKey cX4_hasKey 3 (some .boolean), .fieldLink RX4 7 "ParcelledTableModel" "from" "[I", .fieldLink RX4 13 "ParcelledTableModel" "to" "[I", .methodLink RX4 41 yX4_isIn, .static yX4_isIn, .code yX4_isIn cX4_isIn 3 (some .boolean)] ++ wsX40)
def wsX4_exchange_r1 : List Cond := [Cond.fieldLink RX4 22 "ParcelledTableModel" "state" "[I", Cond.fieldLink RX4 52 "ParcelledTableModel" "inserted" "I", Cond.fieldLink RX4 25 "ParcelledTableModel" "part" "[I", Cond.fieldLink RX4 90 "ParcelledTableModel" "isStale" "Z", Cond.methodLink RX4 48 yX4_isPart, Cond.instanceMethod yX4_isPart, Cond.selects RX4 yX4_isPart yX4_isPart, Cond.initialized RX4, Cond.code yX4_isPart cX4_isPart 2 (some .boolean), Cond.fieldLink RX4 45 "ParcelledTableModel" "parts" "I", Cond.methodLink RX4 41 yX4_isIn, Cond.static yX4_isIn, Cond.code yX4_isIn cX4_isIn 3 (some .boolean), Cond.methodLink RX4 94 yX4_fits, Cond.instanceMethod yX4_fits, Cond.selects RX4 yX4_fits yX4_fits, Cond.code yX4_fits cX4_fits 5 (some .boolean), Cond.fieldLink RX4 28 "ParcelledTableModel" "key" "[I", Cond.methodLink RX4 58 yX4_hasKey, Cond.instanceMethod yX4_hasKey, Cond.selects RX4 yX4_hasKey yX4_hasKey, Cond.code yX4_hasKey cX4_hasKey 3 (some .boolean), Cond.fieldLink RX4 7 "ParcelledTableModel" "from" "[I", Cond.fieldLink RX4 13 "ParcelledTableModel" "to" "[I"]
def wsX4_exchange_r2 : List Cond := [Cond.methodLink RX4 75 yX4_isFine, Cond.instanceMethod yX4_isFine, Cond.selects RX4 yX4_isFine yX4_isFine, Cond.code yX4_isFine cX4_isFine 2 (some .boolean), Cond.fieldLink RX4 37 "ParcelledTableModel" "thrown" "I", Cond.methodLink RX4 86 yX4_rowsOf, Cond.instanceMethod yX4_rowsOf, Cond.selects RX4 yX4_rowsOf yX4_rowsOf, Cond.code yX4_rowsOf cX4_rowsOf 4 (some .int)]
def wsX4_exchange : List Cond := .code yX4_exchange cX4_exchange 7 (some .int) :: ((wsX4_exchange_r1 ++ wsX4_exchange_r2) ++ wsX40)
def wsX4_isShaped : List Cond := .code yX4_isShaped cX4_isShaped 2 (some .boolean) :: ([.methodLink RX4 62 yX4_isKey, .static yX4_isKey, .initialized RX4, .code yX4_isKey cX4_isKey 1 (some .boolean), .methodLink RX4 41 yX4_isIn, .static yX4_isIn, .code yX4_isIn cX4_isIn 3 (some .boolean)])
def wsX4_insert_r1 : List Cond := [Cond.fieldLink RX4 52 "ParcelledTableModel" "inserted" "I", Cond.fieldLink RX4 28 "ParcelledTableModel" "key" "[I", Cond.fieldLink RX4 31 "ParcelledTableModel" "sort" "[I", Cond.fieldLink RX4 34 "ParcelledTableModel" "value" "[I", Cond.fieldLink RX4 25 "ParcelledTableModel" "part" "[I", Cond.methodLink RX4 97 yX4_isShaped, Cond.static yX4_isShaped, Cond.initialized RX4, Cond.code yX4_isShaped cX4_isShaped 2 (some .boolean), Cond.methodLink RX4 62 yX4_isKey, Cond.static yX4_isKey, Cond.code yX4_isKey cX4_isKey 1 (some .boolean), Cond.methodLink RX4 41 yX4_isIn, Cond.static yX4_isIn, Cond.code yX4_isIn cX4_isIn 3 (some .boolean), Cond.methodLink RX4 75 yX4_isFine, Cond.instanceMethod yX4_isFine, Cond.selects RX4 yX4_isFine yX4_isFine, Cond.code yX4_isFine cX4_isFine 2 (some .boolean), Cond.fieldLink RX4 37 "ParcelledTableModel" "thrown" "I", Cond.methodLink RX4 100 yX4_partWith, Cond.instanceMethod yX4_partWith, Cond.selects RX4 yX4_partWith yX4_partWith, Cond.code yX4_partWith cX4_partWith 3 (some .int)]
def wsX4_insert_r2 : List Cond := [Cond.fieldLink RX4 45 "ParcelledTableModel" "parts" "I", Cond.methodLink RX4 55 yX4_isAttached, Cond.instanceMethod yX4_isAttached, Cond.selects RX4 yX4_isAttached yX4_isAttached, Cond.code yX4_isAttached cX4_isAttached 2 (some .boolean), Cond.fieldLink RX4 22 "ParcelledTableModel" "state" "[I", Cond.methodLink RX4 58 yX4_hasKey, Cond.instanceMethod yX4_hasKey, Cond.selects RX4 yX4_hasKey yX4_hasKey, Cond.code yX4_hasKey cX4_hasKey 3 (some .boolean), Cond.fieldLink RX4 7 "ParcelledTableModel" "from" "[I", Cond.fieldLink RX4 13 "ParcelledTableModel" "to" "[I"]
def wsX4_insert : List Cond := .code yX4_insert cX4_insert 5 (some .int) :: ((wsX4_insert_r1 ++ wsX4_insert_r2) ++ wsX40)
def wsX4_place : List Cond := .code yX4_place cX4_place 2 (some .int) :: ([.fieldLink RX4 25 "ParcelledTableModel" "part" "[I", .fieldLink RX4 28 "ParcelledTableModel" "key" "[I", .fieldLink RX4 31 "ParcelledTableModel" "sort" "[I", .methodLink RX4 103 yX4_leaf, .instanceMethod yX4_leaf, .selects RX4 yX4_leaf yX4_leaf, .initialized RX4, .code yX4_leaf cX4_leaf 4 (some .int), .fieldLink RX4 16 "ParcelledTableModel" "kind" "[I", .fieldLink RX4 19 "ParcelledTableModel" "detail" "[I"] ++ wsX40)
def wsX4_isTabled : List Cond := .code yX4_isTabled cX4_isTabled 2 (some .boolean) :: ([.fieldLink RX4 25 "ParcelledTableModel" "part" "[I", .fieldLink RX4 22 "ParcelledTableModel" "state" "[I"] ++ wsX40)
def wsX4_change_r1 : List Cond := [Cond.fieldLink RX4 28 "ParcelledTableModel" "key" "[I", Cond.fieldLink RX4 31 "ParcelledTableModel" "sort" "[I", Cond.fieldLink RX4 25 "ParcelledTableModel" "part" "[I", Cond.methodLink RX4 107 yX4_isRow, Cond.instanceMethod yX4_isRow, Cond.selects RX4 yX4_isRow yX4_isRow, Cond.initialized RX4, Cond.code yX4_isRow cX4_isRow 2 (some .boolean), Cond.fieldLink RX4 52 "ParcelledTableModel" "inserted" "I", Cond.methodLink RX4 41 yX4_isIn, Cond.static yX4_isIn, Cond.code yX4_isIn cX4_isIn 3 (some .boolean), Cond.methodLink RX4 97 yX4_isShaped, Cond.static yX4_isShaped, Cond.code yX4_isShaped cX4_isShaped 2 (some .boolean), Cond.methodLink RX4 62 yX4_isKey, Cond.static yX4_isKey, Cond.code yX4_isKey cX4_isKey 1 (some .boolean), Cond.methodLink RX4 110 yX4_isTabled, Cond.instanceMethod yX4_isTabled, Cond.selects RX4 yX4_isTabled yX4_isTabled, Cond.code yX4_isTabled cX4_isTabled 2 (some .boolean), Cond.fieldLink RX4 22 "ParcelledTableModel" "state" "[I", Cond.methodLink RX4 75 yX4_isFine]
def wsX4_change_r2 : List Cond := [Cond.instanceMethod yX4_isFine, Cond.selects RX4 yX4_isFine yX4_isFine, Cond.code yX4_isFine cX4_isFine 2 (some .boolean), Cond.fieldLink RX4 37 "ParcelledTableModel" "thrown" "I", Cond.methodLink RX4 113 yX4_place, Cond.instanceMethod yX4_place, Cond.selects RX4 yX4_place yX4_place, Cond.code yX4_place cX4_place 2 (some .int), Cond.methodLink RX4 103 yX4_leaf, Cond.instanceMethod yX4_leaf, Cond.selects RX4 yX4_leaf yX4_leaf, Cond.code yX4_leaf cX4_leaf 4 (some .int), Cond.fieldLink RX4 16 "ParcelledTableModel" "kind" "[I", Cond.fieldLink RX4 19 "ParcelledTableModel" "detail" "[I", Cond.methodLink RX4 100 yX4_partWith, Cond.instanceMethod yX4_partWith, Cond.selects RX4 yX4_partWith yX4_partWith, Cond.code yX4_partWith cX4_partWith 3 (some .int), Cond.fieldLink RX4 45 "ParcelledTableModel" "parts" "I", Cond.methodLink RX4 55 yX4_isAttached, Cond.instanceMethod yX4_isAttached, Cond.selects RX4 yX4_isAttached yX4_isAttached, Cond.code yX4_isAttached cX4_isAttached 2 (some .boolean), Cond.methodLink RX4 58 yX4_hasKey]
def wsX4_change_r3 : List Cond := [Cond.instanceMethod yX4_hasKey, Cond.selects RX4 yX4_hasKey yX4_hasKey, Cond.code yX4_hasKey cX4_hasKey 3 (some .boolean), Cond.fieldLink RX4 7 "ParcelledTableModel" "from" "[I", Cond.fieldLink RX4 13 "ParcelledTableModel" "to" "[I"]
def wsX4_change : List Cond := .code yX4_change cX4_change 6 (some .boolean) :: ((wsX4_change_r1 ++ (wsX4_change_r2 ++ wsX4_change_r3)) ++ wsX40)
def wsX4_remove : List Cond := .code yX4_remove cX4_remove 2 (some .int) :: ([.fieldLink RX4 25 "ParcelledTableModel" "part" "[I", .fieldLink RX4 34 "ParcelledTableModel" "value" "[I", .methodLink RX4 107 yX4_isRow, .instanceMethod yX4_isRow, .selects RX4 yX4_isRow yX4_isRow, .initialized RX4, .code yX4_isRow cX4_isRow 2 (some .boolean), .fieldLink RX4 52 "ParcelledTableModel" "inserted" "I", .methodLink RX4 41 yX4_isIn, .static yX4_isIn, .code yX4_isIn cX4_isIn 3 (some .boolean), .methodLink RX4 75 yX4_isFine, .instanceMethod yX4_isFine, .selects RX4 yX4_isFine yX4_isFine, .code yX4_isFine cX4_isFine 2 (some .boolean), .fieldLink RX4 37 "ParcelledTableModel" "thrown" "I"] ++ wsX40)
def wsX4_parts : List Cond := .code yX4_parts cX4_parts 1 (some .int) :: ([.fieldLink RX4 37 "ParcelledTableModel" "thrown" "I", .fieldLink RX4 45 "ParcelledTableModel" "parts" "I"] ++ wsX40)
def wsX4_stateOf : List Cond := .code yX4_stateOf cX4_stateOf 2 (some .int) :: ([.fieldLink RX4 45 "ParcelledTableModel" "parts" "I", .fieldLink RX4 22 "ParcelledTableModel" "state" "[I", .methodLink RX4 41 yX4_isIn, .static yX4_isIn, .initialized RX4, .code yX4_isIn cX4_isIn 3 (some .boolean), .methodLink RX4 75 yX4_isFine, .instanceMethod yX4_isFine, .selects RX4 yX4_isFine yX4_isFine, .code yX4_isFine cX4_isFine 2 (some .boolean), .fieldLink RX4 37 "ParcelledTableModel" "thrown" "I"] ++ wsX40)
def wsX4_partOf_r1 : List Cond := [Cond.methodLink RX4 62 yX4_isKey, Cond.static yX4_isKey, Cond.initialized RX4, Cond.code yX4_isKey cX4_isKey 1 (some .boolean), Cond.methodLink RX4 41 yX4_isIn, Cond.static yX4_isIn, Cond.code yX4_isIn cX4_isIn 3 (some .boolean), Cond.methodLink RX4 75 yX4_isFine, Cond.instanceMethod yX4_isFine, Cond.selects RX4 yX4_isFine yX4_isFine, Cond.code yX4_isFine cX4_isFine 2 (some .boolean), Cond.fieldLink RX4 37 "ParcelledTableModel" "thrown" "I", Cond.methodLink RX4 100 yX4_partWith, Cond.instanceMethod yX4_partWith, Cond.selects RX4 yX4_partWith yX4_partWith, Cond.code yX4_partWith cX4_partWith 3 (some .int), Cond.fieldLink RX4 45 "ParcelledTableModel" "parts" "I", Cond.methodLink RX4 55 yX4_isAttached, Cond.instanceMethod yX4_isAttached, Cond.selects RX4 yX4_isAttached yX4_isAttached, Cond.code yX4_isAttached cX4_isAttached 2 (some .boolean), Cond.fieldLink RX4 22 "ParcelledTableModel" "state" "[I", Cond.methodLink RX4 58 yX4_hasKey, Cond.instanceMethod yX4_hasKey]
def wsX4_partOf_r2 : List Cond := [Cond.selects RX4 yX4_hasKey yX4_hasKey, Cond.code yX4_hasKey cX4_hasKey 3 (some .boolean), Cond.fieldLink RX4 7 "ParcelledTableModel" "from" "[I", Cond.fieldLink RX4 13 "ParcelledTableModel" "to" "[I"]
def wsX4_partOf : List Cond := .code yX4_partOf cX4_partOf 2 (some .int) :: ((wsX4_partOf_r1 ++ wsX4_partOf_r2) ++ wsX40)
def wsX4_leafOf_r1 : List Cond := [Cond.methodLink RX4 107 yX4_isRow, Cond.instanceMethod yX4_isRow, Cond.selects RX4 yX4_isRow yX4_isRow, Cond.initialized RX4, Cond.code yX4_isRow cX4_isRow 2 (some .boolean), Cond.fieldLink RX4 52 "ParcelledTableModel" "inserted" "I", Cond.fieldLink RX4 25 "ParcelledTableModel" "part" "[I", Cond.methodLink RX4 41 yX4_isIn, Cond.static yX4_isIn, Cond.code yX4_isIn cX4_isIn 3 (some .boolean), Cond.methodLink RX4 75 yX4_isFine, Cond.instanceMethod yX4_isFine, Cond.selects RX4 yX4_isFine yX4_isFine, Cond.code yX4_isFine cX4_isFine 2 (some .boolean), Cond.fieldLink RX4 37 "ParcelledTableModel" "thrown" "I", Cond.methodLink RX4 113 yX4_place, Cond.instanceMethod yX4_place, Cond.selects RX4 yX4_place yX4_place, Cond.code yX4_place cX4_place 2 (some .int), Cond.fieldLink RX4 28 "ParcelledTableModel" "key" "[I", Cond.fieldLink RX4 31 "ParcelledTableModel" "sort" "[I", Cond.methodLink RX4 103 yX4_leaf, Cond.instanceMethod yX4_leaf, Cond.selects RX4 yX4_leaf yX4_leaf]
def wsX4_leafOf_r2 : List Cond := [Cond.code yX4_leaf cX4_leaf 4 (some .int), Cond.fieldLink RX4 16 "ParcelledTableModel" "kind" "[I", Cond.fieldLink RX4 19 "ParcelledTableModel" "detail" "[I"]
def wsX4_leafOf : List Cond := .code yX4_leafOf cX4_leafOf 2 (some .int) :: ((wsX4_leafOf_r1 ++ wsX4_leafOf_r2) ++ wsX40)
def wsX4_isLeaf : List Cond := .code yX4_isLeaf cX4_isLeaf 3 (some .boolean) :: ([.methodLink RX4 116 yX4_isAny, .instanceMethod yX4_isAny, .selects RX4 yX4_isAny yX4_isAny, .initialized RX4, .code yX4_isAny cX4_isAny 2 (some .boolean), .methodLink RX4 48 yX4_isPart, .instanceMethod yX4_isPart, .selects RX4 yX4_isPart yX4_isPart, .code yX4_isPart cX4_isPart 2 (some .boolean), .fieldLink RX4 45 "ParcelledTableModel" "parts" "I", .fieldLink RX4 22 "ParcelledTableModel" "state" "[I", .methodLink RX4 41 yX4_isIn, .static yX4_isIn, .code yX4_isIn cX4_isIn 3 (some .boolean), .methodLink RX4 119 yX4_leaves, .instanceMethod yX4_leaves, .selects RX4 yX4_leaves yX4_leaves, .code yX4_leaves cX4_leaves 2 (some .int), .fieldLink RX4 16 "ParcelledTableModel" "kind" "[I", .fieldLink RX4 19 "ParcelledTableModel" "detail" "[I"] ++ wsX40)
def wsX4_rowsIn_r1 : List Cond := [Cond.fieldLink RX4 52 "ParcelledTableModel" "inserted" "I", Cond.fieldLink RX4 25 "ParcelledTableModel" "part" "[I", Cond.fieldLink RX4 28 "ParcelledTableModel" "key" "[I", Cond.fieldLink RX4 31 "ParcelledTableModel" "sort" "[I", Cond.methodLink RX4 122 yX4_isLeaf, Cond.instanceMethod yX4_isLeaf, Cond.selects RX4 yX4_isLeaf yX4_isLeaf, Cond.initialized RX4, Cond.code yX4_isLeaf cX4_isLeaf 3 (some .boolean), Cond.methodLink RX4 116 yX4_isAny, Cond.instanceMethod yX4_isAny, Cond.selects RX4 yX4_isAny yX4_isAny, Cond.code yX4_isAny cX4_isAny 2 (some .boolean), Cond.methodLink RX4 48 yX4_isPart, Cond.instanceMethod yX4_isPart, Cond.selects RX4 yX4_isPart yX4_isPart, Cond.code yX4_isPart cX4_isPart 2 (some .boolean), Cond.fieldLink RX4 45 "ParcelledTableModel" "parts" "I", Cond.fieldLink RX4 22 "ParcelledTableModel" "state" "[I", Cond.methodLink RX4 41 yX4_isIn, Cond.static yX4_isIn, Cond.code yX4_isIn cX4_isIn 3 (some .boolean), Cond.methodLink RX4 119 yX4_leaves, Cond.instanceMethod yX4_leaves]
def wsX4_rowsIn_r2 : List Cond := [Cond.selects RX4 yX4_leaves yX4_leaves, Cond.code yX4_leaves cX4_leaves 2 (some .int), Cond.fieldLink RX4 16 "ParcelledTableModel" "kind" "[I", Cond.fieldLink RX4 19 "ParcelledTableModel" "detail" "[I", Cond.methodLink RX4 75 yX4_isFine, Cond.instanceMethod yX4_isFine, Cond.selects RX4 yX4_isFine yX4_isFine, Cond.code yX4_isFine cX4_isFine 2 (some .boolean), Cond.fieldLink RX4 37 "ParcelledTableModel" "thrown" "I", Cond.methodLink RX4 103 yX4_leaf, Cond.instanceMethod yX4_leaf, Cond.selects RX4 yX4_leaf yX4_leaf, Cond.code yX4_leaf cX4_leaf 4 (some .int)]
def wsX4_rowsIn : List Cond := .code yX4_rowsIn cX4_rowsIn 5 (some .int) :: ((wsX4_rowsIn_r1 ++ wsX4_rowsIn_r2) ++ wsX40)
def wsX4_rows : List Cond := .code yX4_rows cX4_rows 3 (some .int) :: ([.fieldLink RX4 37 "ParcelledTableModel" "thrown" "I", .fieldLink RX4 52 "ParcelledTableModel" "inserted" "I", .methodLink RX4 110 yX4_isTabled, .instanceMethod yX4_isTabled, .selects RX4 yX4_isTabled yX4_isTabled, .initialized RX4, .code yX4_isTabled cX4_isTabled 2 (some .boolean), .fieldLink RX4 25 "ParcelledTableModel" "part" "[I", .fieldLink RX4 22 "ParcelledTableModel" "state" "[I"] ++ wsX40)
def wsX4_isQuestion : List Cond := .code yX4_isQuestion cX4_isQuestion 3 (some .boolean) :: ([.methodLink RX4 62 yX4_isKey, .static yX4_isKey, .initialized RX4, .code yX4_isKey cX4_isKey 1 (some .boolean), .methodLink RX4 41 yX4_isIn, .static yX4_isIn, .code yX4_isIn cX4_isIn 3 (some .boolean)])
def wsX4_counted : List Cond := .code yX4_counted cX4_counted 6 (some .int) :: ([.fieldLink RX4 52 "ParcelledTableModel" "inserted" "I", .fieldLink RX4 28 "ParcelledTableModel" "key" "[I", .fieldLink RX4 31 "ParcelledTableModel" "sort" "[I", .methodLink RX4 110 yX4_isTabled, .instanceMethod yX4_isTabled, .selects RX4 yX4_isTabled yX4_isTabled, .initialized RX4, .code yX4_isTabled cX4_isTabled 2 (some .boolean), .fieldLink RX4 25 "ParcelledTableModel" "part" "[I", .fieldLink RX4 22 "ParcelledTableModel" "state" "[I", .methodLink RX4 41 yX4_isIn, .static yX4_isIn, .code yX4_isIn cX4_isIn 3 (some .boolean)] ++ wsX40)
def wsX4_count_r1 : List Cond := [Cond.methodLink RX4 125 yX4_isQuestion, Cond.static yX4_isQuestion, Cond.initialized RX4, Cond.code yX4_isQuestion cX4_isQuestion 3 (some .boolean), Cond.methodLink RX4 62 yX4_isKey, Cond.static yX4_isKey, Cond.code yX4_isKey cX4_isKey 1 (some .boolean), Cond.methodLink RX4 41 yX4_isIn, Cond.static yX4_isIn, Cond.code yX4_isIn cX4_isIn 3 (some .boolean), Cond.methodLink RX4 75 yX4_isFine, Cond.instanceMethod yX4_isFine, Cond.selects RX4 yX4_isFine yX4_isFine, Cond.code yX4_isFine cX4_isFine 2 (some .boolean), Cond.fieldLink RX4 37 "ParcelledTableModel" "thrown" "I", Cond.methodLink RX4 128 yX4_counted, Cond.instanceMethod yX4_counted, Cond.selects RX4 yX4_counted yX4_counted, Cond.code yX4_counted cX4_counted 6 (some .int), Cond.fieldLink RX4 52 "ParcelledTableModel" "inserted" "I", Cond.fieldLink RX4 28 "ParcelledTableModel" "key" "[I", Cond.fieldLink RX4 31 "ParcelledTableModel" "sort" "[I", Cond.methodLink RX4 110 yX4_isTabled, Cond.instanceMethod yX4_isTabled]
def wsX4_count_r2 : List Cond := [Cond.selects RX4 yX4_isTabled yX4_isTabled, Cond.code yX4_isTabled cX4_isTabled 2 (some .boolean), Cond.fieldLink RX4 25 "ParcelledTableModel" "part" "[I", Cond.fieldLink RX4 22 "ParcelledTableModel" "state" "[I"]
def wsX4_count : List Cond := .code yX4_count cX4_count 4 (some .int) :: ((wsX4_count_r1 ++ wsX4_count_r2) ++ wsX40)
def wsX4_countPlain_r1 : List Cond := [Cond.methodLink RX4 125 yX4_isQuestion, Cond.static yX4_isQuestion, Cond.initialized RX4, Cond.code yX4_isQuestion cX4_isQuestion 3 (some .boolean), Cond.methodLink RX4 62 yX4_isKey, Cond.static yX4_isKey, Cond.code yX4_isKey cX4_isKey 1 (some .boolean), Cond.methodLink RX4 41 yX4_isIn, Cond.static yX4_isIn, Cond.code yX4_isIn cX4_isIn 3 (some .boolean), Cond.methodLink RX4 75 yX4_isFine, Cond.instanceMethod yX4_isFine, Cond.selects RX4 yX4_isFine yX4_isFine, Cond.code yX4_isFine cX4_isFine 2 (some .boolean), Cond.fieldLink RX4 37 "ParcelledTableModel" "thrown" "I", Cond.methodLink RX4 128 yX4_counted, Cond.instanceMethod yX4_counted, Cond.selects RX4 yX4_counted yX4_counted, Cond.code yX4_counted cX4_counted 6 (some .int), Cond.fieldLink RX4 52 "ParcelledTableModel" "inserted" "I", Cond.fieldLink RX4 28 "ParcelledTableModel" "key" "[I", Cond.fieldLink RX4 31 "ParcelledTableModel" "sort" "[I", Cond.methodLink RX4 110 yX4_isTabled, Cond.instanceMethod yX4_isTabled]
def wsX4_countPlain_r2 : List Cond := [Cond.selects RX4 yX4_isTabled yX4_isTabled, Cond.code yX4_isTabled cX4_isTabled 2 (some .boolean), Cond.fieldLink RX4 25 "ParcelledTableModel" "part" "[I", Cond.fieldLink RX4 22 "ParcelledTableModel" "state" "[I"]
def wsX4_countPlain : List Cond := .code yX4_countPlain cX4_countPlain 4 (some .int) :: ((wsX4_countPlain_r1 ++ wsX4_countPlain_r2) ++ wsX40)
def wsX4_isMatter_r1 : List Cond := [Cond.fieldLink RX4 22 "ParcelledTableModel" "state" "[I", Cond.methodLink RX4 100 yX4_partWith, Cond.instanceMethod yX4_partWith, Cond.selects RX4 yX4_partWith yX4_partWith, Cond.initialized RX4, Cond.code yX4_partWith cX4_partWith 3 (some .int), Cond.fieldLink RX4 45 "ParcelledTableModel" "parts" "I", Cond.methodLink RX4 55 yX4_isAttached, Cond.instanceMethod yX4_isAttached, Cond.selects RX4 yX4_isAttached yX4_isAttached, Cond.code yX4_isAttached cX4_isAttached 2 (some .boolean), Cond.methodLink RX4 58 yX4_hasKey, Cond.instanceMethod yX4_hasKey, Cond.selects RX4 yX4_hasKey yX4_hasKey, Cond.code yX4_hasKey cX4_hasKey 3 (some .boolean), Cond.fieldLink RX4 7 "ParcelledTableModel" "from" "[I", Cond.fieldLink RX4 13 "ParcelledTableModel" "to" "[I", Cond.methodLink RX4 41 yX4_isIn, Cond.static yX4_isIn, Cond.code yX4_isIn cX4_isIn 3 (some .boolean), Cond.methodLink RX4 103 yX4_leaf, Cond.instanceMethod yX4_leaf, Cond.selects RX4 yX4_leaf yX4_leaf, Cond.code yX4_leaf cX4_leaf 4 (some .int)]
def wsX4_isMatter_r2 : List Cond := [Cond.fieldLink RX4 16 "ParcelledTableModel" "kind" "[I", Cond.fieldLink RX4 19 "ParcelledTableModel" "detail" "[I"]
def wsX4_isMatter : List Cond := .code yX4_isMatter cX4_isMatter 10 (some .boolean) :: ((wsX4_isMatter_r1 ++ wsX4_isMatter_r2) ++ wsX40)
def wsX4_read_r1 : List Cond := [Cond.fieldLink RX4 45 "ParcelledTableModel" "parts" "I", Cond.methodLink RX4 125 yX4_isQuestion, Cond.static yX4_isQuestion, Cond.initialized RX4, Cond.code yX4_isQuestion cX4_isQuestion 3 (some .boolean), Cond.methodLink RX4 62 yX4_isKey, Cond.static yX4_isKey, Cond.code yX4_isKey cX4_isKey 1 (some .boolean), Cond.methodLink RX4 41 yX4_isIn, Cond.static yX4_isIn, Cond.code yX4_isIn cX4_isIn 3 (some .boolean), Cond.methodLink RX4 75 yX4_isFine, Cond.instanceMethod yX4_isFine, Cond.selects RX4 yX4_isFine yX4_isFine, Cond.code yX4_isFine cX4_isFine 2 (some .boolean), Cond.fieldLink RX4 37 "ParcelledTableModel" "thrown" "I", Cond.methodLink RX4 119 yX4_leaves, Cond.instanceMethod yX4_leaves, Cond.selects RX4 yX4_leaves yX4_leaves, Cond.code yX4_leaves cX4_leaves 2 (some .int), Cond.fieldLink RX4 16 "ParcelledTableModel" "kind" "[I", Cond.fieldLink RX4 19 "ParcelledTableModel" "detail" "[I", Cond.methodLink RX4 131 yX4_isMatter, Cond.instanceMethod yX4_isMatter]
def wsX4_read_r2 : List Cond := [Cond.selects RX4 yX4_isMatter yX4_isMatter, Cond.code yX4_isMatter cX4_isMatter 10 (some .boolean), Cond.fieldLink RX4 22 "ParcelledTableModel" "state" "[I", Cond.methodLink RX4 100 yX4_partWith, Cond.instanceMethod yX4_partWith, Cond.selects RX4 yX4_partWith yX4_partWith, Cond.code yX4_partWith cX4_partWith 3 (some .int), Cond.methodLink RX4 55 yX4_isAttached, Cond.instanceMethod yX4_isAttached, Cond.selects RX4 yX4_isAttached yX4_isAttached, Cond.code yX4_isAttached cX4_isAttached 2 (some .boolean), Cond.methodLink RX4 58 yX4_hasKey, Cond.instanceMethod yX4_hasKey, Cond.selects RX4 yX4_hasKey yX4_hasKey, Cond.code yX4_hasKey cX4_hasKey 3 (some .boolean), Cond.fieldLink RX4 7 "ParcelledTableModel" "from" "[I", Cond.fieldLink RX4 13 "ParcelledTableModel" "to" "[I", Cond.methodLink RX4 103 yX4_leaf, Cond.instanceMethod yX4_leaf, Cond.selects RX4 yX4_leaf yX4_leaf, Cond.code yX4_leaf cX4_leaf 4 (some .int)]
def wsX4_read : List Cond := .code yX4_read cX4_read 7 (some .int) :: ((wsX4_read_r1 ++ wsX4_read_r2) ++ wsX40)
def wsX4_matters_r1 : List Cond := [Cond.methodLink RX4 122 yX4_isLeaf, Cond.instanceMethod yX4_isLeaf, Cond.selects RX4 yX4_isLeaf yX4_isLeaf, Cond.initialized RX4, Cond.code yX4_isLeaf cX4_isLeaf 3 (some .boolean), Cond.methodLink RX4 116 yX4_isAny, Cond.instanceMethod yX4_isAny, Cond.selects RX4 yX4_isAny yX4_isAny, Cond.code yX4_isAny cX4_isAny 2 (some .boolean), Cond.methodLink RX4 48 yX4_isPart, Cond.instanceMethod yX4_isPart, Cond.selects RX4 yX4_isPart yX4_isPart, Cond.code yX4_isPart cX4_isPart 2 (some .boolean), Cond.fieldLink RX4 45 "ParcelledTableModel" "parts" "I", Cond.fieldLink RX4 22 "ParcelledTableModel" "state" "[I", Cond.methodLink RX4 41 yX4_isIn, Cond.static yX4_isIn, Cond.code yX4_isIn cX4_isIn 3 (some .boolean), Cond.methodLink RX4 119 yX4_leaves, Cond.instanceMethod yX4_leaves, Cond.selects RX4 yX4_leaves yX4_leaves, Cond.code yX4_leaves cX4_leaves 2 (some .int), Cond.fieldLink RX4 16 "ParcelledTableModel" "kind" "[I", Cond.fieldLink RX4 19 "ParcelledTableModel" "detail" "[I"]
def wsX4_matters_r2 : List Cond := [Cond.methodLink RX4 125 yX4_isQuestion, Cond.static yX4_isQuestion, Cond.code yX4_isQuestion cX4_isQuestion 3 (some .boolean), Cond.methodLink RX4 62 yX4_isKey, Cond.static yX4_isKey, Cond.code yX4_isKey cX4_isKey 1 (some .boolean), Cond.methodLink RX4 75 yX4_isFine, Cond.instanceMethod yX4_isFine, Cond.selects RX4 yX4_isFine yX4_isFine, Cond.code yX4_isFine cX4_isFine 2 (some .boolean), Cond.fieldLink RX4 37 "ParcelledTableModel" "thrown" "I", Cond.methodLink RX4 131 yX4_isMatter, Cond.instanceMethod yX4_isMatter, Cond.selects RX4 yX4_isMatter yX4_isMatter, Cond.code yX4_isMatter cX4_isMatter 10 (some .boolean), Cond.methodLink RX4 100 yX4_partWith, Cond.instanceMethod yX4_partWith, Cond.selects RX4 yX4_partWith yX4_partWith, Cond.code yX4_partWith cX4_partWith 3 (some .int), Cond.methodLink RX4 55 yX4_isAttached, Cond.instanceMethod yX4_isAttached, Cond.selects RX4 yX4_isAttached yX4_isAttached, Cond.code yX4_isAttached cX4_isAttached 2 (some .boolean), Cond.methodLink RX4 58 yX4_hasKey]
def wsX4_matters_r3 : List Cond := [Cond.instanceMethod yX4_hasKey, Cond.selects RX4 yX4_hasKey yX4_hasKey, Cond.code yX4_hasKey cX4_hasKey 3 (some .boolean), Cond.fieldLink RX4 7 "ParcelledTableModel" "from" "[I", Cond.fieldLink RX4 13 "ParcelledTableModel" "to" "[I", Cond.methodLink RX4 103 yX4_leaf, Cond.instanceMethod yX4_leaf, Cond.selects RX4 yX4_leaf yX4_leaf, Cond.code yX4_leaf cX4_leaf 4 (some .int)]
def wsX4_matters : List Cond := .code yX4_matters cX4_matters 6 (some .boolean) :: ((wsX4_matters_r1 ++ (wsX4_matters_r2 ++ wsX4_matters_r3)) ++ wsX40)
def wsX4_isStale : List Cond := .code yX4_isStale cX4_isStale 1 (some .boolean) :: ([.fieldLink RX4 37 "ParcelledTableModel" "thrown" "I", .fieldLink RX4 90 "ParcelledTableModel" "isStale" "Z"] ++ wsX40)
def wsX4_buildIndex : List Cond := .code yX4_buildIndex cX4_buildIndex 1 (some .int) :: ([.fieldLink RX4 90 "ParcelledTableModel" "isStale" "Z", .methodLink RX4 135 yX4_rows, .instanceMethod yX4_rows, .selects RX4 yX4_rows yX4_rows, .initialized RX4, .code yX4_rows cX4_rows 3 (some .int), .fieldLink RX4 37 "ParcelledTableModel" "thrown" "I", .fieldLink RX4 52 "ParcelledTableModel" "inserted" "I", .methodLink RX4 110 yX4_isTabled, .instanceMethod yX4_isTabled, .selects RX4 yX4_isTabled yX4_isTabled, .code yX4_isTabled cX4_isTabled 2 (some .boolean), .fieldLink RX4 25 "ParcelledTableModel" "part" "[I", .fieldLink RX4 22 "ParcelledTableModel" "state" "[I"] ++ wsX40)
def wsX4_find : List Cond := .code yX4_find cX4_find 4 (some .int) :: ([.fieldLink RX4 90 "ParcelledTableModel" "isStale" "Z", .fieldLink RX4 52 "ParcelledTableModel" "inserted" "I", .fieldLink RX4 34 "ParcelledTableModel" "value" "[I", .methodLink RX4 41 yX4_isIn, .static yX4_isIn, .initialized RX4, .code yX4_isIn cX4_isIn 3 (some .boolean), .methodLink RX4 75 yX4_isFine, .instanceMethod yX4_isFine, .selects RX4 yX4_isFine yX4_isFine, .code yX4_isFine cX4_isFine 2 (some .boolean), .fieldLink RX4 37 "ParcelledTableModel" "thrown" "I", .methodLink RX4 110 yX4_isTabled, .instanceMethod yX4_isTabled, .selects RX4 yX4_isTabled yX4_isTabled, .code yX4_isTabled cX4_isTabled 2 (some .boolean), .fieldLink RX4 25 "ParcelledTableModel" "part" "[I", .fieldLink RX4 22 "ParcelledTableModel" "state" "[I"] ++ wsX40)
def wsX4_findIn : List Cond := .code yX4_findIn cX4_findIn 5 (some .int) :: ([.fieldLink RX4 52 "ParcelledTableModel" "inserted" "I", .fieldLink RX4 25 "ParcelledTableModel" "part" "[I", .fieldLink RX4 34 "ParcelledTableModel" "value" "[I", .methodLink RX4 116 yX4_isAny, .instanceMethod yX4_isAny, .selects RX4 yX4_isAny yX4_isAny, .initialized RX4, .code yX4_isAny cX4_isAny 2 (some .boolean), .methodLink RX4 48 yX4_isPart, .instanceMethod yX4_isPart, .selects RX4 yX4_isPart yX4_isPart, .code yX4_isPart cX4_isPart 2 (some .boolean), .fieldLink RX4 45 "ParcelledTableModel" "parts" "I", .fieldLink RX4 22 "ParcelledTableModel" "state" "[I", .methodLink RX4 41 yX4_isIn, .static yX4_isIn, .code yX4_isIn cX4_isIn 3 (some .boolean), .methodLink RX4 75 yX4_isFine, .instanceMethod yX4_isFine, .selects RX4 yX4_isFine yX4_isFine, .code yX4_isFine cX4_isFine 2 (some .boolean), .fieldLink RX4 37 "ParcelledTableModel" "thrown" "I"] ++ wsX40)
def wsJ9_max_7cf53 : List Cond := .code yJ9_max_7cf53 cJ9_max_7cf53 2 (some .int) :: ([])
def wsJ9_min_7cf53 : List Cond := .code yJ9_min_7cf53 cJ9_min_7cf53 2 (some .int) :: ([])
def wsL_makePart_r1 : List Cond := [Cond.classLink RL 13 "java/lang/IllegalArgumentException", Cond.classLink RL 15 "java/lang/IllegalStateException", Cond.methodLink RL 7 yX3_makePart, Cond.instanceMethod yX3_makePart, Cond.selects RX3 yX3_makePart yX3_makePart, Cond.initialized RX3, Cond.code yX3_makePart cX3_makePart 6 (some .int), Cond.fieldLink RX3 42 "ParcelledTable$Part" "number" "I", Cond.methodLink RX3 28 yX3_plannedPart, Cond.instanceMethod yX3_plannedPart, Cond.selects RX3 yX3_plannedPart yX3_plannedPart, Cond.code yX3_plannedPart cX3_plannedPart 5 (some (.object "ParcelledTable$Part")), Cond.classLink RX3 7 RX0, Cond.instantiable RX0 6, Cond.initialized RX0, Cond.fieldLink RX3 144 "ParcelledTable" "partsMade" "I", Cond.methodLink RX3 251 yX3_checkRange, Cond.static yX3_checkRange, Cond.code yX3_checkRange cX3_checkRange 2 none, Cond.classLink RX3 64 "java/lang/IllegalArgumentException", Cond.initialized "java/lang/IllegalArgumentException", Cond.methodLink RX3 103 yX3_checkKey, Cond.static yX3_checkKey, Cond.code yX3_checkKey cX3_checkKey 1 none]
def wsL_makePart_r2 : List Cond := [Cond.methodLink RX3 255 yX3_checkKind, Cond.static yX3_checkKind, Cond.code yX3_checkKind cX3_checkKind 2 none, Cond.methodLink RX3 199 yX3_leastDetail, Cond.static yX3_leastDetail, Cond.code yX3_leastDetail cX3_leastDetail 1 (some .int), Cond.methodLink RX3 203 yX3_mostDetail, Cond.static yX3_mostDetail, Cond.code yX3_mostDetail cX3_mostDetail 1 (some .int), Cond.methodLink RX3 11 yX0_init, Cond.instanceMethod yX0_init, Cond.code yX0_init cX0_init 6 none, Cond.methodLink RX0 3 objectInit, Cond.instanceMethod objectInit, Cond.code objectInit ⟨#[0xb1]⟩ 1 none, Cond.fieldLink RX0 9 "ParcelledTable$Part" "number" "I", Cond.fieldLink RX0 15 "ParcelledTable$Part" "from" "I", Cond.fieldLink RX0 18 "ParcelledTable$Part" "to" "I", Cond.fieldLink RX0 21 "ParcelledTable$Part" "kind" "I", Cond.fieldLink RX0 24 "ParcelledTable$Part" "detail" "I", Cond.fieldLink RX0 27 "ParcelledTable$Part" "state" "I", Cond.methodLink RX3 32 yX3_refuseOverlap, Cond.instanceMethod yX3_refuseOverlap, Cond.selects RX3 yX3_refuseOverlap yX3_refuseOverlap]
def wsL_makePart_r3 : List Cond := [Cond.code yX3_refuseOverlap cX3_refuseOverlap 6 none, Cond.classLink RX3 80 "java/lang/IllegalStateException", Cond.initialized "java/lang/IllegalStateException", Cond.fieldLink RX3 18 "ParcelledTable" "allParts" "[LParcelledTable$Part;", Cond.fieldLink RX3 87 "ParcelledTable$Part" "state" "I", Cond.methodLink RX3 237 yX0_overlaps, Cond.instanceMethod yX0_overlaps, Cond.selects RX0 yX0_overlaps yX0_overlaps, Cond.code yX0_overlaps cX0_overlaps 2 (some .boolean), Cond.methodLink RX3 36 yX3_refuseRowsOfRest, Cond.instanceMethod yX3_refuseRowsOfRest, Cond.selects RX3 yX3_refuseRowsOfRest yX3_refuseRowsOfRest, Cond.code yX3_refuseRowsOfRest cX3_refuseRowsOfRest 6 none, Cond.fieldLink RX3 24 "ParcelledTable" "allRows" "[LParcelledTable$Row;", Cond.fieldLink RX3 128 "ParcelledTable$Row" "part" "LParcelledTable$Part;", Cond.fieldLink RX3 14 "ParcelledTable" "rest" "LParcelledTable$Part;", Cond.fieldLink RX3 135 "ParcelledTable$Row" "key" "I", Cond.methodLink RX3 243 yX0_covers, Cond.instanceMethod yX0_covers, Cond.selects RX0 yX0_covers yX0_covers, Cond.code yX0_covers cX0_covers 2 (some .boolean), Cond.methodLink RX3 39 yX3_keepPart, Cond.instanceMethod yX3_keepPart, Cond.selects RX3 yX3_keepPart yX3_keepPart]
def wsL_makePart_r4 : List Cond := [Cond.code yX3_keepPart cX3_keepPart 2 none]
def wsL_makePart : List Cond := .codeWith yL_makePart cL_makePart 7 (some .int) [(0, 14, 17, 13), (0, 14, 21, 15)] :: ((wsL_makePart_r1 ++ (wsL_makePart_r2 ++ (wsL_makePart_r3 ++ wsL_makePart_r4))) ++ wsX00 ++ wsX30 ++ wsX20 ++ (vx_atS RX3 68 "java/lang/IllegalArgumentException" ["java/lang/RuntimeException", "java/lang/Exception"]).filter goodWord ++ (vx_atS RX3 84 "java/lang/IllegalStateException" ["java/lang/RuntimeException", "java/lang/Exception"]).filter goodWord)
def wsL_carveOut_r1 : List Cond := [Cond.classLink RL 13 "java/lang/IllegalArgumentException", Cond.classLink RL 15 "java/lang/IllegalStateException", Cond.methodLink RL 17 yX3_carveOut, Cond.instanceMethod yX3_carveOut, Cond.selects RX3 yX3_carveOut yX3_carveOut, Cond.initialized RX3, Cond.code yX3_carveOut cX3_carveOut 6 (some .int), Cond.fieldLink RX3 14 "ParcelledTable" "rest" "LParcelledTable$Part;", Cond.methodLink RX3 28 yX3_plannedPart, Cond.instanceMethod yX3_plannedPart, Cond.selects RX3 yX3_plannedPart yX3_plannedPart, Cond.code yX3_plannedPart cX3_plannedPart 5 (some (.object "ParcelledTable$Part")), Cond.classLink RX3 7 RX0, Cond.instantiable RX0 6, Cond.initialized RX0, Cond.fieldLink RX3 144 "ParcelledTable" "partsMade" "I", Cond.methodLink RX3 251 yX3_checkRange, Cond.static yX3_checkRange, Cond.code yX3_checkRange cX3_checkRange 2 none, Cond.classLink RX3 64 "java/lang/IllegalArgumentException", Cond.initialized "java/lang/IllegalArgumentException", Cond.methodLink RX3 103 yX3_checkKey, Cond.static yX3_checkKey, Cond.code yX3_checkKey cX3_checkKey 1 none]
def wsL_carveOut_r2 : List Cond := [Cond.methodLink RX3 255 yX3_checkKind, Cond.static yX3_checkKind, Cond.code yX3_checkKind cX3_checkKind 2 none, Cond.methodLink RX3 199 yX3_leastDetail, Cond.static yX3_leastDetail, Cond.code yX3_leastDetail cX3_leastDetail 1 (some .int), Cond.methodLink RX3 203 yX3_mostDetail, Cond.static yX3_mostDetail, Cond.code yX3_mostDetail cX3_mostDetail 1 (some .int), Cond.methodLink RX3 11 yX0_init, Cond.instanceMethod yX0_init, Cond.code yX0_init cX0_init 6 none, Cond.methodLink RX0 3 objectInit, Cond.instanceMethod objectInit, Cond.code objectInit ⟨#[0xb1]⟩ 1 none, Cond.fieldLink RX0 9 "ParcelledTable$Part" "number" "I", Cond.fieldLink RX0 15 "ParcelledTable$Part" "from" "I", Cond.fieldLink RX0 18 "ParcelledTable$Part" "to" "I", Cond.fieldLink RX0 21 "ParcelledTable$Part" "kind" "I", Cond.fieldLink RX0 24 "ParcelledTable$Part" "detail" "I", Cond.fieldLink RX0 27 "ParcelledTable$Part" "state" "I", Cond.methodLink RX3 32 yX3_refuseOverlap, Cond.instanceMethod yX3_refuseOverlap, Cond.selects RX3 yX3_refuseOverlap yX3_refuseOverlap]
def wsL_carveOut_r3 : List Cond := [Cond.code yX3_refuseOverlap cX3_refuseOverlap 6 none, Cond.classLink RX3 80 "java/lang/IllegalStateException", Cond.initialized "java/lang/IllegalStateException", Cond.fieldLink RX3 18 "ParcelledTable" "allParts" "[LParcelledTable$Part;", Cond.fieldLink RX3 87 "ParcelledTable$Part" "state" "I", Cond.methodLink RX3 237 yX0_overlaps, Cond.instanceMethod yX0_overlaps, Cond.selects RX0 yX0_overlaps yX0_overlaps, Cond.code yX0_overlaps cX0_overlaps 2 (some .boolean), Cond.methodLink RX3 39 yX3_keepPart, Cond.instanceMethod yX3_keepPart, Cond.selects RX3 yX3_keepPart yX3_keepPart, Cond.code yX3_keepPart cX3_keepPart 2 none, Cond.fieldLink RX3 42 "ParcelledTable$Part" "number" "I", Cond.methodLink RX3 46 yX3_moveRows, Cond.instanceMethod yX3_moveRows, Cond.selects RX3 yX3_moveRows yX3_moveRows, Cond.code yX3_moveRows cX3_moveRows 7 none, Cond.fieldLink RX3 24 "ParcelledTable" "allRows" "[LParcelledTable$Row;", Cond.fieldLink RX3 128 "ParcelledTable$Row" "part" "LParcelledTable$Part;", Cond.fieldLink RX3 135 "ParcelledTable$Row" "key" "I", Cond.methodLink RX3 243 yX0_covers, Cond.instanceMethod yX0_covers, Cond.selects RX0 yX0_covers yX0_covers]
def wsL_carveOut_r4 : List Cond := [Cond.code yX0_covers cX0_covers 2 (some .boolean), Cond.methodLink RX3 50 yX3_rowsOf, Cond.instanceMethod yX3_rowsOf, Cond.selects RX3 yX3_rowsOf yX3_rowsOf, Cond.code yX3_rowsOf cX3_rowsOf 7 (some .int)]
def wsL_carveOut : List Cond := .codeWith yL_carveOut cL_carveOut 7 (some .int) [(0, 14, 17, 13), (0, 14, 21, 15)] :: ((wsL_carveOut_r1 ++ (wsL_carveOut_r2 ++ (wsL_carveOut_r3 ++ wsL_carveOut_r4))) ++ wsX30 ++ wsX00 ++ wsX20 ++ (vx_atS RX3 68 "java/lang/IllegalArgumentException" ["java/lang/RuntimeException", "java/lang/Exception"]).filter goodWord ++ (vx_atS RX3 84 "java/lang/IllegalStateException" ["java/lang/RuntimeException", "java/lang/Exception"]).filter goodWord)
def wsL_split_r1 : List Cond := [Cond.classLink RL 24 "java/lang/IndexOutOfBoundsException", Cond.classLink RL 13 "java/lang/IllegalArgumentException", Cond.classLink RL 15 "java/lang/IllegalStateException", Cond.methodLink RL 20 yX3_split, Cond.instanceMethod yX3_split, Cond.selects RX3 yX3_split yX3_split, Cond.initialized RX3, Cond.code yX3_split cX3_split 5 (some .int), Cond.classLink RX3 64 "java/lang/IllegalArgumentException", Cond.initialized "java/lang/IllegalArgumentException", Cond.fieldLink RX3 58 "ParcelledTable$Part" "from" "I", Cond.fieldLink RX3 61 "ParcelledTable$Part" "to" "I", Cond.fieldLink RX3 74 "ParcelledTable$Part" "kind" "I", Cond.fieldLink RX3 77 "ParcelledTable$Part" "detail" "I", Cond.fieldLink RX3 42 "ParcelledTable$Part" "number" "I", Cond.methodLink RX3 54 yX3_livingPartWithRange, Cond.instanceMethod yX3_livingPartWithRange, Cond.selects RX3 yX3_livingPartWithRange yX3_livingPartWithRange, Cond.code yX3_livingPartWithRange cX3_livingPartWithRange 3 (some (.object "ParcelledTable$Part")), Cond.classLink RX3 217 "java/lang/IndexOutOfBoundsException", Cond.initialized "java/lang/IndexOutOfBoundsException", Cond.fieldLink RX3 14 "ParcelledTable" "rest" "LParcelledTable$Part;", Cond.methodLink RX3 186 yX3_livingPart, Cond.instanceMethod yX3_livingPart]
def wsL_split_r2 : List Cond := [Cond.selects RX3 yX3_livingPart yX3_livingPart, Cond.code yX3_livingPart cX3_livingPart 3 (some (.object "ParcelledTable$Part")), Cond.fieldLink RX3 87 "ParcelledTable$Part" "state" "I", Cond.methodLink RX3 147 yX3_knownPart, Cond.instanceMethod yX3_knownPart, Cond.selects RX3 yX3_knownPart yX3_knownPart, Cond.code yX3_knownPart cX3_knownPart 3 (some (.object "ParcelledTable$Part")), Cond.fieldLink RX3 18 "ParcelledTable" "allParts" "[LParcelledTable$Part;", Cond.methodLink RX3 71 yX3_refuseUnlessAttached, Cond.static yX3_refuseUnlessAttached, Cond.code yX3_refuseUnlessAttached cX3_refuseUnlessAttached 1 none, Cond.classLink RX3 80 "java/lang/IllegalStateException", Cond.initialized "java/lang/IllegalStateException", Cond.methodLink RX3 28 yX3_plannedPart, Cond.instanceMethod yX3_plannedPart, Cond.selects RX3 yX3_plannedPart yX3_plannedPart, Cond.code yX3_plannedPart cX3_plannedPart 5 (some (.object "ParcelledTable$Part")), Cond.classLink RX3 7 RX0, Cond.instantiable RX0 6, Cond.initialized RX0, Cond.fieldLink RX3 144 "ParcelledTable" "partsMade" "I", Cond.methodLink RX3 251 yX3_checkRange, Cond.static yX3_checkRange, Cond.code yX3_checkRange cX3_checkRange 2 none]
def wsL_split_r3 : List Cond := [Cond.methodLink RX3 103 yX3_checkKey, Cond.static yX3_checkKey, Cond.code yX3_checkKey cX3_checkKey 1 none, Cond.methodLink RX3 255 yX3_checkKind, Cond.static yX3_checkKind, Cond.code yX3_checkKind cX3_checkKind 2 none, Cond.methodLink RX3 199 yX3_leastDetail, Cond.static yX3_leastDetail, Cond.code yX3_leastDetail cX3_leastDetail 1 (some .int), Cond.methodLink RX3 203 yX3_mostDetail, Cond.static yX3_mostDetail, Cond.code yX3_mostDetail cX3_mostDetail 1 (some .int), Cond.methodLink RX3 11 yX0_init, Cond.instanceMethod yX0_init, Cond.code yX0_init cX0_init 6 none, Cond.methodLink RX0 3 objectInit, Cond.instanceMethod objectInit, Cond.code objectInit ⟨#[0xb1]⟩ 1 none, Cond.fieldLink RX0 9 "ParcelledTable$Part" "number" "I", Cond.fieldLink RX0 15 "ParcelledTable$Part" "from" "I", Cond.fieldLink RX0 18 "ParcelledTable$Part" "to" "I", Cond.fieldLink RX0 21 "ParcelledTable$Part" "kind" "I", Cond.fieldLink RX0 24 "ParcelledTable$Part" "detail" "I", Cond.fieldLink RX0 27 "ParcelledTable$Part" "state" "I"]
def wsL_split_r4 : List Cond := [Cond.methodLink RX3 39 yX3_keepPart, Cond.instanceMethod yX3_keepPart, Cond.selects RX3 yX3_keepPart yX3_keepPart, Cond.code yX3_keepPart cX3_keepPart 2 none, Cond.methodLink RX3 46 yX3_moveRows, Cond.instanceMethod yX3_moveRows, Cond.selects RX3 yX3_moveRows yX3_moveRows, Cond.code yX3_moveRows cX3_moveRows 7 none, Cond.fieldLink RX3 24 "ParcelledTable" "allRows" "[LParcelledTable$Row;", Cond.fieldLink RX3 128 "ParcelledTable$Row" "part" "LParcelledTable$Part;", Cond.fieldLink RX3 135 "ParcelledTable$Row" "key" "I", Cond.methodLink RX3 243 yX0_covers, Cond.instanceMethod yX0_covers, Cond.selects RX0 yX0_covers yX0_covers, Cond.code yX0_covers cX0_covers 2 (some .boolean)]
def wsL_split : List Cond := .codeWith yL_split cL_split 5 (some .int) [(0, 10, 13, 24), (0, 10, 17, 13), (0, 10, 21, 15)] :: ((wsL_split_r1 ++ (wsL_split_r2 ++ (wsL_split_r3 ++ wsL_split_r4))) ++ wsX00 ++ wsX30 ++ wsX20 ++ (vx_atS RX3 68 "java/lang/IllegalArgumentException" ["java/lang/RuntimeException", "java/lang/Exception"]).filter goodWord ++ (vx_atS RX3 221 "java/lang/IndexOutOfBoundsException" ["java/lang/RuntimeException", "java/lang/Exception"]).filter goodWord ++ (vx_atS RX3 84 "java/lang/IllegalStateException" ["java/lang/RuntimeException", "java/lang/Exception"]).filter goodWord)
def wsL_merge_r1 : List Cond := [Cond.classLink RL 24 "java/lang/IndexOutOfBoundsException", Cond.classLink RL 15 "java/lang/IllegalStateException", Cond.methodLink RL 26 yX3_merge, Cond.instanceMethod yX3_merge, Cond.selects RX3 yX3_merge yX3_merge, Cond.initialized RX3, Cond.code yX3_merge cX3_merge 5 (some .int), Cond.classLink RX3 80 "java/lang/IllegalStateException", Cond.initialized "java/lang/IllegalStateException", Cond.fieldLink RX3 58 "ParcelledTable$Part" "from" "I", Cond.fieldLink RX3 61 "ParcelledTable$Part" "to" "I", Cond.fieldLink RX3 74 "ParcelledTable$Part" "kind" "I", Cond.fieldLink RX3 77 "ParcelledTable$Part" "detail" "I", Cond.fieldLink RX3 87 "ParcelledTable$Part" "state" "I", Cond.methodLink RX3 54 yX3_livingPartWithRange, Cond.instanceMethod yX3_livingPartWithRange, Cond.selects RX3 yX3_livingPartWithRange yX3_livingPartWithRange, Cond.code yX3_livingPartWithRange cX3_livingPartWithRange 3 (some (.object "ParcelledTable$Part")), Cond.classLink RX3 217 "java/lang/IndexOutOfBoundsException", Cond.initialized "java/lang/IndexOutOfBoundsException", Cond.fieldLink RX3 14 "ParcelledTable" "rest" "LParcelledTable$Part;", Cond.methodLink RX3 186 yX3_livingPart, Cond.instanceMethod yX3_livingPart, Cond.selects RX3 yX3_livingPart yX3_livingPart]
def wsL_merge_r2 : List Cond := [Cond.code yX3_livingPart cX3_livingPart 3 (some (.object "ParcelledTable$Part")), Cond.methodLink RX3 147 yX3_knownPart, Cond.instanceMethod yX3_knownPart, Cond.selects RX3 yX3_knownPart yX3_knownPart, Cond.code yX3_knownPart cX3_knownPart 3 (some (.object "ParcelledTable$Part")), Cond.fieldLink RX3 18 "ParcelledTable" "allParts" "[LParcelledTable$Part;", Cond.methodLink RX3 71 yX3_refuseUnlessAttached, Cond.static yX3_refuseUnlessAttached, Cond.code yX3_refuseUnlessAttached cX3_refuseUnlessAttached 1 none, Cond.methodLink RX3 46 yX3_moveRows, Cond.instanceMethod yX3_moveRows, Cond.selects RX3 yX3_moveRows yX3_moveRows, Cond.code yX3_moveRows cX3_moveRows 7 none, Cond.fieldLink RX3 24 "ParcelledTable" "allRows" "[LParcelledTable$Row;", Cond.fieldLink RX3 128 "ParcelledTable$Row" "part" "LParcelledTable$Part;", Cond.fieldLink RX3 135 "ParcelledTable$Row" "key" "I", Cond.methodLink RX3 243 yX0_covers, Cond.instanceMethod yX0_covers, Cond.selects RX0 yX0_covers yX0_covers, Cond.initialized RX0, Cond.code yX0_covers cX0_covers 2 (some .boolean), Cond.fieldLink RX0 15 "ParcelledTable$Part" "from" "I", Cond.fieldLink RX0 18 "ParcelledTable$Part" "to" "I", Cond.methodLink RX3 50 yX3_rowsOf]
def wsL_merge_r3 : List Cond := [Cond.instanceMethod yX3_rowsOf, Cond.selects RX3 yX3_rowsOf yX3_rowsOf, Cond.code yX3_rowsOf cX3_rowsOf 7 (some .int)]
def wsL_merge : List Cond := .codeWith yL_merge cL_merge 5 (some .int) [(0, 10, 13, 24), (0, 10, 17, 15)] :: ((wsL_merge_r1 ++ (wsL_merge_r2 ++ wsL_merge_r3)) ++ wsX00 ++ wsX30 ++ wsX20 ++ (vx_atS RX3 84 "java/lang/IllegalStateException" ["java/lang/RuntimeException", "java/lang/Exception"]).filter goodWord ++ (vx_atS RX3 221 "java/lang/IndexOutOfBoundsException" ["java/lang/RuntimeException", "java/lang/Exception"]).filter goodWord)
def wsL_detach_r1 : List Cond := [Cond.classLink RL 24 "java/lang/IndexOutOfBoundsException", Cond.classLink RL 15 "java/lang/IllegalStateException", Cond.methodLink RL 29 yX3_detach, Cond.instanceMethod yX3_detach, Cond.selects RX3 yX3_detach yX3_detach, Cond.initialized RX3, Cond.code yX3_detach cX3_detach 3 (some .int), Cond.fieldLink RX3 87 "ParcelledTable$Part" "state" "I", Cond.fieldLink RX3 90 "ParcelledTable" "stale" "Z", Cond.methodLink RX3 54 yX3_livingPartWithRange, Cond.instanceMethod yX3_livingPartWithRange, Cond.selects RX3 yX3_livingPartWithRange yX3_livingPartWithRange, Cond.code yX3_livingPartWithRange cX3_livingPartWithRange 3 (some (.object "ParcelledTable$Part")), Cond.classLink RX3 217 "java/lang/IndexOutOfBoundsException", Cond.initialized "java/lang/IndexOutOfBoundsException", Cond.fieldLink RX3 14 "ParcelledTable" "rest" "LParcelledTable$Part;", Cond.methodLink RX3 186 yX3_livingPart, Cond.instanceMethod yX3_livingPart, Cond.selects RX3 yX3_livingPart yX3_livingPart, Cond.code yX3_livingPart cX3_livingPart 3 (some (.object "ParcelledTable$Part")), Cond.methodLink RX3 147 yX3_knownPart, Cond.instanceMethod yX3_knownPart, Cond.selects RX3 yX3_knownPart yX3_knownPart, Cond.code yX3_knownPart cX3_knownPart 3 (some (.object "ParcelledTable$Part"))]
def wsL_detach_r2 : List Cond := [Cond.fieldLink RX3 18 "ParcelledTable" "allParts" "[LParcelledTable$Part;", Cond.methodLink RX3 71 yX3_refuseUnlessAttached, Cond.static yX3_refuseUnlessAttached, Cond.code yX3_refuseUnlessAttached cX3_refuseUnlessAttached 1 none, Cond.classLink RX3 80 "java/lang/IllegalStateException", Cond.initialized "java/lang/IllegalStateException", Cond.methodLink RX3 50 yX3_rowsOf, Cond.instanceMethod yX3_rowsOf, Cond.selects RX3 yX3_rowsOf yX3_rowsOf, Cond.code yX3_rowsOf cX3_rowsOf 7 (some .int), Cond.fieldLink RX3 24 "ParcelledTable" "allRows" "[LParcelledTable$Row;", Cond.fieldLink RX3 128 "ParcelledTable$Row" "part" "LParcelledTable$Part;"]
def wsL_detach : List Cond := .codeWith yL_detach cL_detach 4 (some .int) [(0, 9, 12, 24), (0, 9, 15, 15)] :: ((wsL_detach_r1 ++ wsL_detach_r2) ++ wsX00 ++ wsX30 ++ wsX20 ++ (vx_atS RX3 221 "java/lang/IndexOutOfBoundsException" ["java/lang/RuntimeException", "java/lang/Exception"]).filter goodWord ++ (vx_atS RX3 84 "java/lang/IllegalStateException" ["java/lang/RuntimeException", "java/lang/Exception"]).filter goodWord)
def wsL_attach_r1 : List Cond := [Cond.classLink RL 24 "java/lang/IndexOutOfBoundsException", Cond.classLink RL 15 "java/lang/IllegalStateException", Cond.methodLink RL 33 yX3_attach, Cond.instanceMethod yX3_attach, Cond.selects RX3 yX3_attach yX3_attach, Cond.initialized RX3, Cond.code yX3_attach cX3_attach 3 (some .int), Cond.fieldLink RX3 87 "ParcelledTable$Part" "state" "I", Cond.fieldLink RX3 90 "ParcelledTable" "stale" "Z", Cond.methodLink RX3 54 yX3_livingPartWithRange, Cond.instanceMethod yX3_livingPartWithRange, Cond.selects RX3 yX3_livingPartWithRange yX3_livingPartWithRange, Cond.code yX3_livingPartWithRange cX3_livingPartWithRange 3 (some (.object "ParcelledTable$Part")), Cond.classLink RX3 217 "java/lang/IndexOutOfBoundsException", Cond.initialized "java/lang/IndexOutOfBoundsException", Cond.fieldLink RX3 14 "ParcelledTable" "rest" "LParcelledTable$Part;", Cond.methodLink RX3 186 yX3_livingPart, Cond.instanceMethod yX3_livingPart, Cond.selects RX3 yX3_livingPart yX3_livingPart, Cond.code yX3_livingPart cX3_livingPart 3 (some (.object "ParcelledTable$Part")), Cond.methodLink RX3 147 yX3_knownPart, Cond.instanceMethod yX3_knownPart, Cond.selects RX3 yX3_knownPart yX3_knownPart, Cond.code yX3_knownPart cX3_knownPart 3 (some (.object "ParcelledTable$Part"))]
def wsL_attach_r2 : List Cond := [Cond.fieldLink RX3 18 "ParcelledTable" "allParts" "[LParcelledTable$Part;", Cond.methodLink RX3 94 yX3_refuseUnlessDetached, Cond.static yX3_refuseUnlessDetached, Cond.code yX3_refuseUnlessDetached cX3_refuseUnlessDetached 1 none, Cond.classLink RX3 80 "java/lang/IllegalStateException", Cond.initialized "java/lang/IllegalStateException", Cond.methodLink RX3 32 yX3_refuseOverlap, Cond.instanceMethod yX3_refuseOverlap, Cond.selects RX3 yX3_refuseOverlap yX3_refuseOverlap, Cond.code yX3_refuseOverlap cX3_refuseOverlap 6 none, Cond.methodLink RX3 237 yX0_overlaps, Cond.instanceMethod yX0_overlaps, Cond.selects RX0 yX0_overlaps yX0_overlaps, Cond.initialized RX0, Cond.code yX0_overlaps cX0_overlaps 2 (some .boolean), Cond.fieldLink RX0 15 "ParcelledTable$Part" "from" "I", Cond.fieldLink RX0 18 "ParcelledTable$Part" "to" "I", Cond.methodLink RX3 36 yX3_refuseRowsOfRest, Cond.instanceMethod yX3_refuseRowsOfRest, Cond.selects RX3 yX3_refuseRowsOfRest yX3_refuseRowsOfRest, Cond.code yX3_refuseRowsOfRest cX3_refuseRowsOfRest 6 none, Cond.fieldLink RX3 24 "ParcelledTable" "allRows" "[LParcelledTable$Row;", Cond.fieldLink RX3 128 "ParcelledTable$Row" "part" "LParcelledTable$Part;", Cond.fieldLink RX3 135 "ParcelledTable$Row" "key" "I"]
def wsL_attach_r3 : List Cond := [Cond.methodLink RX3 243 yX0_covers, Cond.instanceMethod yX0_covers, Cond.selects RX0 yX0_covers yX0_covers, Cond.code yX0_covers cX0_covers 2 (some .boolean), Cond.methodLink RX3 50 yX3_rowsOf, Cond.instanceMethod yX3_rowsOf, Cond.selects RX3 yX3_rowsOf yX3_rowsOf, Cond.code yX3_rowsOf cX3_rowsOf 7 (some .int)]
def wsL_attach : List Cond := .codeWith yL_attach cL_attach 4 (some .int) [(0, 9, 12, 24), (0, 9, 15, 15)] :: ((wsL_attach_r1 ++ (wsL_attach_r2 ++ wsL_attach_r3)) ++ wsX00 ++ wsX30 ++ wsX20 ++ (vx_atS RX3 221 "java/lang/IndexOutOfBoundsException" ["java/lang/RuntimeException", "java/lang/Exception"]).filter goodWord ++ (vx_atS RX3 84 "java/lang/IllegalStateException" ["java/lang/RuntimeException", "java/lang/Exception"]).filter goodWord)
def wsL_exchange_r1 : List Cond := [Cond.classLink RL 24 "java/lang/IndexOutOfBoundsException", Cond.classLink RL 15 "java/lang/IllegalStateException", Cond.methodLink RL 36 yX3_exchange, Cond.instanceMethod yX3_exchange, Cond.selects RX3 yX3_exchange yX3_exchange, Cond.initialized RX3, Cond.code yX3_exchange cX3_exchange 5 (some .int), Cond.fieldLink RX3 90 "ParcelledTable" "stale" "Z", Cond.methodLink RX3 54 yX3_livingPartWithRange, Cond.instanceMethod yX3_livingPartWithRange, Cond.selects RX3 yX3_livingPartWithRange yX3_livingPartWithRange, Cond.code yX3_livingPartWithRange cX3_livingPartWithRange 3 (some (.object "ParcelledTable$Part")), Cond.classLink RX3 217 "java/lang/IndexOutOfBoundsException", Cond.initialized "java/lang/IndexOutOfBoundsException", Cond.fieldLink RX3 14 "ParcelledTable" "rest" "LParcelledTable$Part;", Cond.methodLink RX3 186 yX3_livingPart, Cond.instanceMethod yX3_livingPart, Cond.selects RX3 yX3_livingPart yX3_livingPart, Cond.code yX3_livingPart cX3_livingPart 3 (some (.object "ParcelledTable$Part")), Cond.fieldLink RX3 87 "ParcelledTable$Part" "state" "I", Cond.methodLink RX3 147 yX3_knownPart, Cond.instanceMethod yX3_knownPart, Cond.selects RX3 yX3_knownPart yX3_knownPart, Cond.code yX3_knownPart cX3_knownPart 3 (some (.object "ParcelledTable$Part"))]
def wsL_exchange_r2 : List Cond := [Cond.fieldLink RX3 18 "ParcelledTable" "allParts" "[LParcelledTable$Part;", Cond.methodLink RX3 71 yX3_refuseUnlessAttached, Cond.static yX3_refuseUnlessAttached, Cond.code yX3_refuseUnlessAttached cX3_refuseUnlessAttached 1 none, Cond.classLink RX3 80 "java/lang/IllegalStateException", Cond.initialized "java/lang/IllegalStateException", Cond.methodLink RX3 94 yX3_refuseUnlessDetached, Cond.static yX3_refuseUnlessDetached, Cond.code yX3_refuseUnlessDetached cX3_refuseUnlessDetached 1 none, Cond.methodLink RX3 97 yX3_refuseForeignRows, Cond.instanceMethod yX3_refuseForeignRows, Cond.selects RX3 yX3_refuseForeignRows yX3_refuseForeignRows, Cond.code yX3_refuseForeignRows cX3_refuseForeignRows 7 none, Cond.fieldLink RX3 24 "ParcelledTable" "allRows" "[LParcelledTable$Row;", Cond.fieldLink RX3 128 "ParcelledTable$Row" "part" "LParcelledTable$Part;", Cond.fieldLink RX3 135 "ParcelledTable$Row" "key" "I", Cond.methodLink RX3 243 yX0_covers, Cond.instanceMethod yX0_covers, Cond.selects RX0 yX0_covers yX0_covers, Cond.initialized RX0, Cond.code yX0_covers cX0_covers 2 (some .boolean), Cond.fieldLink RX0 15 "ParcelledTable$Part" "from" "I", Cond.fieldLink RX0 18 "ParcelledTable$Part" "to" "I", Cond.methodLink RX3 100 yX3_swapRows]
def wsL_exchange_r3 : List Cond := [Cond.instanceMethod yX3_swapRows, Cond.selects RX3 yX3_swapRows yX3_swapRows, Cond.code yX3_swapRows cX3_swapRows 7 none, Cond.methodLink RX3 50 yX3_rowsOf, Cond.instanceMethod yX3_rowsOf, Cond.selects RX3 yX3_rowsOf yX3_rowsOf, Cond.code yX3_rowsOf cX3_rowsOf 7 (some .int)]
def wsL_exchange : List Cond := .codeWith yL_exchange cL_exchange 5 (some .int) [(0, 10, 13, 24), (0, 10, 17, 15)] :: ((wsL_exchange_r1 ++ (wsL_exchange_r2 ++ wsL_exchange_r3)) ++ wsX30 ++ wsX00 ++ wsX20 ++ (vx_atS RX3 221 "java/lang/IndexOutOfBoundsException" ["java/lang/RuntimeException", "java/lang/Exception"]).filter goodWord ++ (vx_atS RX3 84 "java/lang/IllegalStateException" ["java/lang/RuntimeException", "java/lang/Exception"]).filter goodWord)
def wsL_insert_r1 : List Cond := [Cond.classLink RL 13 "java/lang/IllegalArgumentException", Cond.classLink RL 15 "java/lang/IllegalStateException", Cond.methodLink RL 39 yX3_insert, Cond.instanceMethod yX3_insert, Cond.selects RX3 yX3_insert yX3_insert, Cond.initialized RX3, Cond.code yX3_insert cX3_insert 5 (some .int), Cond.classLink RX3 80 "java/lang/IllegalStateException", Cond.initialized "java/lang/IllegalStateException", Cond.fieldLink RX3 113 "ParcelledTable" "rowsInserted" "I", Cond.fieldLink RX3 24 "ParcelledTable" "allRows" "[LParcelledTable$Row;", Cond.classLink RX3 22 RX2, Cond.instantiable RX2 4, Cond.initialized RX2, Cond.methodLink RX3 103 yX3_checkKey, Cond.static yX3_checkKey, Cond.code yX3_checkKey cX3_checkKey 1 none, Cond.classLink RX3 64 "java/lang/IllegalArgumentException", Cond.initialized "java/lang/IllegalArgumentException", Cond.methodLink RX3 107 yX3_checkSort, Cond.static yX3_checkSort, Cond.code yX3_checkSort cX3_checkSort 1 none, Cond.methodLink RX3 110 yX3_checkValue, Cond.static yX3_checkValue]
def wsL_insert_r2 : List Cond := [Cond.code yX3_checkValue cX3_checkValue 1 none, Cond.methodLink RX3 118 yX3_holderOf, Cond.instanceMethod yX3_holderOf, Cond.selects RX3 yX3_holderOf yX3_holderOf, Cond.code yX3_holderOf cX3_holderOf 6 (some (.object "ParcelledTable$Part")), Cond.fieldLink RX3 18 "ParcelledTable" "allParts" "[LParcelledTable$Part;", Cond.fieldLink RX3 87 "ParcelledTable$Part" "state" "I", Cond.fieldLink RX3 14 "ParcelledTable" "rest" "LParcelledTable$Part;", Cond.methodLink RX3 243 yX0_covers, Cond.instanceMethod yX0_covers, Cond.selects RX0 yX0_covers yX0_covers, Cond.initialized RX0, Cond.code yX0_covers cX0_covers 2 (some .boolean), Cond.fieldLink RX0 15 "ParcelledTable$Part" "from" "I", Cond.fieldLink RX0 18 "ParcelledTable$Part" "to" "I", Cond.methodLink RX3 121 yX2_init, Cond.instanceMethod yX2_init, Cond.code yX2_init cX2_init 5 none, Cond.methodLink RX2 3 objectInit, Cond.instanceMethod objectInit, Cond.code objectInit ⟨#[0xb1]⟩ 1 none, Cond.fieldLink RX2 9 "ParcelledTable$Row" "key" "I", Cond.fieldLink RX2 15 "ParcelledTable$Row" "sort" "I", Cond.fieldLink RX2 18 "ParcelledTable$Row" "value" "I"]
def wsL_insert_r3 : List Cond := [Cond.fieldLink RX2 21 "ParcelledTable$Row" "part" "LParcelledTable$Part;"]
def wsL_insert : List Cond := .codeWith yL_insert cL_insert 6 (some .int) [(0, 12, 15, 13), (0, 12, 19, 15)] :: ((wsL_insert_r1 ++ (wsL_insert_r2 ++ wsL_insert_r3)) ++ wsX30 ++ wsX20 ++ wsX00 ++ (vx_atS RX3 84 "java/lang/IllegalStateException" ["java/lang/RuntimeException", "java/lang/Exception"]).filter goodWord ++ (vx_atS RX3 68 "java/lang/IllegalArgumentException" ["java/lang/RuntimeException", "java/lang/Exception"]).filter goodWord)
def wsL_change_r1 : List Cond := [Cond.classLink RL 24 "java/lang/IndexOutOfBoundsException", Cond.classLink RL 13 "java/lang/IllegalArgumentException", Cond.classLink RL 15 "java/lang/IllegalStateException", Cond.methodLink RL 43 yX3_change, Cond.instanceMethod yX3_change, Cond.selects RX3 yX3_change yX3_change, Cond.initialized RX3, Cond.code yX3_change cX3_change 6 (some .boolean), Cond.fieldLink RX3 128 "ParcelledTable$Row" "part" "LParcelledTable$Part;", Cond.fieldLink RX3 135 "ParcelledTable$Row" "key" "I", Cond.fieldLink RX3 138 "ParcelledTable$Row" "sort" "I", Cond.methodLink RX3 124 yX3_presentRow, Cond.instanceMethod yX3_presentRow, Cond.selects RX3 yX3_presentRow yX3_presentRow, Cond.code yX3_presentRow cX3_presentRow 3 (some (.object "ParcelledTable$Row")), Cond.classLink RX3 217 "java/lang/IndexOutOfBoundsException", Cond.initialized "java/lang/IndexOutOfBoundsException", Cond.fieldLink RX3 24 "ParcelledTable" "allRows" "[LParcelledTable$Row;", Cond.methodLink RX3 103 yX3_checkKey, Cond.static yX3_checkKey, Cond.code yX3_checkKey cX3_checkKey 1 none, Cond.classLink RX3 64 "java/lang/IllegalArgumentException", Cond.initialized "java/lang/IllegalArgumentException", Cond.methodLink RX3 107 yX3_checkSort]
def wsL_change_r2 : List Cond := [Cond.static yX3_checkSort, Cond.code yX3_checkSort cX3_checkSort 1 none, Cond.methodLink RX3 71 yX3_refuseUnlessAttached, Cond.static yX3_refuseUnlessAttached, Cond.code yX3_refuseUnlessAttached cX3_refuseUnlessAttached 1 none, Cond.classLink RX3 80 "java/lang/IllegalStateException", Cond.initialized "java/lang/IllegalStateException", Cond.fieldLink RX3 87 "ParcelledTable$Part" "state" "I", Cond.methodLink RX3 131 yX2_place, Cond.instanceMethod yX2_place, Cond.selects RX2 yX2_place yX2_place, Cond.initialized RX2, Cond.code yX2_place cX2_place 1 (some .int), Cond.fieldLink RX2 21 "ParcelledTable$Row" "part" "LParcelledTable$Part;", Cond.fieldLink RX2 49 "ParcelledTable$Part" "number" "I", Cond.fieldLink RX2 9 "ParcelledTable$Row" "key" "I", Cond.fieldLink RX2 15 "ParcelledTable$Row" "sort" "I", Cond.methodLink RX2 30 yX0_leafFor, Cond.instanceMethod yX0_leafFor, Cond.selects RX0 yX0_leafFor yX0_leafFor, Cond.initialized RX0, Cond.code yX0_leafFor cX0_leafFor 3 (some .int), Cond.fieldLink RX0 21 "ParcelledTable$Part" "kind" "I", Cond.fieldLink RX0 24 "ParcelledTable$Part" "detail" "I"]
def wsL_change_r3 : List Cond := [Cond.static yX3_hasSort, Cond.code yX3_hasSort cX3_hasSort 2 (some .boolean), Cond.methodLink RX0 34 yX0_leafByHash, Cond.instanceMethod yX0_leafByHash, Cond.selects RX0 yX0_leafByHash yX0_leafByHash, Cond.code yX0_leafByHash cX0_leafByHash 2 (some .int), Cond.methodLink RX3 118 yX3_holderOf, Cond.instanceMethod yX3_holderOf, Cond.selects RX3 yX3_holderOf yX3_holderOf, Cond.code yX3_holderOf cX3_holderOf 6 (some (.object "ParcelledTable$Part")), Cond.fieldLink RX3 18 "ParcelledTable" "allParts" "[LParcelledTable$Part;", Cond.fieldLink RX3 14 "ParcelledTable" "rest" "LParcelledTable$Part;", Cond.methodLink RX3 243 yX0_covers, Cond.instanceMethod yX0_covers, Cond.selects RX0 yX0_covers yX0_covers, Cond.code yX0_covers cX0_covers 2 (some .boolean), Cond.fieldLink RX0 15 "ParcelledTable$Part" "from" "I", Cond.fieldLink RX0 18 "ParcelledTable$Part" "to" "I"]
def wsL_change : List Cond := .codeWith yL_change cL_change 6 (some .int) [(0, 19, 22, 24), (0, 19, 26, 13), (0, 19, 30, 15)] :: ((wsL_change_r1 ++ (wsL_change_r2 ++ wsL_change_r3)) ++ wsX20 ++ wsX30 ++ wsX00 ++ (vx_atS RX3 221 "java/lang/IndexOutOfBoundsException" ["java/lang/RuntimeException", "java/lang/Exception"]).filter goodWord ++ (vx_atS RX3 68 "java/lang/IllegalArgumentException" ["java/lang/RuntimeException", "java/lang/Exception"]).filter goodWord ++ (vx_atS RX3 84 "java/lang/IllegalStateException" ["java/lang/RuntimeException", "java/lang/Exception"]).filter goodWord)
def wsL_remove : List Cond := .codeWith yL_remove cL_remove 4 (some .int) [(0, 9, 12, 24)] :: ([.classLink RL 24 "java/lang/IndexOutOfBoundsException", .methodLink RL 47 yX3_remove, .instanceMethod yX3_remove, .selects RX3 yX3_remove yX3_remove, .initialized RX3, .code yX3_remove cX3_remove 3 (some .int), .fieldLink RX3 24 "ParcelledTable" "allRows" "[LParcelledTable$Row;", .fieldLink RX3 141 "ParcelledTable$Row" "value" "I", .methodLink RX3 124 yX3_presentRow, .instanceMethod yX3_presentRow, .selects RX3 yX3_presentRow yX3_presentRow, .code yX3_presentRow cX3_presentRow 3 (some (.object "ParcelledTable$Row")), .classLink RX3 217 "java/lang/IndexOutOfBoundsException", .initialized "java/lang/IndexOutOfBoundsException"] ++ wsX30 ++ wsX20 ++ (vx_atS RX3 221 "java/lang/IndexOutOfBoundsException" ["java/lang/RuntimeException", "java/lang/Exception"]).filter goodWord)
def wsL_stateOf : List Cond := .codeWith yL_stateOf cL_stateOf 4 (some .int) [(0, 9, 12, 24)] :: ([.classLink RL 24 "java/lang/IndexOutOfBoundsException", .methodLink RL 50 yX3_stateOf, .instanceMethod yX3_stateOf, .selects RX3 yX3_stateOf yX3_stateOf, .initialized RX3, .code yX3_stateOf cX3_stateOf 2 (some .int), .fieldLink RX3 87 "ParcelledTable$Part" "state" "I", .methodLink RX3 147 yX3_knownPart, .instanceMethod yX3_knownPart, .selects RX3 yX3_knownPart yX3_knownPart, .code yX3_knownPart cX3_knownPart 3 (some (.object "ParcelledTable$Part")), .classLink RX3 217 "java/lang/IndexOutOfBoundsException", .initialized "java/lang/IndexOutOfBoundsException", .fieldLink RX3 18 "ParcelledTable" "allParts" "[LParcelledTable$Part;"] ++ wsX00 ++ wsX30 ++ (vx_atS RX3 221 "java/lang/IndexOutOfBoundsException" ["java/lang/RuntimeException", "java/lang/Exception"]).filter goodWord)
def wsL_partOf_r1 : List Cond := [Cond.classLink RL 13 "java/lang/IllegalArgumentException", Cond.methodLink RL 53 yX3_partOf, Cond.instanceMethod yX3_partOf, Cond.selects RX3 yX3_partOf yX3_partOf, Cond.initialized RX3, Cond.code yX3_partOf cX3_partOf 2 (some .int), Cond.fieldLink RX3 42 "ParcelledTable$Part" "number" "I", Cond.methodLink RX3 103 yX3_checkKey, Cond.static yX3_checkKey, Cond.code yX3_checkKey cX3_checkKey 1 none, Cond.classLink RX3 64 "java/lang/IllegalArgumentException", Cond.initialized "java/lang/IllegalArgumentException", Cond.methodLink RX3 118 yX3_holderOf, Cond.instanceMethod yX3_holderOf, Cond.selects RX3 yX3_holderOf yX3_holderOf, Cond.code yX3_holderOf cX3_holderOf 6 (some (.object "ParcelledTable$Part")), Cond.fieldLink RX3 18 "ParcelledTable" "allParts" "[LParcelledTable$Part;", Cond.fieldLink RX3 87 "ParcelledTable$Part" "state" "I", Cond.fieldLink RX3 14 "ParcelledTable" "rest" "LParcelledTable$Part;", Cond.methodLink RX3 243 yX0_covers, Cond.instanceMethod yX0_covers, Cond.selects RX0 yX0_covers yX0_covers, Cond.initialized RX0, Cond.code yX0_covers cX0_covers 2 (some .boolean)]
def wsL_partOf_r2 : List Cond := [Cond.fieldLink RX0 15 "ParcelledTable$Part" "from" "I", Cond.fieldLink RX0 18 "ParcelledTable$Part" "to" "I"]
def wsL_partOf : List Cond := .codeWith yL_partOf cL_partOf 4 (some .int) [(0, 9, 12, 13)] :: ((wsL_partOf_r1 ++ wsL_partOf_r2) ++ wsX00 ++ wsX30 ++ (vx_atS RX3 68 "java/lang/IllegalArgumentException" ["java/lang/RuntimeException", "java/lang/Exception"]).filter goodWord)
def wsL_leafOf_r1 : List Cond := [Cond.classLink RL 24 "java/lang/IndexOutOfBoundsException", Cond.methodLink RL 56 yX3_leafOf, Cond.instanceMethod yX3_leafOf, Cond.selects RX3 yX3_leafOf yX3_leafOf, Cond.initialized RX3, Cond.code yX3_leafOf cX3_leafOf 2 (some .int), Cond.methodLink RX3 124 yX3_presentRow, Cond.instanceMethod yX3_presentRow, Cond.selects RX3 yX3_presentRow yX3_presentRow, Cond.code yX3_presentRow cX3_presentRow 3 (some (.object "ParcelledTable$Row")), Cond.classLink RX3 217 "java/lang/IndexOutOfBoundsException", Cond.initialized "java/lang/IndexOutOfBoundsException", Cond.fieldLink RX3 24 "ParcelledTable" "allRows" "[LParcelledTable$Row;", Cond.methodLink RX3 131 yX2_place, Cond.instanceMethod yX2_place, Cond.selects RX2 yX2_place yX2_place, Cond.initialized RX2, Cond.code yX2_place cX2_place 1 (some .int), Cond.fieldLink RX2 21 "ParcelledTable$Row" "part" "LParcelledTable$Part;", Cond.fieldLink RX2 49 "ParcelledTable$Part" "number" "I", Cond.fieldLink RX2 9 "ParcelledTable$Row" "key" "I", Cond.fieldLink RX2 15 "ParcelledTable$Row" "sort" "I", Cond.methodLink RX2 30 yX0_leafFor, Cond.instanceMethod yX0_leafFor]
def wsL_leafOf_r2 : List Cond := [Cond.selects RX0 yX0_leafFor yX0_leafFor, Cond.initialized RX0, Cond.code yX0_leafFor cX0_leafFor 3 (some .int), Cond.fieldLink RX0 21 "ParcelledTable$Part" "kind" "I", Cond.fieldLink RX0 24 "ParcelledTable$Part" "detail" "I", Cond.static yX3_hasSort, Cond.code yX3_hasSort cX3_hasSort 2 (some .boolean), Cond.methodLink RX0 34 yX0_leafByHash, Cond.instanceMethod yX0_leafByHash, Cond.selects RX0 yX0_leafByHash yX0_leafByHash, Cond.code yX0_leafByHash cX0_leafByHash 2 (some .int)]
def wsL_leafOf : List Cond := .codeWith yL_leafOf cL_leafOf 4 (some .int) [(0, 9, 12, 24)] :: ((wsL_leafOf_r1 ++ wsL_leafOf_r2) ++ wsX30 ++ wsX20 ++ wsX00 ++ (vx_atS RX3 221 "java/lang/IndexOutOfBoundsException" ["java/lang/RuntimeException", "java/lang/Exception"]).filter goodWord)
def wsL_rowsIn_r1 : List Cond := [Cond.classLink RL 24 "java/lang/IndexOutOfBoundsException", Cond.methodLink RL 59 yX3_rowsIn, Cond.instanceMethod yX3_rowsIn, Cond.selects RX3 yX3_rowsIn yX3_rowsIn, Cond.initialized RX3, Cond.code yX3_rowsIn cX3_rowsIn 9 (some .int), Cond.fieldLink RX3 24 "ParcelledTable" "allRows" "[LParcelledTable$Row;", Cond.methodLink RX3 150 yX3_livingPartWithLeaf, Cond.instanceMethod yX3_livingPartWithLeaf, Cond.selects RX3 yX3_livingPartWithLeaf yX3_livingPartWithLeaf, Cond.code yX3_livingPartWithLeaf cX3_livingPartWithLeaf 4 (some (.object "ParcelledTable$Part")), Cond.classLink RX3 217 "java/lang/IndexOutOfBoundsException", Cond.initialized "java/lang/IndexOutOfBoundsException", Cond.methodLink RX3 186 yX3_livingPart, Cond.instanceMethod yX3_livingPart, Cond.selects RX3 yX3_livingPart yX3_livingPart, Cond.code yX3_livingPart cX3_livingPart 3 (some (.object "ParcelledTable$Part")), Cond.fieldLink RX3 87 "ParcelledTable$Part" "state" "I", Cond.methodLink RX3 147 yX3_knownPart, Cond.instanceMethod yX3_knownPart, Cond.selects RX3 yX3_knownPart yX3_knownPart, Cond.code yX3_knownPart cX3_knownPart 3 (some (.object "ParcelledTable$Part")), Cond.fieldLink RX3 18 "ParcelledTable" "allParts" "[LParcelledTable$Part;", Cond.methodLink RX3 226 yX0_leaves]
def wsL_rowsIn_r2 : List Cond := [Cond.instanceMethod yX0_leaves, Cond.selects RX0 yX0_leaves yX0_leaves, Cond.initialized RX0, Cond.code yX0_leaves cX0_leaves 1 (some .int), Cond.fieldLink RX0 21 "ParcelledTable$Part" "kind" "I", Cond.fieldLink RX0 24 "ParcelledTable$Part" "detail" "I", Cond.methodLink RX3 154 yX2_liesIn, Cond.instanceMethod yX2_liesIn, Cond.selects RX2 yX2_liesIn yX2_liesIn, Cond.initialized RX2, Cond.code yX2_liesIn cX2_liesIn 3 (some .boolean), Cond.fieldLink RX2 21 "ParcelledTable$Row" "part" "LParcelledTable$Part;", Cond.fieldLink RX2 9 "ParcelledTable$Row" "key" "I", Cond.fieldLink RX2 15 "ParcelledTable$Row" "sort" "I", Cond.methodLink RX2 30 yX0_leafFor, Cond.instanceMethod yX0_leafFor, Cond.selects RX0 yX0_leafFor yX0_leafFor, Cond.code yX0_leafFor cX0_leafFor 3 (some .int), Cond.static yX3_hasSort, Cond.code yX3_hasSort cX3_hasSort 2 (some .boolean), Cond.methodLink RX0 34 yX0_leafByHash, Cond.instanceMethod yX0_leafByHash, Cond.selects RX0 yX0_leafByHash yX0_leafByHash, Cond.code yX0_leafByHash cX0_leafByHash 2 (some .int)]
def wsL_rowsIn : List Cond := .codeWith yL_rowsIn cL_rowsIn 5 (some .int) [(0, 10, 13, 24)] :: ((wsL_rowsIn_r1 ++ wsL_rowsIn_r2) ++ wsX30 ++ wsX00 ++ wsX20 ++ (vx_atS RX3 221 "java/lang/IndexOutOfBoundsException" ["java/lang/RuntimeException", "java/lang/Exception"]).filter goodWord)
def wsL_count_r1 : List Cond := [Cond.classLink RL 13 "java/lang/IllegalArgumentException", Cond.methodLink RL 62 yX3_count, Cond.instanceMethod yX3_count, Cond.selects RX3 yX3_count yX3_count, Cond.initialized RX3, Cond.code yX3_count cX3_count 10 (some .int), Cond.fieldLink RX3 18 "ParcelledTable" "allParts" "[LParcelledTable$Part;", Cond.methodLink RX3 162 yX3_checkedQuestion, Cond.static yX3_checkedQuestion, Cond.code yX3_checkedQuestion cX3_checkedQuestion 3 (some (.object "ParcelledTable$Question")), Cond.classLink RX3 64 "java/lang/IllegalArgumentException", Cond.initialized "java/lang/IllegalArgumentException", Cond.classLink RX3 212 RX1, Cond.instantiable RX1 3, Cond.initialized RX1, Cond.methodLink RX3 103 yX3_checkKey, Cond.static yX3_checkKey, Cond.code yX3_checkKey cX3_checkKey 1 none, Cond.methodLink RX3 214 yX1_init, Cond.instanceMethod yX1_init, Cond.code yX1_init cX1_init 4 none, Cond.methodLink RX1 1 objectInit, Cond.instanceMethod objectInit, Cond.code objectInit ⟨#[0xb1]⟩ 1 none]
def wsL_count_r2 : List Cond := [Cond.fieldLink RX1 7 "ParcelledTable$Question" "low" "I", Cond.fieldLink RX1 13 "ParcelledTable$Question" "high" "I", Cond.fieldLink RX1 16 "ParcelledTable$Question" "sorts" "I", Cond.methodLink RX3 166 yX3_countInPart, Cond.instanceMethod yX3_countInPart, Cond.selects RX3 yX3_countInPart yX3_countInPart, Cond.code yX3_countInPart cX3_countInPart 5 (some .int), Cond.methodLink RX3 226 yX0_leaves, Cond.instanceMethod yX0_leaves, Cond.selects RX0 yX0_leaves yX0_leaves, Cond.initialized RX0, Cond.code yX0_leaves cX0_leaves 1 (some .int), Cond.fieldLink RX0 21 "ParcelledTable$Part" "kind" "I", Cond.fieldLink RX0 24 "ParcelledTable$Part" "detail" "I", Cond.methodLink RX3 177 yX3_mayMatter, Cond.instanceMethod yX3_mayMatter, Cond.selects RX3 yX3_mayMatter yX3_mayMatter, Cond.code yX3_mayMatter cX3_mayMatter 4 (some .boolean), Cond.fieldLink RX3 87 "ParcelledTable$Part" "state" "I", Cond.fieldLink RX3 260 "ParcelledTable$Question" "sorts" "I", Cond.fieldLink RX3 14 "ParcelledTable" "rest" "LParcelledTable$Part;", Cond.fieldLink RX3 263 "ParcelledTable$Question" "low" "I", Cond.fieldLink RX3 266 "ParcelledTable$Question" "high" "I", Cond.methodLink RX3 269 yX3_restMayHold]
def wsL_count_r3 : List Cond := [Cond.instanceMethod yX3_restMayHold, Cond.selects RX3 yX3_restMayHold yX3_restMayHold, Cond.code yX3_restMayHold cX3_restMayHold 6 (some .boolean), Cond.fieldLink RX3 61 "ParcelledTable$Part" "to" "I", Cond.methodLink RX3 118 yX3_holderOf, Cond.instanceMethod yX3_holderOf, Cond.selects RX3 yX3_holderOf yX3_holderOf, Cond.code yX3_holderOf cX3_holderOf 6 (some (.object "ParcelledTable$Part")), Cond.methodLink RX3 243 yX0_covers, Cond.instanceMethod yX0_covers, Cond.selects RX0 yX0_covers yX0_covers, Cond.code yX0_covers cX0_covers 2 (some .boolean), Cond.fieldLink RX0 15 "ParcelledTable$Part" "from" "I", Cond.fieldLink RX0 18 "ParcelledTable$Part" "to" "I", Cond.methodLink RX3 273 yX0_mayHold, Cond.instanceMethod yX0_mayHold, Cond.selects RX0 yX0_mayHold yX0_mayHold, Cond.code yX0_mayHold cX0_mayHold 5 (some .boolean), Cond.fieldLink RX0 38 "ParcelledTable$Question" "low" "I", Cond.methodLink RX0 43 Lib.Math.max.name, Cond.static Lib.Math.max.name, Cond.initialized "java/lang/Math", Cond.code Lib.Math.max.name Lib.Math.max.code 2 (some .int), Cond.fieldLink RX0 49 "ParcelledTable$Question" "high" "I"]
def wsL_count_r4 : List Cond := [Cond.methodLink RX0 52 Lib.Math.min.name, Cond.static Lib.Math.min.name, Cond.code Lib.Math.min.name Lib.Math.min.code 2 (some .int), Cond.fieldLink RX0 55 "ParcelledTable$Question" "sorts" "I", Cond.methodLink RX0 58 yX0_sortsByList, Cond.instanceMethod yX0_sortsByList, Cond.selects RX0 yX0_sortsByList yX0_sortsByList, Cond.code yX0_sortsByList cX0_sortsByList 2 (some .int), Cond.methodLink RX0 61 yX0_hashReaches, Cond.instanceMethod yX0_hashReaches, Cond.selects RX0 yX0_hashReaches yX0_hashReaches, Cond.code yX0_hashReaches cX0_hashReaches 6 (some .boolean), Cond.methodLink RX0 34 yX0_leafByHash, Cond.instanceMethod yX0_leafByHash, Cond.selects RX0 yX0_leafByHash yX0_leafByHash, Cond.code yX0_leafByHash cX0_leafByHash 2 (some .int), Cond.methodLink RX3 277 yX3_countInLeaf, Cond.instanceMethod yX3_countInLeaf, Cond.selects RX3 yX3_countInLeaf yX3_countInLeaf, Cond.code yX3_countInLeaf cX3_countInLeaf 9 (some .int), Cond.fieldLink RX3 24 "ParcelledTable" "allRows" "[LParcelledTable$Row;", Cond.methodLink RX3 154 yX2_liesIn, Cond.instanceMethod yX2_liesIn, Cond.selects RX2 yX2_liesIn yX2_liesIn]
def wsL_count_r5 : List Cond := [Cond.initialized RX2, Cond.code yX2_liesIn cX2_liesIn 3 (some .boolean), Cond.fieldLink RX2 21 "ParcelledTable$Row" "part" "LParcelledTable$Part;", Cond.fieldLink RX2 9 "ParcelledTable$Row" "key" "I", Cond.fieldLink RX2 15 "ParcelledTable$Row" "sort" "I", Cond.methodLink RX2 30 yX0_leafFor, Cond.instanceMethod yX0_leafFor, Cond.selects RX0 yX0_leafFor yX0_leafFor, Cond.code yX0_leafFor cX0_leafFor 3 (some .int), Cond.static yX3_hasSort, Cond.code yX3_hasSort cX3_hasSort 2 (some .boolean), Cond.methodLink RX3 170 yX2_fits, Cond.instanceMethod yX2_fits, Cond.selects RX2 yX2_fits yX2_fits, Cond.code yX2_fits cX2_fits 2 (some .boolean), Cond.fieldLink RX2 34 "ParcelledTable$Question" "low" "I", Cond.fieldLink RX2 39 "ParcelledTable$Question" "high" "I", Cond.fieldLink RX2 42 "ParcelledTable$Question" "sorts" "I"]
def wsL_count : List Cond := .codeWith yL_count cL_count 6 (some .int) [(0, 12, 15, 13)] :: ((wsL_count_r1 ++ (wsL_count_r2 ++ (wsL_count_r3 ++ (wsL_count_r4 ++ wsL_count_r5)))) ++ wsX30 ++ wsX10 ++ wsX00 ++ wsX20 ++ (vx_atS RX3 68 "java/lang/IllegalArgumentException" ["java/lang/RuntimeException", "java/lang/Exception"]).filter goodWord)
def wsL_countPlain_r1 : List Cond := [Cond.classLink RL 13 "java/lang/IllegalArgumentException", Cond.methodLink RL 65 yX3_countPlain, Cond.instanceMethod yX3_countPlain, Cond.selects RX3 yX3_countPlain yX3_countPlain, Cond.initialized RX3, Cond.code yX3_countPlain cX3_countPlain 10 (some .int), Cond.fieldLink RX3 24 "ParcelledTable" "allRows" "[LParcelledTable$Row;", Cond.methodLink RX3 162 yX3_checkedQuestion, Cond.static yX3_checkedQuestion, Cond.code yX3_checkedQuestion cX3_checkedQuestion 3 (some (.object "ParcelledTable$Question")), Cond.classLink RX3 64 "java/lang/IllegalArgumentException", Cond.initialized "java/lang/IllegalArgumentException", Cond.classLink RX3 212 RX1, Cond.instantiable RX1 3, Cond.initialized RX1, Cond.methodLink RX3 103 yX3_checkKey, Cond.static yX3_checkKey, Cond.code yX3_checkKey cX3_checkKey 1 none, Cond.methodLink RX3 214 yX1_init, Cond.instanceMethod yX1_init, Cond.code yX1_init cX1_init 4 none, Cond.methodLink RX1 1 objectInit, Cond.instanceMethod objectInit, Cond.code objectInit ⟨#[0xb1]⟩ 1 none]
def wsL_countPlain_r2 : List Cond := [Cond.fieldLink RX1 7 "ParcelledTable$Question" "low" "I", Cond.fieldLink RX1 13 "ParcelledTable$Question" "high" "I", Cond.fieldLink RX1 16 "ParcelledTable$Question" "sorts" "I", Cond.methodLink RX3 158 yX2_isInTable, Cond.instanceMethod yX2_isInTable, Cond.selects RX2 yX2_isInTable yX2_isInTable, Cond.initialized RX2, Cond.code yX2_isInTable cX2_isInTable 1 (some .boolean), Cond.fieldLink RX2 21 "ParcelledTable$Row" "part" "LParcelledTable$Part;", Cond.fieldLink RX2 25 "ParcelledTable$Part" "state" "I", Cond.methodLink RX3 170 yX2_fits, Cond.instanceMethod yX2_fits, Cond.selects RX2 yX2_fits yX2_fits, Cond.code yX2_fits cX2_fits 2 (some .boolean), Cond.fieldLink RX2 9 "ParcelledTable$Row" "key" "I", Cond.fieldLink RX2 34 "ParcelledTable$Question" "low" "I", Cond.fieldLink RX2 39 "ParcelledTable$Question" "high" "I", Cond.fieldLink RX2 42 "ParcelledTable$Question" "sorts" "I", Cond.fieldLink RX2 15 "ParcelledTable$Row" "sort" "I", Cond.static yX3_hasSort, Cond.code yX3_hasSort cX3_hasSort 2 (some .boolean)]
def wsL_countPlain : List Cond := .codeWith yL_countPlain cL_countPlain 6 (some .int) [(0, 12, 15, 13)] :: ((wsL_countPlain_r1 ++ wsL_countPlain_r2) ++ wsX30 ++ wsX10 ++ wsX20 ++ wsX00 ++ (vx_atS RX3 68 "java/lang/IllegalArgumentException" ["java/lang/RuntimeException", "java/lang/Exception"]).filter goodWord)
def wsL_read_r1 : List Cond := [Cond.classLink RL 13 "java/lang/IllegalArgumentException", Cond.methodLink RL 68 yX3_read, Cond.instanceMethod yX3_read, Cond.selects RX3 yX3_read yX3_read, Cond.initialized RX3, Cond.code yX3_read cX3_read 10 (some .int), Cond.fieldLink RX3 18 "ParcelledTable" "allParts" "[LParcelledTable$Part;", Cond.methodLink RX3 162 yX3_checkedQuestion, Cond.static yX3_checkedQuestion, Cond.code yX3_checkedQuestion cX3_checkedQuestion 3 (some (.object "ParcelledTable$Question")), Cond.classLink RX3 64 "java/lang/IllegalArgumentException", Cond.initialized "java/lang/IllegalArgumentException", Cond.classLink RX3 212 RX1, Cond.instantiable RX1 3, Cond.initialized RX1, Cond.methodLink RX3 103 yX3_checkKey, Cond.static yX3_checkKey, Cond.code yX3_checkKey cX3_checkKey 1 none, Cond.methodLink RX3 214 yX1_init, Cond.instanceMethod yX1_init, Cond.code yX1_init cX1_init 4 none, Cond.methodLink RX1 1 objectInit, Cond.instanceMethod objectInit, Cond.code objectInit ⟨#[0xb1]⟩ 1 none]
def wsL_read_r2 : List Cond := [Cond.fieldLink RX1 7 "ParcelledTable$Question" "low" "I", Cond.fieldLink RX1 13 "ParcelledTable$Question" "high" "I", Cond.fieldLink RX1 16 "ParcelledTable$Question" "sorts" "I", Cond.methodLink RX3 174 yX3_leavesThatMayMatter, Cond.instanceMethod yX3_leavesThatMayMatter, Cond.selects RX3 yX3_leavesThatMayMatter yX3_leavesThatMayMatter, Cond.code yX3_leavesThatMayMatter cX3_leavesThatMayMatter 5 (some .int), Cond.methodLink RX3 226 yX0_leaves, Cond.instanceMethod yX0_leaves, Cond.selects RX0 yX0_leaves yX0_leaves, Cond.initialized RX0, Cond.code yX0_leaves cX0_leaves 1 (some .int), Cond.fieldLink RX0 21 "ParcelledTable$Part" "kind" "I", Cond.fieldLink RX0 24 "ParcelledTable$Part" "detail" "I", Cond.methodLink RX3 177 yX3_mayMatter, Cond.instanceMethod yX3_mayMatter, Cond.selects RX3 yX3_mayMatter yX3_mayMatter, Cond.code yX3_mayMatter cX3_mayMatter 4 (some .boolean), Cond.fieldLink RX3 87 "ParcelledTable$Part" "state" "I", Cond.fieldLink RX3 260 "ParcelledTable$Question" "sorts" "I", Cond.fieldLink RX3 14 "ParcelledTable" "rest" "LParcelledTable$Part;", Cond.fieldLink RX3 263 "ParcelledTable$Question" "low" "I", Cond.fieldLink RX3 266 "ParcelledTable$Question" "high" "I", Cond.methodLink RX3 269 yX3_restMayHold]
def wsL_read_r3 : List Cond := [Cond.instanceMethod yX3_restMayHold, Cond.selects RX3 yX3_restMayHold yX3_restMayHold, Cond.code yX3_restMayHold cX3_restMayHold 6 (some .boolean), Cond.fieldLink RX3 61 "ParcelledTable$Part" "to" "I", Cond.methodLink RX3 118 yX3_holderOf, Cond.instanceMethod yX3_holderOf, Cond.selects RX3 yX3_holderOf yX3_holderOf, Cond.code yX3_holderOf cX3_holderOf 6 (some (.object "ParcelledTable$Part")), Cond.methodLink RX3 243 yX0_covers, Cond.instanceMethod yX0_covers, Cond.selects RX0 yX0_covers yX0_covers, Cond.code yX0_covers cX0_covers 2 (some .boolean), Cond.fieldLink RX0 15 "ParcelledTable$Part" "from" "I", Cond.fieldLink RX0 18 "ParcelledTable$Part" "to" "I", Cond.methodLink RX3 273 yX0_mayHold, Cond.instanceMethod yX0_mayHold, Cond.selects RX0 yX0_mayHold yX0_mayHold, Cond.code yX0_mayHold cX0_mayHold 5 (some .boolean), Cond.fieldLink RX0 38 "ParcelledTable$Question" "low" "I", Cond.methodLink RX0 43 Lib.Math.max.name, Cond.static Lib.Math.max.name, Cond.initialized "java/lang/Math", Cond.code Lib.Math.max.name Lib.Math.max.code 2 (some .int), Cond.fieldLink RX0 49 "ParcelledTable$Question" "high" "I"]
def wsL_read_r4 : List Cond := [Cond.methodLink RX0 52 Lib.Math.min.name, Cond.static Lib.Math.min.name, Cond.code Lib.Math.min.name Lib.Math.min.code 2 (some .int), Cond.fieldLink RX0 55 "ParcelledTable$Question" "sorts" "I", Cond.methodLink RX0 58 yX0_sortsByList, Cond.instanceMethod yX0_sortsByList, Cond.selects RX0 yX0_sortsByList yX0_sortsByList, Cond.code yX0_sortsByList cX0_sortsByList 2 (some .int), Cond.methodLink RX0 61 yX0_hashReaches, Cond.instanceMethod yX0_hashReaches, Cond.selects RX0 yX0_hashReaches yX0_hashReaches, Cond.code yX0_hashReaches cX0_hashReaches 6 (some .boolean), Cond.methodLink RX0 34 yX0_leafByHash, Cond.instanceMethod yX0_leafByHash, Cond.selects RX0 yX0_leafByHash yX0_leafByHash, Cond.code yX0_leafByHash cX0_leafByHash 2 (some .int)]
def wsL_read : List Cond := .codeWith yL_read cL_read 6 (some .int) [(0, 12, 15, 13)] :: ((wsL_read_r1 ++ (wsL_read_r2 ++ (wsL_read_r3 ++ wsL_read_r4))) ++ wsX30 ++ wsX10 ++ wsX00 ++ (vx_atS RX3 68 "java/lang/IllegalArgumentException" ["java/lang/RuntimeException", "java/lang/Exception"]).filter goodWord)
def wsL_matters_r1 : List Cond := [Cond.classLink RL 24 "java/lang/IndexOutOfBoundsException", Cond.classLink RL 13 "java/lang/IllegalArgumentException", Cond.methodLink RL 71 yX3_matters, Cond.instanceMethod yX3_matters, Cond.selects RX3 yX3_matters yX3_matters, Cond.initialized RX3, Cond.code yX3_matters cX3_matters 7 (some .boolean), Cond.methodLink RX3 150 yX3_livingPartWithLeaf, Cond.instanceMethod yX3_livingPartWithLeaf, Cond.selects RX3 yX3_livingPartWithLeaf yX3_livingPartWithLeaf, Cond.code yX3_livingPartWithLeaf cX3_livingPartWithLeaf 4 (some (.object "ParcelledTable$Part")), Cond.classLink RX3 217 "java/lang/IndexOutOfBoundsException", Cond.initialized "java/lang/IndexOutOfBoundsException", Cond.methodLink RX3 186 yX3_livingPart, Cond.instanceMethod yX3_livingPart, Cond.selects RX3 yX3_livingPart yX3_livingPart, Cond.code yX3_livingPart cX3_livingPart 3 (some (.object "ParcelledTable$Part")), Cond.fieldLink RX3 87 "ParcelledTable$Part" "state" "I", Cond.methodLink RX3 147 yX3_knownPart, Cond.instanceMethod yX3_knownPart, Cond.selects RX3 yX3_knownPart yX3_knownPart, Cond.code yX3_knownPart cX3_knownPart 3 (some (.object "ParcelledTable$Part")), Cond.fieldLink RX3 18 "ParcelledTable" "allParts" "[LParcelledTable$Part;", Cond.methodLink RX3 226 yX0_leaves]
def wsL_matters_r2 : List Cond := [Cond.instanceMethod yX0_leaves, Cond.selects RX0 yX0_leaves yX0_leaves, Cond.initialized RX0, Cond.code yX0_leaves cX0_leaves 1 (some .int), Cond.fieldLink RX0 21 "ParcelledTable$Part" "kind" "I", Cond.fieldLink RX0 24 "ParcelledTable$Part" "detail" "I", Cond.methodLink RX3 162 yX3_checkedQuestion, Cond.static yX3_checkedQuestion, Cond.code yX3_checkedQuestion cX3_checkedQuestion 3 (some (.object "ParcelledTable$Question")), Cond.classLink RX3 64 "java/lang/IllegalArgumentException", Cond.initialized "java/lang/IllegalArgumentException", Cond.classLink RX3 212 RX1, Cond.instantiable RX1 3, Cond.initialized RX1, Cond.methodLink RX3 103 yX3_checkKey, Cond.static yX3_checkKey, Cond.code yX3_checkKey cX3_checkKey 1 none, Cond.methodLink RX3 214 yX1_init, Cond.instanceMethod yX1_init, Cond.code yX1_init cX1_init 4 none, Cond.methodLink RX1 1 objectInit, Cond.instanceMethod objectInit, Cond.code objectInit ⟨#[0xb1]⟩ 1 none, Cond.fieldLink RX1 7 "ParcelledTable$Question" "low" "I"]
def wsL_matters_r3 : List Cond := [Cond.fieldLink RX1 13 "ParcelledTable$Question" "high" "I", Cond.fieldLink RX1 16 "ParcelledTable$Question" "sorts" "I", Cond.methodLink RX3 177 yX3_mayMatter, Cond.instanceMethod yX3_mayMatter, Cond.selects RX3 yX3_mayMatter yX3_mayMatter, Cond.code yX3_mayMatter cX3_mayMatter 4 (some .boolean), Cond.fieldLink RX3 260 "ParcelledTable$Question" "sorts" "I", Cond.fieldLink RX3 14 "ParcelledTable" "rest" "LParcelledTable$Part;", Cond.fieldLink RX3 263 "ParcelledTable$Question" "low" "I", Cond.fieldLink RX3 266 "ParcelledTable$Question" "high" "I", Cond.methodLink RX3 269 yX3_restMayHold, Cond.instanceMethod yX3_restMayHold, Cond.selects RX3 yX3_restMayHold yX3_restMayHold, Cond.code yX3_restMayHold cX3_restMayHold 6 (some .boolean), Cond.fieldLink RX3 61 "ParcelledTable$Part" "to" "I", Cond.methodLink RX3 118 yX3_holderOf, Cond.instanceMethod yX3_holderOf, Cond.selects RX3 yX3_holderOf yX3_holderOf, Cond.code yX3_holderOf cX3_holderOf 6 (some (.object "ParcelledTable$Part")), Cond.methodLink RX3 243 yX0_covers, Cond.instanceMethod yX0_covers, Cond.selects RX0 yX0_covers yX0_covers, Cond.code yX0_covers cX0_covers 2 (some .boolean), Cond.fieldLink RX0 15 "ParcelledTable$Part" "from" "I"]
def wsL_matters_r4 : List Cond := [Cond.fieldLink RX0 18 "ParcelledTable$Part" "to" "I", Cond.methodLink RX3 273 yX0_mayHold, Cond.instanceMethod yX0_mayHold, Cond.selects RX0 yX0_mayHold yX0_mayHold, Cond.code yX0_mayHold cX0_mayHold 5 (some .boolean), Cond.fieldLink RX0 38 "ParcelledTable$Question" "low" "I", Cond.methodLink RX0 43 Lib.Math.max.name, Cond.static Lib.Math.max.name, Cond.initialized "java/lang/Math", Cond.code Lib.Math.max.name Lib.Math.max.code 2 (some .int), Cond.fieldLink RX0 49 "ParcelledTable$Question" "high" "I", Cond.methodLink RX0 52 Lib.Math.min.name, Cond.static Lib.Math.min.name, Cond.code Lib.Math.min.name Lib.Math.min.code 2 (some .int), Cond.fieldLink RX0 55 "ParcelledTable$Question" "sorts" "I", Cond.methodLink RX0 58 yX0_sortsByList, Cond.instanceMethod yX0_sortsByList, Cond.selects RX0 yX0_sortsByList yX0_sortsByList, Cond.code yX0_sortsByList cX0_sortsByList 2 (some .int), Cond.methodLink RX0 61 yX0_hashReaches, Cond.instanceMethod yX0_hashReaches, Cond.selects RX0 yX0_hashReaches yX0_hashReaches, Cond.code yX0_hashReaches cX0_hashReaches 6 (some .boolean), Cond.methodLink RX0 34 yX0_leafByHash]
def wsL_matters_r5 : List Cond := [Cond.instanceMethod yX0_leafByHash, Cond.selects RX0 yX0_leafByHash yX0_leafByHash, Cond.code yX0_leafByHash cX0_leafByHash 2 (some .int)]
def wsL_matters : List Cond := .codeWith yL_matters cL_matters 8 (some .int) [(0, 23, 26, 24), (0, 23, 30, 13)] :: ((wsL_matters_r1 ++ (wsL_matters_r2 ++ (wsL_matters_r3 ++ (wsL_matters_r4 ++ wsL_matters_r5)))) ++ wsX00 ++ wsX30 ++ wsX10 ++ (vx_atS RX3 221 "java/lang/IndexOutOfBoundsException" ["java/lang/RuntimeException", "java/lang/Exception"]).filter goodWord ++ (vx_atS RX3 68 "java/lang/IllegalArgumentException" ["java/lang/RuntimeException", "java/lang/Exception"]).filter goodWord)
def wsL_find : List Cond := .codeWith yL_find cL_find 4 (some .int) [(0, 9, 12, 13), (0, 9, 15, 15)] :: ([.classLink RL 13 "java/lang/IllegalArgumentException", .classLink RL 15 "java/lang/IllegalStateException", .methodLink RL 75 yX3_find, .instanceMethod yX3_find, .selects RX3 yX3_find yX3_find, .initialized RX3, .code yX3_find cX3_find 7 (some .int), .classLink RX3 80 "java/lang/IllegalStateException", .initialized "java/lang/IllegalStateException", .fieldLink RX3 90 "ParcelledTable" "stale" "Z", .fieldLink RX3 24 "ParcelledTable" "allRows" "[LParcelledTable$Row;", .fieldLink RX3 141 "ParcelledTable$Row" "value" "I", .methodLink RX3 110 yX3_checkValue, .static yX3_checkValue, .code yX3_checkValue cX3_checkValue 1 none, .classLink RX3 64 "java/lang/IllegalArgumentException", .initialized "java/lang/IllegalArgumentException", .methodLink RX3 158 yX2_isInTable, .instanceMethod yX2_isInTable, .selects RX2 yX2_isInTable yX2_isInTable, .initialized RX2, .code yX2_isInTable cX2_isInTable 1 (some .boolean), .fieldLink RX2 21 "ParcelledTable$Row" "part" "LParcelledTable$Part;", .fieldLink RX2 25 "ParcelledTable$Part" "state" "I"] ++ wsX30 ++ wsX20 ++ wsX00 ++ (vx_atS RX3 84 "java/lang/IllegalStateException" ["java/lang/RuntimeException", "java/lang/Exception"]).filter goodWord ++ (vx_atS RX3 68 "java/lang/IllegalArgumentException" ["java/lang/RuntimeException", "java/lang/Exception"]).filter goodWord)
def wsL_findIn_r1 : List Cond := [Cond.classLink RL 24 "java/lang/IndexOutOfBoundsException", Cond.classLink RL 13 "java/lang/IllegalArgumentException", Cond.methodLink RL 78 yX3_findIn, Cond.instanceMethod yX3_findIn, Cond.selects RX3 yX3_findIn yX3_findIn, Cond.initialized RX3, Cond.code yX3_findIn cX3_findIn 9 (some .int), Cond.fieldLink RX3 24 "ParcelledTable" "allRows" "[LParcelledTable$Row;", Cond.fieldLink RX3 128 "ParcelledTable$Row" "part" "LParcelledTable$Part;", Cond.fieldLink RX3 141 "ParcelledTable$Row" "value" "I", Cond.methodLink RX3 186 yX3_livingPart, Cond.instanceMethod yX3_livingPart, Cond.selects RX3 yX3_livingPart yX3_livingPart, Cond.code yX3_livingPart cX3_livingPart 3 (some (.object "ParcelledTable$Part")), Cond.classLink RX3 217 "java/lang/IndexOutOfBoundsException", Cond.initialized "java/lang/IndexOutOfBoundsException", Cond.fieldLink RX3 87 "ParcelledTable$Part" "state" "I", Cond.methodLink RX3 147 yX3_knownPart, Cond.instanceMethod yX3_knownPart, Cond.selects RX3 yX3_knownPart yX3_knownPart, Cond.code yX3_knownPart cX3_knownPart 3 (some (.object "ParcelledTable$Part")), Cond.fieldLink RX3 18 "ParcelledTable" "allParts" "[LParcelledTable$Part;", Cond.methodLink RX3 110 yX3_checkValue, Cond.static yX3_checkValue]
def wsL_findIn_r2 : List Cond := [Cond.code yX3_checkValue cX3_checkValue 1 none, Cond.classLink RX3 64 "java/lang/IllegalArgumentException", Cond.initialized "java/lang/IllegalArgumentException"]
def wsL_findIn : List Cond := .codeWith yL_findIn cL_findIn 5 (some .int) [(0, 10, 13, 24), (0, 10, 17, 13)] :: ((wsL_findIn_r1 ++ wsL_findIn_r2) ++ wsX30 ++ wsX20 ++ wsX00 ++ (vx_atS RX3 221 "java/lang/IndexOutOfBoundsException" ["java/lang/RuntimeException", "java/lang/Exception"]).filter goodWord ++ (vx_atS RX3 68 "java/lang/IllegalArgumentException" ["java/lang/RuntimeException", "java/lang/Exception"]).filter goodWord)
def wsL_law0_r1 : List Cond := [Cond.classLink RL 8 RX3, Cond.instantiable RX3 6, Cond.initialized RX3, Cond.classLink RL 82 RX4, Cond.instantiable RX4 13, Cond.initialized RX4, Cond.arrayClass .long, Cond.methodLink RL 81 yX3_init, Cond.instanceMethod yX3_init, Cond.code yX3_init cX3_init 1 none, Cond.methodLink RX3 1 objectInit, Cond.instanceMethod objectInit, Cond.code objectInit ⟨#[0xb1]⟩ 1 none, Cond.classLink RX3 7 RX0, Cond.instantiable RX0 6, Cond.initialized RX0, Cond.fieldLink RX3 14 "ParcelledTable" "rest" "LParcelledTable$Part;", Cond.fieldLink RX3 18 "ParcelledTable" "allParts" "[LParcelledTable$Part;", Cond.classLink RX3 22 RX2, Cond.fieldLink RX3 24 "ParcelledTable" "allRows" "[LParcelledTable$Row;", Cond.methodLink RX3 11 yX0_init, Cond.instanceMethod yX0_init, Cond.code yX0_init cX0_init 6 none, Cond.methodLink RX0 3 objectInit]
def wsL_law0_r2 : List Cond := [Cond.fieldLink RX0 9 "ParcelledTable$Part" "number" "I", Cond.fieldLink RX0 15 "ParcelledTable$Part" "from" "I", Cond.fieldLink RX0 18 "ParcelledTable$Part" "to" "I", Cond.fieldLink RX0 21 "ParcelledTable$Part" "kind" "I", Cond.fieldLink RX0 24 "ParcelledTable$Part" "detail" "I", Cond.fieldLink RX0 27 "ParcelledTable$Part" "state" "I", Cond.methodLink RL 84 yX4_init, Cond.instanceMethod yX4_init, Cond.code yX4_init cX4_init 1 none, Cond.methodLink RX4 1 objectInit, Cond.arrayClass .int, Cond.fieldLink RX4 7 "ParcelledTableModel" "from" "[I", Cond.fieldLink RX4 13 "ParcelledTableModel" "to" "[I", Cond.fieldLink RX4 16 "ParcelledTableModel" "kind" "[I", Cond.fieldLink RX4 19 "ParcelledTableModel" "detail" "[I", Cond.fieldLink RX4 22 "ParcelledTableModel" "state" "[I", Cond.fieldLink RX4 25 "ParcelledTableModel" "part" "[I", Cond.fieldLink RX4 28 "ParcelledTableModel" "key" "[I", Cond.fieldLink RX4 31 "ParcelledTableModel" "sort" "[I", Cond.fieldLink RX4 34 "ParcelledTableModel" "value" "[I", Cond.methodLink RL 85 yL_makePart, Cond.static yL_makePart, Cond.initialized RL, Cond.codeWith yL_makePart cL_makePart 7 (some .int) [(0, 14, 17, 13), (0, 14, 21, 15)]]
def wsL_law0_r3 : List Cond := [Cond.classLink RL 13 "java/lang/IllegalArgumentException", Cond.classLink RL 15 "java/lang/IllegalStateException", Cond.methodLink RL 7 yX3_makePart, Cond.instanceMethod yX3_makePart, Cond.selects RX3 yX3_makePart yX3_makePart, Cond.code yX3_makePart cX3_makePart 6 (some .int), Cond.fieldLink RX3 42 "ParcelledTable$Part" "number" "I", Cond.methodLink RX3 28 yX3_plannedPart, Cond.instanceMethod yX3_plannedPart, Cond.selects RX3 yX3_plannedPart yX3_plannedPart, Cond.code yX3_plannedPart cX3_plannedPart 5 (some (.object "ParcelledTable$Part")), Cond.fieldLink RX3 144 "ParcelledTable" "partsMade" "I", Cond.methodLink RX3 251 yX3_checkRange, Cond.static yX3_checkRange, Cond.code yX3_checkRange cX3_checkRange 2 none, Cond.classLink RX3 64 "java/lang/IllegalArgumentException", Cond.initialized "java/lang/IllegalArgumentException", Cond.methodLink RX3 103 yX3_checkKey, Cond.static yX3_checkKey, Cond.code yX3_checkKey cX3_checkKey 1 none, Cond.methodLink RX3 255 yX3_checkKind, Cond.static yX3_checkKind, Cond.code yX3_checkKind cX3_checkKind 2 none, Cond.methodLink RX3 199 yX3_leastDetail]
def wsL_law0_r4 : List Cond := [Cond.static yX3_leastDetail, Cond.code yX3_leastDetail cX3_leastDetail 1 (some .int), Cond.methodLink RX3 203 yX3_mostDetail, Cond.static yX3_mostDetail, Cond.code yX3_mostDetail cX3_mostDetail 1 (some .int), Cond.methodLink RX3 32 yX3_refuseOverlap, Cond.instanceMethod yX3_refuseOverlap, Cond.selects RX3 yX3_refuseOverlap yX3_refuseOverlap, Cond.code yX3_refuseOverlap cX3_refuseOverlap 6 none, Cond.classLink RX3 80 "java/lang/IllegalStateException", Cond.initialized "java/lang/IllegalStateException", Cond.fieldLink RX3 87 "ParcelledTable$Part" "state" "I", Cond.methodLink RX3 237 yX0_overlaps, Cond.instanceMethod yX0_overlaps, Cond.selects RX0 yX0_overlaps yX0_overlaps, Cond.code yX0_overlaps cX0_overlaps 2 (some .boolean), Cond.methodLink RX3 36 yX3_refuseRowsOfRest, Cond.instanceMethod yX3_refuseRowsOfRest, Cond.selects RX3 yX3_refuseRowsOfRest yX3_refuseRowsOfRest, Cond.code yX3_refuseRowsOfRest cX3_refuseRowsOfRest 6 none, Cond.fieldLink RX3 128 "ParcelledTable$Row" "part" "LParcelledTable$Part;", Cond.fieldLink RX3 135 "ParcelledTable$Row" "key" "I", Cond.methodLink RX3 243 yX0_covers, Cond.instanceMethod yX0_covers]
def wsL_law0_r5 : List Cond := [Cond.selects RX0 yX0_covers yX0_covers, Cond.code yX0_covers cX0_covers 2 (some .boolean), Cond.methodLink RX3 39 yX3_keepPart, Cond.instanceMethod yX3_keepPart, Cond.selects RX3 yX3_keepPart yX3_keepPart, Cond.code yX3_keepPart cX3_keepPart 2 none, Cond.methodLink RL 90 yX4_makePart, Cond.instanceMethod yX4_makePart, Cond.selects RX4 yX4_makePart yX4_makePart, Cond.code yX4_makePart cX4_makePart 6 (some .int), Cond.fieldLink RX4 45 "ParcelledTableModel" "parts" "I", Cond.methodLink RX4 65 yX4_isShape, Cond.static yX4_isShape, Cond.code yX4_isShape cX4_isShape 5 (some .boolean), Cond.methodLink RX4 41 yX4_isIn, Cond.static yX4_isIn, Cond.code yX4_isIn cX4_isIn 3 (some .boolean), Cond.methodLink RX4 62 yX4_isKey, Cond.static yX4_isKey, Cond.code yX4_isKey cX4_isKey 1 (some .boolean), Cond.methodLink RX4 69 yX4_overlaps, Cond.instanceMethod yX4_overlaps, Cond.selects RX4 yX4_overlaps yX4_overlaps, Cond.code yX4_overlaps cX4_overlaps 5 (some .boolean)]
def wsL_law0_r6 : List Cond := [Cond.methodLink RX4 55 yX4_isAttached, Cond.instanceMethod yX4_isAttached, Cond.selects RX4 yX4_isAttached yX4_isAttached, Cond.code yX4_isAttached cX4_isAttached 2 (some .boolean), Cond.methodLink RX4 72 yX4_isInRest, Cond.instanceMethod yX4_isInRest, Cond.selects RX4 yX4_isInRest yX4_isInRest, Cond.code yX4_isInRest cX4_isInRest 5 (some .boolean), Cond.fieldLink RX4 52 "ParcelledTableModel" "inserted" "I", Cond.methodLink RX4 75 yX4_isFine, Cond.instanceMethod yX4_isFine, Cond.selects RX4 yX4_isFine yX4_isFine, Cond.code yX4_isFine cX4_isFine 2 (some .boolean), Cond.fieldLink RX4 37 "ParcelledTableModel" "thrown" "I", Cond.methodLink RX4 78 yX4_makes, Cond.instanceMethod yX4_makes, Cond.selects RX4 yX4_makes yX4_makes, Cond.code yX4_makes cX4_makes 5 (some .int), Cond.methodLink RL 91 yX4_thrown, Cond.instanceMethod yX4_thrown, Cond.selects RX4 yX4_thrown yX4_thrown, Cond.code yX4_thrown cX4_thrown 1 (some .int), Cond.methodLink RL 95 yL_carveOut, Cond.static yL_carveOut]
def wsL_law0_r7 : List Cond := [Cond.codeWith yL_carveOut cL_carveOut 7 (some .int) [(0, 14, 17, 13), (0, 14, 21, 15)], Cond.methodLink RL 17 yX3_carveOut, Cond.instanceMethod yX3_carveOut, Cond.selects RX3 yX3_carveOut yX3_carveOut, Cond.code yX3_carveOut cX3_carveOut 6 (some .int), Cond.methodLink RX3 46 yX3_moveRows, Cond.instanceMethod yX3_moveRows, Cond.selects RX3 yX3_moveRows yX3_moveRows, Cond.code yX3_moveRows cX3_moveRows 7 none, Cond.methodLink RX3 50 yX3_rowsOf, Cond.instanceMethod yX3_rowsOf, Cond.selects RX3 yX3_rowsOf yX3_rowsOf, Cond.code yX3_rowsOf cX3_rowsOf 7 (some .int), Cond.methodLink RL 97 yX4_carveOut, Cond.instanceMethod yX4_carveOut, Cond.selects RX4 yX4_carveOut yX4_carveOut, Cond.code yX4_carveOut cX4_carveOut 7 (some .int), Cond.methodLink RX4 82 yX4_moves, Cond.instanceMethod yX4_moves, Cond.selects RX4 yX4_moves yX4_moves, Cond.code yX4_moves cX4_moves 4 none, Cond.methodLink RX4 58 yX4_hasKey, Cond.instanceMethod yX4_hasKey, Cond.selects RX4 yX4_hasKey yX4_hasKey]
def wsL_law0_r8 : List Cond := [Cond.code yX4_hasKey cX4_hasKey 3 (some .boolean), Cond.methodLink RX4 86 yX4_rowsOf, Cond.instanceMethod yX4_rowsOf, Cond.selects RX4 yX4_rowsOf yX4_rowsOf, Cond.code yX4_rowsOf cX4_rowsOf 4 (some .int), Cond.methodLink RL 98 yL_split, Cond.static yL_split, Cond.codeWith yL_split cL_split 5 (some .int) [(0, 10, 13, 24), (0, 10, 17, 13), (0, 10, 21, 15)], Cond.classLink RL 24 "java/lang/IndexOutOfBoundsException", Cond.methodLink RL 20 yX3_split, Cond.instanceMethod yX3_split, Cond.selects RX3 yX3_split yX3_split, Cond.code yX3_split cX3_split 5 (some .int), Cond.fieldLink RX3 58 "ParcelledTable$Part" "from" "I", Cond.fieldLink RX3 61 "ParcelledTable$Part" "to" "I", Cond.fieldLink RX3 74 "ParcelledTable$Part" "kind" "I", Cond.fieldLink RX3 77 "ParcelledTable$Part" "detail" "I", Cond.methodLink RX3 54 yX3_livingPartWithRange, Cond.instanceMethod yX3_livingPartWithRange, Cond.selects RX3 yX3_livingPartWithRange yX3_livingPartWithRange, Cond.code yX3_livingPartWithRange cX3_livingPartWithRange 3 (some (.object "ParcelledTable$Part")), Cond.classLink RX3 217 "java/lang/IndexOutOfBoundsException", Cond.initialized "java/lang/IndexOutOfBoundsException", Cond.methodLink RX3 186 yX3_livingPart]
def wsL_law0_r9 : List Cond := [Cond.instanceMethod yX3_livingPart, Cond.selects RX3 yX3_livingPart yX3_livingPart, Cond.code yX3_livingPart cX3_livingPart 3 (some (.object "ParcelledTable$Part")), Cond.methodLink RX3 147 yX3_knownPart, Cond.instanceMethod yX3_knownPart, Cond.selects RX3 yX3_knownPart yX3_knownPart, Cond.code yX3_knownPart cX3_knownPart 3 (some (.object "ParcelledTable$Part")), Cond.methodLink RX3 71 yX3_refuseUnlessAttached, Cond.static yX3_refuseUnlessAttached, Cond.code yX3_refuseUnlessAttached cX3_refuseUnlessAttached 1 none, Cond.methodLink RL 101 yX4_split, Cond.instanceMethod yX4_split, Cond.selects RX4 yX4_split yX4_split, Cond.code yX4_split cX4_split 5 (some .int), Cond.methodLink RX4 48 yX4_isPart, Cond.instanceMethod yX4_isPart, Cond.selects RX4 yX4_isPart yX4_isPart, Cond.code yX4_isPart cX4_isPart 2 (some .boolean), Cond.methodLink RL 102 yL_merge, Cond.static yL_merge, Cond.codeWith yL_merge cL_merge 5 (some .int) [(0, 10, 13, 24), (0, 10, 17, 15)], Cond.methodLink RL 26 yX3_merge, Cond.instanceMethod yX3_merge, Cond.selects RX3 yX3_merge yX3_merge]
def wsL_law0_r10 : List Cond := [Cond.code yX3_merge cX3_merge 5 (some .int), Cond.methodLink RL 104 yX4_merge, Cond.instanceMethod yX4_merge, Cond.selects RX4 yX4_merge yX4_merge, Cond.code yX4_merge cX4_merge 5 (some .int), Cond.methodLink RL 105 yL_detach, Cond.static yL_detach, Cond.codeWith yL_detach cL_detach 4 (some .int) [(0, 9, 12, 24), (0, 9, 15, 15)], Cond.methodLink RL 29 yX3_detach, Cond.instanceMethod yX3_detach, Cond.selects RX3 yX3_detach yX3_detach, Cond.code yX3_detach cX3_detach 3 (some .int), Cond.fieldLink RX3 90 "ParcelledTable" "stale" "Z", Cond.methodLink RL 108 yX4_detach, Cond.instanceMethod yX4_detach, Cond.selects RX4 yX4_detach yX4_detach, Cond.code yX4_detach cX4_detach 3 (some .int), Cond.fieldLink RX4 90 "ParcelledTableModel" "isStale" "Z", Cond.methodLink RL 109 yL_attach, Cond.static yL_attach, Cond.codeWith yL_attach cL_attach 4 (some .int) [(0, 9, 12, 24), (0, 9, 15, 15)], Cond.methodLink RL 33 yX3_attach, Cond.instanceMethod yX3_attach, Cond.selects RX3 yX3_attach yX3_attach]
def wsL_law0_r11 : List Cond := [Cond.code yX3_attach cX3_attach 3 (some .int), Cond.methodLink RX3 94 yX3_refuseUnlessDetached, Cond.static yX3_refuseUnlessDetached, Cond.code yX3_refuseUnlessDetached cX3_refuseUnlessDetached 1 none, Cond.methodLink RL 111 yX4_attach, Cond.instanceMethod yX4_attach, Cond.selects RX4 yX4_attach yX4_attach, Cond.code yX4_attach cX4_attach 3 (some .int), Cond.methodLink RL 112 yL_exchange, Cond.static yL_exchange, Cond.codeWith yL_exchange cL_exchange 5 (some .int) [(0, 10, 13, 24), (0, 10, 17, 15)], Cond.methodLink RL 36 yX3_exchange, Cond.instanceMethod yX3_exchange, Cond.selects RX3 yX3_exchange yX3_exchange, Cond.code yX3_exchange cX3_exchange 5 (some .int), Cond.methodLink RX3 97 yX3_refuseForeignRows, Cond.instanceMethod yX3_refuseForeignRows, Cond.selects RX3 yX3_refuseForeignRows yX3_refuseForeignRows, Cond.code yX3_refuseForeignRows cX3_refuseForeignRows 7 none, Cond.methodLink RX3 100 yX3_swapRows, Cond.instanceMethod yX3_swapRows, Cond.selects RX3 yX3_swapRows yX3_swapRows, Cond.code yX3_swapRows cX3_swapRows 7 none, Cond.methodLink RL 114 yX4_exchange]
def wsL_law0_r12 : List Cond := [Cond.instanceMethod yX4_exchange, Cond.selects RX4 yX4_exchange yX4_exchange, Cond.code yX4_exchange cX4_exchange 7 (some .int), Cond.methodLink RX4 94 yX4_fits, Cond.instanceMethod yX4_fits, Cond.selects RX4 yX4_fits yX4_fits, Cond.code yX4_fits cX4_fits 5 (some .boolean), Cond.methodLink RL 115 yL_insert, Cond.static yL_insert, Cond.codeWith yL_insert cL_insert 6 (some .int) [(0, 12, 15, 13), (0, 12, 19, 15)], Cond.methodLink RL 39 yX3_insert, Cond.instanceMethod yX3_insert, Cond.selects RX3 yX3_insert yX3_insert, Cond.code yX3_insert cX3_insert 5 (some .int), Cond.fieldLink RX3 113 "ParcelledTable" "rowsInserted" "I", Cond.instantiable RX2 4, Cond.initialized RX2, Cond.methodLink RX3 107 yX3_checkSort, Cond.static yX3_checkSort, Cond.code yX3_checkSort cX3_checkSort 1 none, Cond.methodLink RX3 110 yX3_checkValue, Cond.static yX3_checkValue, Cond.code yX3_checkValue cX3_checkValue 1 none, Cond.methodLink RX3 118 yX3_holderOf]
def wsL_law0_r13 : List Cond := [Cond.instanceMethod yX3_holderOf, Cond.selects RX3 yX3_holderOf yX3_holderOf, Cond.code yX3_holderOf cX3_holderOf 6 (some (.object "ParcelledTable$Part")), Cond.methodLink RX3 121 yX2_init, Cond.instanceMethod yX2_init, Cond.code yX2_init cX2_init 5 none, Cond.methodLink RX2 3 objectInit, Cond.fieldLink RX2 9 "ParcelledTable$Row" "key" "I", Cond.fieldLink RX2 15 "ParcelledTable$Row" "sort" "I", Cond.fieldLink RX2 18 "ParcelledTable$Row" "value" "I", Cond.fieldLink RX2 21 "ParcelledTable$Row" "part" "LParcelledTable$Part;", Cond.methodLink RL 118 yX4_insert, Cond.instanceMethod yX4_insert, Cond.selects RX4 yX4_insert yX4_insert, Cond.code yX4_insert cX4_insert 5 (some .int), Cond.methodLink RX4 97 yX4_isShaped, Cond.static yX4_isShaped, Cond.code yX4_isShaped cX4_isShaped 2 (some .boolean), Cond.methodLink RX4 100 yX4_partWith, Cond.instanceMethod yX4_partWith, Cond.selects RX4 yX4_partWith yX4_partWith, Cond.code yX4_partWith cX4_partWith 3 (some .int), Cond.methodLink RL 119 yL_change, Cond.static yL_change]
def wsL_law0_r14 : List Cond := [Cond.codeWith yL_change cL_change 6 (some .int) [(0, 19, 22, 24), (0, 19, 26, 13), (0, 19, 30, 15)], Cond.methodLink RL 43 yX3_change, Cond.instanceMethod yX3_change, Cond.selects RX3 yX3_change yX3_change, Cond.code yX3_change cX3_change 6 (some .boolean), Cond.fieldLink RX3 138 "ParcelledTable$Row" "sort" "I", Cond.methodLink RX3 124 yX3_presentRow, Cond.instanceMethod yX3_presentRow, Cond.selects RX3 yX3_presentRow yX3_presentRow, Cond.code yX3_presentRow cX3_presentRow 3 (some (.object "ParcelledTable$Row")), Cond.methodLink RX3 131 yX2_place, Cond.instanceMethod yX2_place, Cond.selects RX2 yX2_place yX2_place, Cond.code yX2_place cX2_place 1 (some .int), Cond.fieldLink RX2 49 "ParcelledTable$Part" "number" "I", Cond.methodLink RX2 30 yX0_leafFor, Cond.instanceMethod yX0_leafFor, Cond.selects RX0 yX0_leafFor yX0_leafFor, Cond.code yX0_leafFor cX0_leafFor 3 (some .int), Cond.static yX3_hasSort, Cond.code yX3_hasSort cX3_hasSort 2 (some .boolean), Cond.methodLink RX0 34 yX0_leafByHash, Cond.instanceMethod yX0_leafByHash, Cond.selects RX0 yX0_leafByHash yX0_leafByHash]
def wsL_law0_r15 : List Cond := [Cond.code yX0_leafByHash cX0_leafByHash 2 (some .int), Cond.methodLink RL 121 yX4_change, Cond.instanceMethod yX4_change, Cond.selects RX4 yX4_change yX4_change, Cond.code yX4_change cX4_change 6 (some .boolean), Cond.methodLink RX4 107 yX4_isRow, Cond.instanceMethod yX4_isRow, Cond.selects RX4 yX4_isRow yX4_isRow, Cond.code yX4_isRow cX4_isRow 2 (some .boolean), Cond.methodLink RX4 110 yX4_isTabled, Cond.instanceMethod yX4_isTabled, Cond.selects RX4 yX4_isTabled yX4_isTabled, Cond.code yX4_isTabled cX4_isTabled 2 (some .boolean), Cond.methodLink RX4 113 yX4_place, Cond.instanceMethod yX4_place, Cond.selects RX4 yX4_place yX4_place, Cond.code yX4_place cX4_place 2 (some .int), Cond.methodLink RX4 103 yX4_leaf, Cond.instanceMethod yX4_leaf, Cond.selects RX4 yX4_leaf yX4_leaf, Cond.code yX4_leaf cX4_leaf 4 (some .int), Cond.methodLink RL 122 yL_remove, Cond.static yL_remove, Cond.codeWith yL_remove cL_remove 4 (some .int) [(0, 9, 12, 24)]]
def wsL_law0_r16 : List Cond := [Cond.methodLink RL 47 yX3_remove, Cond.instanceMethod yX3_remove, Cond.selects RX3 yX3_remove yX3_remove, Cond.code yX3_remove cX3_remove 3 (some .int), Cond.fieldLink RX3 141 "ParcelledTable$Row" "value" "I", Cond.methodLink RL 124 yX4_remove, Cond.instanceMethod yX4_remove, Cond.selects RX4 yX4_remove yX4_remove, Cond.code yX4_remove cX4_remove 2 (some .int), Cond.methodLink RL 125 yX3_parts, Cond.instanceMethod yX3_parts, Cond.selects RX3 yX3_parts yX3_parts, Cond.code yX3_parts cX3_parts 1 (some .int), Cond.methodLink RL 128 yX4_parts, Cond.instanceMethod yX4_parts, Cond.selects RX4 yX4_parts yX4_parts, Cond.code yX4_parts cX4_parts 1 (some .int), Cond.methodLink RL 129 yL_stateOf, Cond.static yL_stateOf, Cond.codeWith yL_stateOf cL_stateOf 4 (some .int) [(0, 9, 12, 24)], Cond.methodLink RL 50 yX3_stateOf, Cond.instanceMethod yX3_stateOf, Cond.selects RX3 yX3_stateOf yX3_stateOf, Cond.code yX3_stateOf cX3_stateOf 2 (some .int)]
def wsL_law0_r17 : List Cond := [Cond.methodLink RL 131 yX4_stateOf, Cond.instanceMethod yX4_stateOf, Cond.selects RX4 yX4_stateOf yX4_stateOf, Cond.code yX4_stateOf cX4_stateOf 2 (some .int), Cond.methodLink RL 132 yL_partOf, Cond.static yL_partOf, Cond.codeWith yL_partOf cL_partOf 4 (some .int) [(0, 9, 12, 13)], Cond.methodLink RL 53 yX3_partOf, Cond.instanceMethod yX3_partOf, Cond.selects RX3 yX3_partOf yX3_partOf, Cond.code yX3_partOf cX3_partOf 2 (some .int), Cond.methodLink RL 134 yX4_partOf, Cond.instanceMethod yX4_partOf, Cond.selects RX4 yX4_partOf yX4_partOf, Cond.code yX4_partOf cX4_partOf 2 (some .int), Cond.methodLink RL 135 yL_leafOf, Cond.static yL_leafOf, Cond.codeWith yL_leafOf cL_leafOf 4 (some .int) [(0, 9, 12, 24)], Cond.methodLink RL 56 yX3_leafOf, Cond.instanceMethod yX3_leafOf, Cond.selects RX3 yX3_leafOf yX3_leafOf, Cond.code yX3_leafOf cX3_leafOf 2 (some .int), Cond.methodLink RL 137 yX4_leafOf, Cond.instanceMethod yX4_leafOf]
def wsL_law0_r18 : List Cond := [Cond.selects RX4 yX4_leafOf yX4_leafOf, Cond.code yX4_leafOf cX4_leafOf 2 (some .int), Cond.methodLink RL 138 yL_rowsIn, Cond.static yL_rowsIn, Cond.codeWith yL_rowsIn cL_rowsIn 5 (some .int) [(0, 10, 13, 24)], Cond.methodLink RL 59 yX3_rowsIn, Cond.instanceMethod yX3_rowsIn, Cond.selects RX3 yX3_rowsIn yX3_rowsIn, Cond.code yX3_rowsIn cX3_rowsIn 9 (some .int), Cond.methodLink RX3 150 yX3_livingPartWithLeaf, Cond.instanceMethod yX3_livingPartWithLeaf, Cond.selects RX3 yX3_livingPartWithLeaf yX3_livingPartWithLeaf, Cond.code yX3_livingPartWithLeaf cX3_livingPartWithLeaf 4 (some (.object "ParcelledTable$Part")), Cond.methodLink RX3 226 yX0_leaves, Cond.instanceMethod yX0_leaves, Cond.selects RX0 yX0_leaves yX0_leaves, Cond.code yX0_leaves cX0_leaves 1 (some .int), Cond.methodLink RX3 154 yX2_liesIn, Cond.instanceMethod yX2_liesIn, Cond.selects RX2 yX2_liesIn yX2_liesIn, Cond.code yX2_liesIn cX2_liesIn 3 (some .boolean), Cond.methodLink RL 140 yX4_rowsIn, Cond.instanceMethod yX4_rowsIn, Cond.selects RX4 yX4_rowsIn yX4_rowsIn]
def wsL_law0_r19 : List Cond := [Cond.code yX4_rowsIn cX4_rowsIn 5 (some .int), Cond.methodLink RX4 122 yX4_isLeaf, Cond.instanceMethod yX4_isLeaf, Cond.selects RX4 yX4_isLeaf yX4_isLeaf, Cond.code yX4_isLeaf cX4_isLeaf 3 (some .boolean), Cond.methodLink RX4 116 yX4_isAny, Cond.instanceMethod yX4_isAny, Cond.selects RX4 yX4_isAny yX4_isAny, Cond.code yX4_isAny cX4_isAny 2 (some .boolean), Cond.methodLink RX4 119 yX4_leaves, Cond.instanceMethod yX4_leaves, Cond.selects RX4 yX4_leaves yX4_leaves, Cond.code yX4_leaves cX4_leaves 2 (some .int), Cond.methodLink RL 141 yX3_rows, Cond.instanceMethod yX3_rows, Cond.selects RX3 yX3_rows yX3_rows, Cond.code yX3_rows cX3_rows 6 (some .int), Cond.methodLink RX3 158 yX2_isInTable, Cond.instanceMethod yX2_isInTable, Cond.selects RX2 yX2_isInTable yX2_isInTable, Cond.code yX2_isInTable cX2_isInTable 1 (some .boolean), Cond.fieldLink RX2 25 "ParcelledTable$Part" "state" "I", Cond.methodLink RL 144 yX4_rows, Cond.instanceMethod yX4_rows]
def wsL_law0_r20 : List Cond := [Cond.selects RX4 yX4_rows yX4_rows, Cond.code yX4_rows cX4_rows 3 (some .int), Cond.methodLink RL 145 yL_count, Cond.static yL_count, Cond.codeWith yL_count cL_count 6 (some .int) [(0, 12, 15, 13)], Cond.methodLink RL 62 yX3_count, Cond.instanceMethod yX3_count, Cond.selects RX3 yX3_count yX3_count, Cond.code yX3_count cX3_count 10 (some .int), Cond.methodLink RX3 162 yX3_checkedQuestion, Cond.static yX3_checkedQuestion, Cond.code yX3_checkedQuestion cX3_checkedQuestion 3 (some (.object "ParcelledTable$Question")), Cond.classLink RX3 212 RX1, Cond.instantiable RX1 3, Cond.initialized RX1, Cond.methodLink RX3 214 yX1_init, Cond.instanceMethod yX1_init, Cond.code yX1_init cX1_init 4 none, Cond.methodLink RX1 1 objectInit, Cond.fieldLink RX1 7 "ParcelledTable$Question" "low" "I", Cond.fieldLink RX1 13 "ParcelledTable$Question" "high" "I", Cond.fieldLink RX1 16 "ParcelledTable$Question" "sorts" "I", Cond.methodLink RX3 166 yX3_countInPart, Cond.instanceMethod yX3_countInPart]
def wsL_law0_r21 : List Cond := [Cond.selects RX3 yX3_countInPart yX3_countInPart, Cond.code yX3_countInPart cX3_countInPart 5 (some .int), Cond.methodLink RX3 177 yX3_mayMatter, Cond.instanceMethod yX3_mayMatter, Cond.selects RX3 yX3_mayMatter yX3_mayMatter, Cond.code yX3_mayMatter cX3_mayMatter 4 (some .boolean), Cond.fieldLink RX3 260 "ParcelledTable$Question" "sorts" "I", Cond.fieldLink RX3 263 "ParcelledTable$Question" "low" "I", Cond.fieldLink RX3 266 "ParcelledTable$Question" "high" "I", Cond.methodLink RX3 269 yX3_restMayHold, Cond.instanceMethod yX3_restMayHold, Cond.selects RX3 yX3_restMayHold yX3_restMayHold, Cond.code yX3_restMayHold cX3_restMayHold 6 (some .boolean), Cond.methodLink RX3 273 yX0_mayHold, Cond.instanceMethod yX0_mayHold, Cond.selects RX0 yX0_mayHold yX0_mayHold, Cond.code yX0_mayHold cX0_mayHold 5 (some .boolean), Cond.fieldLink RX0 38 "ParcelledTable$Question" "low" "I", Cond.methodLink RX0 43 Lib.Math.max.name, Cond.static Lib.Math.max.name, Cond.initialized "java/lang/Math", Cond.code Lib.Math.max.name Lib.Math.max.code 2 (some .int), Cond.fieldLink RX0 49 "ParcelledTable$Question" "high" "I", Cond.methodLink RX0 52 Lib.Math.min.name]
def wsL_law0_r22 : List Cond := [Cond.static Lib.Math.min.name, Cond.code Lib.Math.min.name Lib.Math.min.code 2 (some .int), Cond.fieldLink RX0 55 "ParcelledTable$Question" "sorts" "I", Cond.methodLink RX0 58 yX0_sortsByList, Cond.instanceMethod yX0_sortsByList, Cond.selects RX0 yX0_sortsByList yX0_sortsByList, Cond.code yX0_sortsByList cX0_sortsByList 2 (some .int), Cond.methodLink RX0 61 yX0_hashReaches, Cond.instanceMethod yX0_hashReaches, Cond.selects RX0 yX0_hashReaches yX0_hashReaches, Cond.code yX0_hashReaches cX0_hashReaches 6 (some .boolean), Cond.methodLink RX3 277 yX3_countInLeaf, Cond.instanceMethod yX3_countInLeaf, Cond.selects RX3 yX3_countInLeaf yX3_countInLeaf, Cond.code yX3_countInLeaf cX3_countInLeaf 9 (some .int), Cond.methodLink RX3 170 yX2_fits, Cond.instanceMethod yX2_fits, Cond.selects RX2 yX2_fits yX2_fits, Cond.code yX2_fits cX2_fits 2 (some .boolean), Cond.fieldLink RX2 34 "ParcelledTable$Question" "low" "I", Cond.fieldLink RX2 39 "ParcelledTable$Question" "high" "I", Cond.fieldLink RX2 42 "ParcelledTable$Question" "sorts" "I", Cond.methodLink RL 147 yX4_count, Cond.instanceMethod yX4_count]
def wsL_law0_r23 : List Cond := [Cond.selects RX4 yX4_count yX4_count, Cond.code yX4_count cX4_count 4 (some .int), Cond.methodLink RX4 125 yX4_isQuestion, Cond.static yX4_isQuestion, Cond.code yX4_isQuestion cX4_isQuestion 3 (some .boolean), Cond.methodLink RX4 128 yX4_counted, Cond.instanceMethod yX4_counted, Cond.selects RX4 yX4_counted yX4_counted, Cond.code yX4_counted cX4_counted 6 (some .int), Cond.methodLink RL 148 yL_countPlain, Cond.static yL_countPlain, Cond.codeWith yL_countPlain cL_countPlain 6 (some .int) [(0, 12, 15, 13)], Cond.methodLink RL 65 yX3_countPlain, Cond.instanceMethod yX3_countPlain, Cond.selects RX3 yX3_countPlain yX3_countPlain, Cond.code yX3_countPlain cX3_countPlain 10 (some .int), Cond.methodLink RL 150 yX4_countPlain, Cond.instanceMethod yX4_countPlain, Cond.selects RX4 yX4_countPlain yX4_countPlain, Cond.code yX4_countPlain cX4_countPlain 4 (some .int), Cond.methodLink RL 151 yL_read, Cond.static yL_read, Cond.codeWith yL_read cL_read 6 (some .int) [(0, 12, 15, 13)], Cond.methodLink RL 68 yX3_read]
def wsL_law0_r24 : List Cond := [Cond.instanceMethod yX3_read, Cond.selects RX3 yX3_read yX3_read, Cond.code yX3_read cX3_read 10 (some .int), Cond.methodLink RX3 174 yX3_leavesThatMayMatter, Cond.instanceMethod yX3_leavesThatMayMatter, Cond.selects RX3 yX3_leavesThatMayMatter yX3_leavesThatMayMatter, Cond.code yX3_leavesThatMayMatter cX3_leavesThatMayMatter 5 (some .int), Cond.methodLink RL 153 yX4_read, Cond.instanceMethod yX4_read, Cond.selects RX4 yX4_read yX4_read, Cond.code yX4_read cX4_read 7 (some .int), Cond.methodLink RX4 131 yX4_isMatter, Cond.instanceMethod yX4_isMatter, Cond.selects RX4 yX4_isMatter yX4_isMatter, Cond.code yX4_isMatter cX4_isMatter 10 (some .boolean), Cond.methodLink RL 154 yL_matters, Cond.static yL_matters, Cond.codeWith yL_matters cL_matters 8 (some .int) [(0, 23, 26, 24), (0, 23, 30, 13)], Cond.methodLink RL 71 yX3_matters, Cond.instanceMethod yX3_matters, Cond.selects RX3 yX3_matters yX3_matters, Cond.code yX3_matters cX3_matters 7 (some .boolean), Cond.methodLink RL 157 yX4_matters, Cond.instanceMethod yX4_matters]
def wsL_law0_r25 : List Cond := [Cond.selects RX4 yX4_matters yX4_matters, Cond.code yX4_matters cX4_matters 6 (some .boolean), Cond.methodLink RL 158 yX3_isStale, Cond.instanceMethod yX3_isStale, Cond.selects RX3 yX3_isStale yX3_isStale, Cond.code yX3_isStale cX3_isStale 1 (some .boolean), Cond.methodLink RL 162 yX4_isStale, Cond.instanceMethod yX4_isStale, Cond.selects RX4 yX4_isStale yX4_isStale, Cond.code yX4_isStale cX4_isStale 1 (some .boolean), Cond.methodLink RL 163 yX3_buildIndex, Cond.instanceMethod yX3_buildIndex, Cond.selects RX3 yX3_buildIndex yX3_buildIndex, Cond.code yX3_buildIndex cX3_buildIndex 1 (some .int), Cond.methodLink RX3 181 yX3_rows, Cond.methodLink RL 166 yX4_buildIndex, Cond.instanceMethod yX4_buildIndex, Cond.selects RX4 yX4_buildIndex yX4_buildIndex, Cond.code yX4_buildIndex cX4_buildIndex 1 (some .int), Cond.methodLink RX4 135 yX4_rows, Cond.methodLink RL 167 yL_find, Cond.static yL_find, Cond.codeWith yL_find cL_find 4 (some .int) [(0, 9, 12, 13), (0, 9, 15, 15)], Cond.methodLink RL 75 yX3_find]
def wsL_law0_r26 : List Cond := [Cond.instanceMethod yX3_find, Cond.selects RX3 yX3_find yX3_find, Cond.code yX3_find cX3_find 7 (some .int), Cond.methodLink RL 169 yX4_find, Cond.instanceMethod yX4_find, Cond.selects RX4 yX4_find yX4_find, Cond.code yX4_find cX4_find 4 (some .int), Cond.methodLink RL 170 yL_findIn, Cond.static yL_findIn, Cond.codeWith yL_findIn cL_findIn 5 (some .int) [(0, 10, 13, 24), (0, 10, 17, 13)], Cond.methodLink RL 78 yX3_findIn, Cond.instanceMethod yX3_findIn, Cond.selects RX3 yX3_findIn yX3_findIn, Cond.code yX3_findIn cX3_findIn 9 (some .int), Cond.methodLink RL 172 yX4_findIn, Cond.instanceMethod yX4_findIn, Cond.selects RX4 yX4_findIn yX4_findIn, Cond.code yX4_findIn cX4_findIn 5 (some .int)]
def wsL_law0 : List Cond := (wsL_law0_r1 ++ (wsL_law0_r2 ++ (wsL_law0_r3 ++ (wsL_law0_r4 ++ (wsL_law0_r5 ++ (wsL_law0_r6 ++ (wsL_law0_r7 ++ (wsL_law0_r8 ++ (wsL_law0_r9 ++ (wsL_law0_r10 ++ (wsL_law0_r11 ++ (wsL_law0_r12 ++ (wsL_law0_r13 ++ (wsL_law0_r14 ++ (wsL_law0_r15 ++ (wsL_law0_r16 ++ (wsL_law0_r17 ++ (wsL_law0_r18 ++ (wsL_law0_r19 ++ (wsL_law0_r20 ++ (wsL_law0_r21 ++ (wsL_law0_r22 ++ (wsL_law0_r23 ++ (wsL_law0_r24 ++ (wsL_law0_r25 ++ wsL_law0_r26))))))))))))))))))))))))) ++ wsX30 ++ wsX40 ++ wsX00 ++ wsX20 ++ wsX10 ++ ([] : List Cond)
def wsL_law : List Cond := wsL_law0 ++ (vx_atS RX3 68 "java/lang/IllegalArgumentException" ["java/lang/RuntimeException", "java/lang/Exception"]).filter goodWord ++ (vx_atS RX3 84 "java/lang/IllegalStateException" ["java/lang/RuntimeException", "java/lang/Exception"]).filter goodWord ++ (vx_atS RX3 221 "java/lang/IndexOutOfBoundsException" ["java/lang/RuntimeException", "java/lang/Exception"]).filter goodWord
set_option maxRecDepth 20000 in
theorem wsL_law_q1 : ∀ w ∈ wsL_law0_r1, w ∈ lw_tbl := fun w h => (goodIn_r wsL_law0_r1 [56, 57, 44, 611, 612, 46, 854, 58, 59, 60, 61, 62, 63, 64, 65, 45, 100, 101, 98, 103, 66, 67, 68, 69] (by decide +kernel) (by decide +kernel) w h).1
set_option maxRecDepth 20000 in
theorem wsL_law_q2 : ∀ w ∈ wsL_law0_r2, w ∈ lw_tbl := fun w h => (goodIn_r wsL_law0_r2 [70, 73, 75, 77, 79, 81, 613, 614, 615, 616, 657, 618, 619, 620, 621, 622, 624, 625, 626, 627, 140, 141, 43, 142] (by decide +kernel) (by decide +kernel) w h).1
set_option maxRecDepth 20000 in
theorem wsL_law_q3 : ∀ w ∈ wsL_law0_r3, w ∈ lw_tbl := fun w h => (goodIn_r wsL_law0_r3 [143, 144, 145, 146, 147, 148, 71, 149, 151, 0, 152, 102, 153, 154, 155, 159, 50, 156, 157, 158, 228, 229, 230, 232] (by decide +kernel) (by decide +kernel) w h).1
set_option maxRecDepth 20000 in
theorem wsL_law_q4 : ∀ w ∈ wsL_law0_r4, w ∈ lw_tbl := fun w h => (goodIn_r wsL_law0_r4 [233, 234, 235, 236, 237, 239, 241, 2, 242, 247, 51, 83, 243, 244, 245, 246, 263, 265, 3, 266, 410, 404, 267, 268] (by decide +kernel) (by decide +kernel) w h).1
set_option maxRecDepth 20000 in
theorem wsL_law_q5 : ∀ w ∈ wsL_law0_r5, w ∈ lw_tbl := fun w h => (goodIn_r wsL_law0_r5 [269, 270, 272, 274, 4, 275, 662, 663, 664, 665, 623, 666, 667, 668, 669, 670, 671, 672, 673, 674, 675, 677, 23, 678] (by decide +kernel) (by decide +kernel) w h).1
set_option maxRecDepth 20000 in
theorem wsL_law_q6 : ∀ w ∈ wsL_law0_r6, w ∈ lw_tbl := fun w h => (goodIn_r wsL_law0_r6 [679, 681, 24, 682, 683, 685, 25, 686, 628, 687, 689, 26, 690, 617, 691, 693, 27, 694, 658, 659, 660, 661, 277, 278] (by decide +kernel) (by decide +kernel) w h).1
set_option maxRecDepth 20000 in
theorem wsL_law_q7 : ∀ w ∈ wsL_law0_r7, w ∈ lw_tbl := fun w h => (goodIn_r wsL_law0_r7 [279, 280, 281, 282, 283, 284, 286, 5, 287, 288, 290, 6, 291, 695, 696, 697, 698, 699, 701, 28, 702, 703, 705, 29] (by decide +kernel) (by decide +kernel) w h).1
set_option maxRecDepth 20000 in
theorem wsL_law_q8 : ∀ w ∈ wsL_law0_r8, w ∈ lw_tbl := fun w h => (goodIn_r wsL_law0_r8 [706, 707, 709, 30, 710, 292, 293, 294, 295, 296, 297, 298, 299, 74, 76, 78, 80, 300, 302, 7, 303, 312, 52, 304] (by decide +kernel) (by decide +kernel) w h).1
set_option maxRecDepth 20000 in
theorem wsL_law_q9 : ∀ w ∈ wsL_law0_r9, w ∈ lw_tbl := fun w h => (goodIn_r wsL_law0_r9 [306, 8, 307, 308, 310, 9, 311, 331, 332, 333, 711, 712, 713, 714, 715, 717, 31, 718, 335, 336, 337, 338, 339, 340] (by decide +kernel) (by decide +kernel) w h).1
set_option maxRecDepth 20000 in
theorem wsL_law_q10 : ∀ w ∈ wsL_law0_r10, w ∈ lw_tbl := fun w h => (goodIn_r wsL_law0_r10 [341, 719, 720, 721, 722, 344, 345, 346, 347, 348, 349, 350, 105, 723, 724, 725, 726, 629, 351, 352, 353, 354, 355, 356] (by decide +kernel) (by decide +kernel) w h).1
set_option maxRecDepth 20000 in
theorem wsL_law_q11 : ∀ w ∈ wsL_law0_r11, w ∈ lw_tbl := fun w h => (goodIn_r wsL_law0_r11 [357, 358, 359, 360, 727, 728, 729, 730, 362, 363, 364, 365, 366, 367, 368, 369, 371, 10, 372, 374, 376, 11, 377, 731] (by decide +kernel) (by decide +kernel) w h).1
set_option maxRecDepth 20000 in
theorem wsL_law_q12 : ∀ w ∈ wsL_law0_r12, w ∈ lw_tbl := fun w h => (goodIn_r wsL_law0_r12 [732, 733, 734, 735, 737, 32, 738, 378, 379, 380, 381, 382, 383, 384, 104, 394, 53, 385, 386, 387, 389, 390, 391, 395] (by decide +kernel) (by decide +kernel) w h).1
set_option maxRecDepth 20000 in
theorem wsL_law_q13 : ∀ w ∈ wsL_law0_r13, w ∈ lw_tbl := fun w h => (goodIn_r wsL_law0_r13 [397, 12, 398, 399, 400, 401, 402, 403, 405, 407, 409, 739, 740, 741, 742, 743, 744, 745, 746, 748, 33, 749, 420, 421] (by decide +kernel) (by decide +kernel) w h).1
set_option maxRecDepth 20000 in
theorem wsL_law_q14 : ∀ w ∈ wsL_law0_r14, w ∈ lw_tbl := fun w h => (goodIn_r wsL_law0_r14 [422, 423, 424, 425, 426, 406, 427, 429, 13, 430, 432, 433, 434, 435, 72, 436, 437, 438, 439, 441, 442, 443, 445, 14] (by decide +kernel) (by decide +kernel) w h).1
set_option maxRecDepth 20000 in
theorem wsL_law_q15 : ∀ w ∈ wsL_law0_r15, w ∈ lw_tbl := fun w h => (goodIn_r wsL_law0_r15 [446, 750, 751, 752, 753, 754, 756, 34, 757, 758, 760, 35, 761, 762, 764, 36, 765, 766, 768, 37, 769, 447, 448, 449] (by decide +kernel) (by decide +kernel) w h).1
set_option maxRecDepth 20000 in
theorem wsL_law_q16 : ∀ w ∈ wsL_law0_r16, w ∈ lw_tbl := fun w h => (goodIn_r wsL_law0_r16 [450, 451, 452, 453, 408, 770, 771, 772, 773, 119, 120, 121, 122, 774, 775, 776, 777, 454, 455, 456, 457, 458, 459, 460] (by decide +kernel) (by decide +kernel) w h).1
set_option maxRecDepth 20000 in
theorem wsL_law_q17 : ∀ w ∈ wsL_law0_r17, w ∈ lw_tbl := fun w h => (goodIn_r wsL_law0_r17 [778, 779, 780, 781, 461, 462, 463, 464, 465, 466, 467, 782, 783, 784, 785, 468, 469, 470, 471, 472, 473, 474, 786, 787] (by decide +kernel) (by decide +kernel) w h).1
set_option maxRecDepth 20000 in
theorem wsL_law_q18 : ∀ w ∈ wsL_law0_r18, w ∈ lw_tbl := fun w h => (goodIn_r wsL_law0_r18 [788, 789, 475, 476, 477, 478, 479, 480, 481, 482, 484, 15, 485, 486, 487, 488, 489, 491, 492, 493, 494, 790, 791, 792] (by decide +kernel) (by decide +kernel) w h).1
set_option maxRecDepth 20000 in
theorem wsL_law_q19 : ∀ w ∈ wsL_law0_r19, w ∈ lw_tbl := fun w h => (goodIn_r wsL_law0_r19 [793, 794, 796, 38, 797, 798, 800, 39, 801, 802, 804, 40, 805, 123, 124, 125, 126, 127, 128, 129, 130, 82, 806, 807] (by decide +kernel) (by decide +kernel) w h).1
set_option maxRecDepth 20000 in
theorem wsL_law_q20 : ∀ w ∈ wsL_law0_r20, w ∈ lw_tbl := fun w h => (goodIn_r wsL_law0_r20 [808, 809, 495, 496, 497, 498, 499, 500, 501, 502, 503, 504, 507, 508, 54, 509, 510, 511, 512, 513, 517, 521, 532, 534] (by decide +kernel) (by decide +kernel) w h).1
set_option maxRecDepth 20000 in
theorem wsL_law_q21 : ∀ w ∈ wsL_law0_r21, w ∈ lw_tbl := fun w h => (goodIn_r wsL_law0_r21 [16, 535, 536, 538, 17, 539, 524, 516, 520, 540, 542, 18, 543, 544, 545, 546, 547, 515, 548, 549, 55, 550, 519, 551] (by decide +kernel) (by decide +kernel) w h).1
set_option maxRecDepth 20000 in
theorem wsL_law_q22 : ∀ w ∈ wsL_law0_r22, w ∈ lw_tbl := fun w h => (goodIn_r wsL_law0_r22 [552, 553, 523, 554, 556, 19, 557, 558, 560, 20, 561, 562, 564, 21, 565, 566, 567, 568, 569, 514, 518, 522, 810, 811] (by decide +kernel) (by decide +kernel) w h).1
set_option maxRecDepth 20000 in
theorem wsL_law_q23 : ∀ w ∈ wsL_law0_r23, w ∈ lw_tbl := fun w h => (goodIn_r wsL_law0_r23 [812, 813, 814, 815, 816, 817, 819, 41, 820, 571, 572, 573, 574, 575, 576, 577, 821, 822, 823, 824, 578, 579, 580, 581] (by decide +kernel) (by decide +kernel) w h).1
set_option maxRecDepth 20000 in
theorem wsL_law_q24 : ∀ w ∈ wsL_law0_r24, w ∈ lw_tbl := fun w h => (goodIn_r wsL_law0_r24 [582, 583, 584, 585, 587, 22, 588, 825, 826, 827, 828, 829, 831, 42, 832, 589, 590, 591, 592, 593, 594, 595, 833, 834] (by decide +kernel) (by decide +kernel) w h).1
set_option maxRecDepth 20000 in
theorem wsL_law_q25 : ∀ w ∈ wsL_law0_r25, w ∈ lw_tbl := fun w h => (goodIn_r wsL_law0_r25 [835, 836, 131, 132, 133, 134, 837, 838, 839, 840, 135, 136, 137, 138, 139, 841, 842, 843, 844, 845, 596, 597, 598, 599] (by decide +kernel) (by decide +kernel) w h).1
set_option maxRecDepth 20000 in
theorem wsL_law_q26 : ∀ w ∈ wsL_law0_r26, w ∈ lw_tbl := fun w h => (goodIn_r wsL_law0_r26 [600, 601, 602, 846, 847, 848, 849, 604, 605, 606, 607, 608, 609, 610, 850, 851, 852, 853] (by decide +kernel) (by decide +kernel) w h).1
set_option maxRecDepth 20000 in
theorem wsL_law_u0 : ∀ w ∈ wsX00, w ∈ lw_tbl := fun w h => (goodIn_r wsX00 [84, 86, 88, 90, 92, 94] (by decide +kernel) (by decide +kernel) w h).1
set_option maxRecDepth 20000 in
theorem wsL_law_u1 : ∀ w ∈ wsX10, w ∈ lw_tbl := fun w h => (goodIn_r wsX10 [525, 527, 529] (by decide +kernel) (by decide +kernel) w h).1
set_option maxRecDepth 20000 in
theorem wsL_law_u2 : ∀ w ∈ wsX20, w ∈ lw_tbl := fun w h => (goodIn_r wsX20 [411, 413, 415, 417] (by decide +kernel) (by decide +kernel) w h).1
set_option maxRecDepth 20000 in
theorem wsL_law_u3 : ∀ w ∈ wsX30, w ∈ lw_tbl := fun w h => (goodIn_r wsX30 [106, 108, 110, 112, 114, 116] (by decide +kernel) (by decide +kernel) w h).1
set_option maxRecDepth 20000 in
theorem wsL_law_u4 : ∀ w ∈ wsX40, w ∈ lw_tbl := fun w h => (goodIn_r wsX40 [630, 632, 634, 636, 638, 640, 642, 644, 646, 648, 650, 652, 654] (by decide +kernel) (by decide +kernel) w h).1
theorem wsL_law_in0 : ∀ w ∈ wsL_law0, w ∈ lw_tbl := by
  unfold wsL_law0
  exact List.forall_mem_append.mpr ⟨List.forall_mem_append.mpr ⟨List.forall_mem_append.mpr ⟨List.forall_mem_append.mpr ⟨List.forall_mem_append.mpr ⟨List.forall_mem_append.mpr ⟨List.forall_mem_append.mpr ⟨wsL_law_q1, List.forall_mem_append.mpr ⟨wsL_law_q2, List.forall_mem_append.mpr ⟨wsL_law_q3, List.forall_mem_append.mpr ⟨wsL_law_q4, List.forall_mem_append.mpr ⟨wsL_law_q5, List.forall_mem_append.mpr ⟨wsL_law_q6, List.forall_mem_append.mpr ⟨wsL_law_q7, List.forall_mem_append.mpr ⟨wsL_law_q8, List.forall_mem_append.mpr ⟨wsL_law_q9, List.forall_mem_append.mpr ⟨wsL_law_q10, List.forall_mem_append.mpr ⟨wsL_law_q11, List.forall_mem_append.mpr ⟨wsL_law_q12, List.forall_mem_append.mpr ⟨wsL_law_q13, List.forall_mem_append.mpr ⟨wsL_law_q14, List.forall_mem_append.mpr ⟨wsL_law_q15, List.forall_mem_append.mpr ⟨wsL_law_q16, List.forall_mem_append.mpr ⟨wsL_law_q17, List.forall_mem_append.mpr ⟨wsL_law_q18, List.forall_mem_append.mpr ⟨wsL_law_q19, List.forall_mem_append.mpr ⟨wsL_law_q20, List.forall_mem_append.mpr ⟨wsL_law_q21, List.forall_mem_append.mpr ⟨wsL_law_q22, List.forall_mem_append.mpr ⟨wsL_law_q23, List.forall_mem_append.mpr ⟨wsL_law_q24, List.forall_mem_append.mpr ⟨wsL_law_q25, wsL_law_q26⟩⟩⟩⟩⟩⟩⟩⟩⟩⟩⟩⟩⟩⟩⟩⟩⟩⟩⟩⟩⟩⟩⟩⟩⟩, wsL_law_u3⟩, wsL_law_u4⟩, wsL_law_u0⟩, wsL_law_u2⟩, wsL_law_u1⟩, fun _ h => absurd h List.not_mem_nil⟩
theorem wsL_law_x0 : ∀ w ∈ (vx_atS RX3 68 "java/lang/IllegalArgumentException" ["java/lang/RuntimeException", "java/lang/Exception"]).filter goodWord, w ∈ lw_tbl := by decide +kernel
theorem wsL_law_x1 : ∀ w ∈ (vx_atS RX3 84 "java/lang/IllegalStateException" ["java/lang/RuntimeException", "java/lang/Exception"]).filter goodWord, w ∈ lw_tbl := by decide +kernel
theorem wsL_law_x2 : ∀ w ∈ (vx_atS RX3 221 "java/lang/IndexOutOfBoundsException" ["java/lang/RuntimeException", "java/lang/Exception"]).filter goodWord, w ∈ lw_tbl := by decide +kernel
theorem wsL_law_in : ∀ w ∈ wsL_law, w ∈ lw_tbl := fun w h => (List.mem_append.mp h).elim (fun h => (List.mem_append.mp h).elim (fun h => (List.mem_append.mp h).elim (fun h => wsL_law_in0 w h) (fun h => wsL_law_x0 w h)) (fun h => wsL_law_x1 w h)) (fun h => wsL_law_x2 w h)
theorem inlX0 : ∀ w ∈ wsX00, w ∈ wsL_law := fun _ h => List.mem_append_left _ (List.mem_append_left _ (List.mem_append_left _ (List.mem_append_left _ (List.mem_append_left _ (List.mem_append_left _ (List.mem_append_right _ h))))))
theorem inX0 : ∀ w ∈ wsX00, w ∈ lw_tbl := fun w h => wsL_law_in w (inlX0 w h)
theorem inlX1 : ∀ w ∈ wsX10, w ∈ wsL_law := fun _ h => List.mem_append_left _ (List.mem_append_left _ (List.mem_append_left _ (List.mem_append_left _ (List.mem_append_right _ h))))
theorem inX1 : ∀ w ∈ wsX10, w ∈ lw_tbl := fun w h => wsL_law_in w (inlX1 w h)
theorem inlX2 : ∀ w ∈ wsX20, w ∈ wsL_law := fun _ h => List.mem_append_left _ (List.mem_append_left _ (List.mem_append_left _ (List.mem_append_left _ (List.mem_append_left _ (List.mem_append_right _ h)))))
theorem inX2 : ∀ w ∈ wsX20, w ∈ lw_tbl := fun w h => wsL_law_in w (inlX2 w h)
theorem inlX3 : ∀ w ∈ wsX30, w ∈ wsL_law := fun _ h => List.mem_append_left _ (List.mem_append_left _ (List.mem_append_left _ (List.mem_append_left _ (List.mem_append_left _ (List.mem_append_left _ (List.mem_append_left _ (List.mem_append_left _ (List.mem_append_right _ h))))))))
theorem inX3 : ∀ w ∈ wsX30, w ∈ lw_tbl := fun w h => wsL_law_in w (inlX3 w h)
theorem inlX4 : ∀ w ∈ wsX40, w ∈ wsL_law := fun _ h => List.mem_append_left _ (List.mem_append_left _ (List.mem_append_left _ (List.mem_append_left _ (List.mem_append_left _ (List.mem_append_left _ (List.mem_append_left _ (List.mem_append_right _ h)))))))
theorem inX4 : ∀ w ∈ wsX40, w ∈ lw_tbl := fun w h => wsL_law_in w (inlX4 w h)
theorem inJ9 : ∀ w ∈ wsJ90, w ∈ lw_tbl := by decide +kernel
theorem inJ0 : ∀ w ∈ wsJ00, w ∈ lw_tbl := by decide +kernel
abbrev vwCl : List vw_C := [(RX0, TX0, 6), (RX1, TX1, 3), (RX2, TX2, 4), (RX3, TX3, 6), (RX4, TX4, 13)]
end
section
theorem dX0_init_0 : decode cX0_init 0 = .ok (.aload_n 0, 1) := by decide +kernel
theorem dX0_init_1 : decode cX0_init 1 = .ok (.invokespecial 3, 3) := by decide +kernel
theorem dX0_init_4 : decode cX0_init 4 = .ok (.aload_n 0, 1) := by decide +kernel
theorem dX0_init_5 : decode cX0_init 5 = .ok (.iload_n 1, 1) := by decide +kernel
theorem dX0_init_6 : decode cX0_init 6 = .ok (.putfield 9, 3) := by decide +kernel
theorem dX0_init_9 : decode cX0_init 9 = .ok (.aload_n 0, 1) := by decide +kernel
theorem dX0_init_10 : decode cX0_init 10 = .ok (.iload_n 2, 1) := by decide +kernel
theorem dX0_init_11 : decode cX0_init 11 = .ok (.putfield 15, 3) := by decide +kernel
theorem dX0_init_14 : decode cX0_init 14 = .ok (.aload_n 0, 1) := by decide +kernel
theorem dX0_init_15 : decode cX0_init 15 = .ok (.iload_n 3, 1) := by decide +kernel
theorem dX0_init_16 : decode cX0_init 16 = .ok (.putfield 18, 3) := by decide +kernel
theorem dX0_init_19 : decode cX0_init 19 = .ok (.aload_n 0, 1) := by decide +kernel
theorem dX0_init_20 : decode cX0_init 20 = .ok (.iload 4, 2) := by decide +kernel
theorem dX0_init_22 : decode cX0_init 22 = .ok (.putfield 21, 3) := by decide +kernel
theorem dX0_init_25 : decode cX0_init 25 = .ok (.aload_n 0, 1) := by decide +kernel
theorem dX0_init_26 : decode cX0_init 26 = .ok (.iload 5, 2) := by decide +kernel
theorem dX0_init_28 : decode cX0_init 28 = .ok (.putfield 24, 3) := by decide +kernel
theorem dX0_init_31 : decode cX0_init 31 = .ok (.aload_n 0, 1) := by decide +kernel
theorem dX0_init_32 : decode cX0_init 32 = .ok (.iconst 0, 1) := by decide +kernel
theorem dX0_init_33 : decode cX0_init 33 = .ok (.putfield 27, 3) := by decide +kernel
theorem dX0_init_36 : decode cX0_init 36 = .ok (.return_, 1) := by decide +kernel
theorem dX0_covers_0 : decode cX0_covers 0 = .ok (.iload_n 1, 1) := by decide +kernel
theorem dX0_covers_1 : decode cX0_covers 1 = .ok (.aload_n 0, 1) := by decide +kernel
theorem dX0_covers_2 : decode cX0_covers 2 = .ok (.getfield 15, 3) := by decide +kernel
theorem dX0_covers_5 : decode cX0_covers 5 = .ok (.if_icmp .lt 15, 3) := by decide +kernel
theorem dX0_covers_8 : decode cX0_covers 8 = .ok (.iload_n 1, 1) := by decide +kernel
theorem dX0_covers_9 : decode cX0_covers 9 = .ok (.aload_n 0, 1) := by decide +kernel
theorem dX0_covers_10 : decode cX0_covers 10 = .ok (.getfield 18, 3) := by decide +kernel
theorem dX0_covers_13 : decode cX0_covers 13 = .ok (.if_icmp .ge 7, 3) := by decide +kernel
theorem dX0_covers_16 : decode cX0_covers 16 = .ok (.iconst 1, 1) := by decide +kernel
theorem dX0_covers_17 : decode cX0_covers 17 = .ok (.goto 4, 3) := by decide +kernel
theorem dX0_covers_20 : decode cX0_covers 20 = .ok (.iconst 0, 1) := by decide +kernel
theorem dX0_covers_21 : decode cX0_covers 21 = .ok (.ireturn, 1) := by decide +kernel
theorem dX0_overlaps_0 : decode cX0_overlaps 0 = .ok (.aload_n 0, 1) := by decide +kernel
theorem dX0_overlaps_1 : decode cX0_overlaps 1 = .ok (.getfield 15, 3) := by decide +kernel
theorem dX0_overlaps_4 : decode cX0_overlaps 4 = .ok (.aload_n 1, 1) := by decide +kernel
theorem dX0_overlaps_5 : decode cX0_overlaps 5 = .ok (.getfield 18, 3) := by decide +kernel
theorem dX0_overlaps_8 : decode cX0_overlaps 8 = .ok (.if_icmp .ge 18, 3) := by decide +kernel
theorem dX0_overlaps_11 : decode cX0_overlaps 11 = .ok (.aload_n 1, 1) := by decide +kernel
theorem dX0_overlaps_12 : decode cX0_overlaps 12 = .ok (.getfield 15, 3) := by decide +kernel
theorem dX0_overlaps_15 : decode cX0_overlaps 15 = .ok (.aload_n 0, 1) := by decide +kernel
theorem dX0_overlaps_16 : decode cX0_overlaps 16 = .ok (.getfield 18, 3) := by decide +kernel
theorem dX0_overlaps_19 : decode cX0_overlaps 19 = .ok (.if_icmp .ge 7, 3) := by decide +kernel
theorem dX0_overlaps_22 : decode cX0_overlaps 22 = .ok (.iconst 1, 1) := by decide +kernel
theorem dX0_overlaps_23 : decode cX0_overlaps 23 = .ok (.goto 4, 3) := by decide +kernel
theorem dX0_overlaps_26 : decode cX0_overlaps 26 = .ok (.iconst 0, 1) := by decide +kernel
theorem dX0_overlaps_27 : decode cX0_overlaps 27 = .ok (.ireturn, 1) := by decide +kernel
theorem dX0_leaves_0 : decode cX0_leaves 0 = .ok (.aload_n 0, 1) := by decide +kernel
theorem dX0_leaves_1 : decode cX0_leaves 1 = .ok (.getfield 21, 3) := by decide +kernel
theorem dX0_leaves_4 : decode cX0_leaves 4 = .ok (.lookupswitch 35 #[(1, 28), (2, 30)], 28) := by decide +kernel
theorem dX0_leaves_32 : decode cX0_leaves 32 = .ok (.iconst 2, 1) := by decide +kernel
theorem dX0_leaves_33 : decode cX0_leaves 33 = .ok (.ireturn, 1) := by decide +kernel
theorem dX0_leaves_34 : decode cX0_leaves 34 = .ok (.aload_n 0, 1) := by decide +kernel
theorem dX0_leaves_35 : decode cX0_leaves 35 = .ok (.getfield 24, 3) := by decide +kernel
theorem dX0_leaves_38 : decode cX0_leaves 38 = .ok (.ireturn, 1) := by decide +kernel
theorem dX0_leaves_39 : decode cX0_leaves 39 = .ok (.iconst 1, 1) := by decide +kernel
theorem dX0_leaves_40 : decode cX0_leaves 40 = .ok (.ireturn, 1) := by decide +kernel
set_option maxRecDepth 20000 in
theorem ggX0_leafFor_X3_hasSort : GoodIn wsX0_leafFor wsX3_hasSort := goodIn_r _ [5] (by decide +kernel) (by decide +kernel)
set_option maxRecDepth 20000 in
theorem gX0_leafFor_X3_hasSort_n30 : GoodIn wsX0_leafFor (wsX3_hasSort) := ggX0_leafFor_X3_hasSort
set_option maxRecDepth 20000 in
theorem ggX0_leafFor_X0_leafByHash : GoodIn wsX0_leafFor wsX0_leafByHash := goodIn_r _ [10, 2, 11, 12, 13, 14, 15, 16] (by decide +kernel) (by decide +kernel)
set_option maxRecDepth 20000 in
theorem gX0_leafFor_X0_leafByHash : GoodIn wsX0_leafFor (wsV RX0 34 RX0 yX0_leafByHash wsX0_leafByHash) := goodIn_app (goodIn_of _ (by decide +kernel)) ggX0_leafFor_X0_leafByHash
theorem dX0_leafFor_0 : decode cX0_leafFor 0 = .ok (.aload_n 0, 1) := by decide +kernel
theorem dX0_leafFor_1 : decode cX0_leafFor 1 = .ok (.getfield 21, 3) := by decide +kernel
theorem dX0_leafFor_4 : decode cX0_leafFor 4 = .ok (.lookupswitch 51 #[(1, 28), (2, 45)], 28) := by decide +kernel
theorem dX0_leafFor_32 : decode cX0_leafFor 32 = .ok (.aload_n 0, 1) := by decide +kernel
theorem dX0_leafFor_33 : decode cX0_leafFor 33 = .ok (.getfield 24, 3) := by decide +kernel
theorem dX0_leafFor_36 : decode cX0_leafFor 36 = .ok (.iload_n 2, 1) := by decide +kernel
theorem dX0_leafFor_37 : decode cX0_leafFor 37 = .ok (.invokestatic 30, 3) := by decide +kernel
theorem dX0_leafFor_40 : decode cX0_leafFor 40 = .ok (.ifCond .eq 7, 3) := by decide +kernel
theorem dX0_leafFor_43 : decode cX0_leafFor 43 = .ok (.iconst 0, 1) := by decide +kernel
theorem dX0_leafFor_44 : decode cX0_leafFor 44 = .ok (.goto 4, 3) := by decide +kernel
theorem dX0_leafFor_47 : decode cX0_leafFor 47 = .ok (.iconst 1, 1) := by decide +kernel
theorem dX0_leafFor_48 : decode cX0_leafFor 48 = .ok (.ireturn, 1) := by decide +kernel
theorem dX0_leafFor_49 : decode cX0_leafFor 49 = .ok (.aload_n 0, 1) := by decide +kernel
theorem dX0_leafFor_50 : decode cX0_leafFor 50 = .ok (.iload_n 1, 1) := by decide +kernel
theorem dX0_leafFor_51 : decode cX0_leafFor 51 = .ok (.invokevirtual 34, 3) := by decide +kernel
theorem dX0_leafFor_54 : decode cX0_leafFor 54 = .ok (.ireturn, 1) := by decide +kernel
theorem dX0_leafFor_55 : decode cX0_leafFor 55 = .ok (.iconst 0, 1) := by decide +kernel
theorem dX0_leafFor_56 : decode cX0_leafFor 56 = .ok (.ireturn, 1) := by decide +kernel
set_option maxRecDepth 20000 in
theorem ggX0_mayHold_X0_sortsByList : GoodIn wsX0_mayHold wsX0_sortsByList := goodIn_r _ [18, 19, 28, 29, 30, 31, 32, 33] (by decide +kernel) (by decide +kernel)
set_option maxRecDepth 20000 in
theorem gX0_mayHold_X0_sortsByList : GoodIn wsX0_mayHold (wsV RX0 58 RX0 yX0_sortsByList wsX0_sortsByList) := goodIn_app (goodIn_of _ (by decide +kernel)) ggX0_mayHold_X0_sortsByList
set_option maxRecDepth 20000 in
theorem ggX0_mayHold_X0_hashReaches : GoodIn wsX0_mayHold wsX0_hashReaches := goodIn_r _ [23, 19, 9, 10, 5, 11, 24, 25, 26, 17, 27, 28, 29, 30, 31, 32, 33] (by decide +kernel) (by decide +kernel)
set_option maxRecDepth 20000 in
theorem gX0_mayHold_X0_hashReaches : GoodIn wsX0_mayHold (wsV RX0 61 RX0 yX0_hashReaches wsX0_hashReaches) := goodIn_app (goodIn_of _ (by decide +kernel)) ggX0_mayHold_X0_hashReaches
theorem dX0_mayHold_0 : decode cX0_mayHold 0 = .ok (.aload_n 0, 1) := by decide +kernel
theorem dX0_mayHold_1 : decode cX0_mayHold 1 = .ok (.getfield 15, 3) := by decide +kernel
theorem dX0_mayHold_4 : decode cX0_mayHold 4 = .ok (.aload_n 2, 1) := by decide +kernel
theorem dX0_mayHold_5 : decode cX0_mayHold 5 = .ok (.getfield 38, 3) := by decide +kernel
theorem dX0_mayHold_8 : decode cX0_mayHold 8 = .ok (.invokestatic 43, 3) := by decide +kernel
theorem dX0_mayHold_11 : decode cX0_mayHold 11 = .ok (.istore_n 3, 1) := by decide +kernel
theorem dX0_mayHold_12 : decode cX0_mayHold 12 = .ok (.aload_n 0, 1) := by decide +kernel
theorem dX0_mayHold_13 : decode cX0_mayHold 13 = .ok (.getfield 18, 3) := by decide +kernel
theorem dX0_mayHold_16 : decode cX0_mayHold 16 = .ok (.iconst 1, 1) := by decide +kernel
theorem dX0_mayHold_17 : decode cX0_mayHold 17 = .ok (.isub, 1) := by decide +kernel
theorem dX0_mayHold_18 : decode cX0_mayHold 18 = .ok (.aload_n 2, 1) := by decide +kernel
theorem dX0_mayHold_19 : decode cX0_mayHold 19 = .ok (.getfield 49, 3) := by decide +kernel
theorem dX0_mayHold_22 : decode cX0_mayHold 22 = .ok (.invokestatic 52, 3) := by decide +kernel
theorem dX0_mayHold_25 : decode cX0_mayHold 25 = .ok (.istore 4, 2) := by decide +kernel
theorem dX0_mayHold_27 : decode cX0_mayHold 27 = .ok (.iload_n 3, 1) := by decide +kernel
theorem dX0_mayHold_28 : decode cX0_mayHold 28 = .ok (.iload 4, 2) := by decide +kernel
theorem dX0_mayHold_30 : decode cX0_mayHold 30 = .ok (.if_icmp .le 5, 3) := by decide +kernel
theorem dX0_mayHold_33 : decode cX0_mayHold 33 = .ok (.iconst 0, 1) := by decide +kernel
theorem dX0_mayHold_34 : decode cX0_mayHold 34 = .ok (.ireturn, 1) := by decide +kernel
theorem dX0_mayHold_35 : decode cX0_mayHold 35 = .ok (.aload_n 0, 1) := by decide +kernel
theorem dX0_mayHold_36 : decode cX0_mayHold 36 = .ok (.getfield 21, 3) := by decide +kernel
theorem dX0_mayHold_39 : decode cX0_mayHold 39 = .ok (.lookupswitch 68 #[(1, 25), (2, 44)], 25) := by decide +kernel
theorem dX0_mayHold_64 : decode cX0_mayHold 64 = .ok (.aload_n 2, 1) := by decide +kernel
theorem dX0_mayHold_65 : decode cX0_mayHold 65 = .ok (.getfield 55, 3) := by decide +kernel
theorem dX0_mayHold_68 : decode cX0_mayHold 68 = .ok (.aload_n 0, 1) := by decide +kernel
theorem dX0_mayHold_69 : decode cX0_mayHold 69 = .ok (.iload_n 1, 1) := by decide +kernel
theorem dX0_mayHold_70 : decode cX0_mayHold 70 = .ok (.invokevirtual 58, 3) := by decide +kernel
theorem dX0_mayHold_73 : decode cX0_mayHold 73 = .ok (.iand, 1) := by decide +kernel
theorem dX0_mayHold_74 : decode cX0_mayHold 74 = .ok (.ifCond .eq 7, 3) := by decide +kernel
theorem dX0_mayHold_77 : decode cX0_mayHold 77 = .ok (.iconst 1, 1) := by decide +kernel
theorem dX0_mayHold_78 : decode cX0_mayHold 78 = .ok (.goto 4, 3) := by decide +kernel
theorem dX0_mayHold_81 : decode cX0_mayHold 81 = .ok (.iconst 0, 1) := by decide +kernel
theorem dX0_mayHold_82 : decode cX0_mayHold 82 = .ok (.ireturn, 1) := by decide +kernel
theorem dX0_mayHold_83 : decode cX0_mayHold 83 = .ok (.aload_n 2, 1) := by decide +kernel
theorem dX0_mayHold_84 : decode cX0_mayHold 84 = .ok (.getfield 55, 3) := by decide +kernel
theorem dX0_mayHold_87 : decode cX0_mayHold 87 = .ok (.ifCond .eq 18, 3) := by decide +kernel
theorem dX0_mayHold_90 : decode cX0_mayHold 90 = .ok (.aload_n 0, 1) := by decide +kernel
theorem dX0_mayHold_91 : decode cX0_mayHold 91 = .ok (.iload_n 1, 1) := by decide +kernel
theorem dX0_mayHold_92 : decode cX0_mayHold 92 = .ok (.iload_n 3, 1) := by decide +kernel
theorem dX0_mayHold_93 : decode cX0_mayHold 93 = .ok (.iload 4, 2) := by decide +kernel
theorem dX0_mayHold_95 : decode cX0_mayHold 95 = .ok (.invokevirtual 61, 3) := by decide +kernel
theorem dX0_mayHold_98 : decode cX0_mayHold 98 = .ok (.ifCond .eq 7, 3) := by decide +kernel
theorem dX0_mayHold_101 : decode cX0_mayHold 101 = .ok (.iconst 1, 1) := by decide +kernel
theorem dX0_mayHold_102 : decode cX0_mayHold 102 = .ok (.goto 4, 3) := by decide +kernel
theorem dX0_mayHold_105 : decode cX0_mayHold 105 = .ok (.iconst 0, 1) := by decide +kernel
theorem dX0_mayHold_106 : decode cX0_mayHold 106 = .ok (.ireturn, 1) := by decide +kernel
theorem dX0_mayHold_107 : decode cX0_mayHold 107 = .ok (.aload_n 2, 1) := by decide +kernel
theorem dX0_mayHold_108 : decode cX0_mayHold 108 = .ok (.getfield 55, 3) := by decide +kernel
theorem dX0_mayHold_111 : decode cX0_mayHold 111 = .ok (.ifCond .eq 7, 3) := by decide +kernel
theorem dX0_mayHold_114 : decode cX0_mayHold 114 = .ok (.iconst 1, 1) := by decide +kernel
theorem dX0_mayHold_115 : decode cX0_mayHold 115 = .ok (.goto 4, 3) := by decide +kernel
theorem dX0_mayHold_118 : decode cX0_mayHold 118 = .ok (.iconst 0, 1) := by decide +kernel
theorem dX0_mayHold_119 : decode cX0_mayHold 119 = .ok (.ireturn, 1) := by decide +kernel
theorem dX0_sortsByList_0 : decode cX0_sortsByList 0 = .ok (.iload_n 1, 1) := by decide +kernel
theorem dX0_sortsByList_1 : decode cX0_sortsByList 1 = .ok (.ifCond .ne 10, 3) := by decide +kernel
theorem dX0_sortsByList_4 : decode cX0_sortsByList 4 = .ok (.aload_n 0, 1) := by decide +kernel
theorem dX0_sortsByList_5 : decode cX0_sortsByList 5 = .ok (.getfield 24, 3) := by decide +kernel
theorem dX0_sortsByList_8 : decode cX0_sortsByList 8 = .ok (.goto 11, 3) := by decide +kernel
theorem dX0_sortsByList_11 : decode cX0_sortsByList 11 = .ok (.sipush 1023, 3) := by decide +kernel
theorem dX0_sortsByList_14 : decode cX0_sortsByList 14 = .ok (.aload_n 0, 1) := by decide +kernel
theorem dX0_sortsByList_15 : decode cX0_sortsByList 15 = .ok (.getfield 24, 3) := by decide +kernel
theorem dX0_sortsByList_18 : decode cX0_sortsByList 18 = .ok (.isub, 1) := by decide +kernel
theorem dX0_sortsByList_19 : decode cX0_sortsByList 19 = .ok (.ireturn, 1) := by decide +kernel
set_option maxRecDepth 20000 in
theorem ggX0_hashReaches_X0_leafByHash : GoodIn wsX0_hashReaches wsX0_leafByHash := goodIn_r _ [10, 1, 11, 12, 13, 14, 15, 16] (by decide +kernel) (by decide +kernel)
set_option maxRecDepth 20000 in
theorem gX0_hashReaches_X0_leafByHash : GoodIn wsX0_hashReaches (wsV RX0 34 RX0 yX0_leafByHash wsX0_leafByHash) := goodIn_app (goodIn_of _ (by decide +kernel)) ggX0_hashReaches_X0_leafByHash
theorem dX0_hashReaches_0 : decode cX0_hashReaches 0 = .ok (.iload_n 3, 1) := by decide +kernel
theorem dX0_hashReaches_1 : decode cX0_hashReaches 1 = .ok (.iload_n 2, 1) := by decide +kernel
theorem dX0_hashReaches_2 : decode cX0_hashReaches 2 = .ok (.aload_n 0, 1) := by decide +kernel
theorem dX0_hashReaches_3 : decode cX0_hashReaches 3 = .ok (.getfield 24, 3) := by decide +kernel
theorem dX0_hashReaches_6 : decode cX0_hashReaches 6 = .ok (.iadd, 1) := by decide +kernel
theorem dX0_hashReaches_7 : decode cX0_hashReaches 7 = .ok (.iconst 1, 1) := by decide +kernel
theorem dX0_hashReaches_8 : decode cX0_hashReaches 8 = .ok (.isub, 1) := by decide +kernel
theorem dX0_hashReaches_9 : decode cX0_hashReaches 9 = .ok (.invokestatic 52, 3) := by decide +kernel
theorem dX0_hashReaches_12 : decode cX0_hashReaches 12 = .ok (.istore 4, 2) := by decide +kernel
theorem dX0_hashReaches_14 : decode cX0_hashReaches 14 = .ok (.iload_n 2, 1) := by decide +kernel
theorem dX0_hashReaches_15 : decode cX0_hashReaches 15 = .ok (.istore 5, 2) := by decide +kernel
theorem dX0_hashReaches_17 : decode cX0_hashReaches 17 = .ok (.iload 5, 2) := by decide +kernel
theorem dX0_hashReaches_19 : decode cX0_hashReaches 19 = .ok (.iload 4, 2) := by decide +kernel
theorem dX0_hashReaches_21 : decode cX0_hashReaches 21 = .ok (.if_icmp .gt 21, 3) := by decide +kernel
theorem dX0_hashReaches_24 : decode cX0_hashReaches 24 = .ok (.aload_n 0, 1) := by decide +kernel
theorem dX0_hashReaches_25 : decode cX0_hashReaches 25 = .ok (.iload 5, 2) := by decide +kernel
theorem dX0_hashReaches_27 : decode cX0_hashReaches 27 = .ok (.invokevirtual 34, 3) := by decide +kernel
theorem dX0_hashReaches_30 : decode cX0_hashReaches 30 = .ok (.iload_n 1, 1) := by decide +kernel
theorem dX0_hashReaches_31 : decode cX0_hashReaches 31 = .ok (.if_icmp .ne 5, 3) := by decide +kernel
theorem dX0_hashReaches_34 : decode cX0_hashReaches 34 = .ok (.iconst 1, 1) := by decide +kernel
theorem dX0_hashReaches_35 : decode cX0_hashReaches 35 = .ok (.ireturn, 1) := by decide +kernel
theorem dX0_hashReaches_36 : decode cX0_hashReaches 36 = .ok (.iinc 5 1, 3) := by decide +kernel
theorem dX0_hashReaches_39 : decode cX0_hashReaches 39 = .ok (.goto (-22), 3) := by decide +kernel
theorem dX0_hashReaches_42 : decode cX0_hashReaches 42 = .ok (.iconst 0, 1) := by decide +kernel
theorem dX0_hashReaches_43 : decode cX0_hashReaches 43 = .ok (.ireturn, 1) := by decide +kernel
theorem dX0_leafByHash_0 : decode cX0_leafByHash 0 = .ok (.aload_n 0, 1) := by decide +kernel
theorem dX0_leafByHash_1 : decode cX0_leafByHash 1 = .ok (.getfield 24, 3) := by decide +kernel
theorem dX0_leafByHash_4 : decode cX0_leafByHash 4 = .ok (.ifCond .le 17, 3) := by decide +kernel
theorem dX0_leafByHash_7 : decode cX0_leafByHash 7 = .ok (.bipush 7, 2) := by decide +kernel
theorem dX0_leafByHash_9 : decode cX0_leafByHash 9 = .ok (.iload_n 1, 1) := by decide +kernel
theorem dX0_leafByHash_10 : decode cX0_leafByHash 10 = .ok (.imul, 1) := by decide +kernel
theorem dX0_leafByHash_11 : decode cX0_leafByHash 11 = .ok (.iconst 3, 1) := by decide +kernel
theorem dX0_leafByHash_12 : decode cX0_leafByHash 12 = .ok (.iadd, 1) := by decide +kernel
theorem dX0_leafByHash_13 : decode cX0_leafByHash 13 = .ok (.aload_n 0, 1) := by decide +kernel
theorem dX0_leafByHash_14 : decode cX0_leafByHash 14 = .ok (.getfield 24, 3) := by decide +kernel
theorem dX0_leafByHash_17 : decode cX0_leafByHash 17 = .ok (.irem, 1) := by decide +kernel
theorem dX0_leafByHash_18 : decode cX0_leafByHash 18 = .ok (.goto 4, 3) := by decide +kernel
theorem dX0_leafByHash_21 : decode cX0_leafByHash 21 = .ok (.iconst 0, 1) := by decide +kernel
theorem dX0_leafByHash_22 : decode cX0_leafByHash 22 = .ok (.ireturn, 1) := by decide +kernel
theorem dX1_init_0 : decode cX1_init 0 = .ok (.aload_n 0, 1) := by decide +kernel
theorem dX1_init_1 : decode cX1_init 1 = .ok (.invokespecial 1, 3) := by decide +kernel
theorem dX1_init_4 : decode cX1_init 4 = .ok (.aload_n 0, 1) := by decide +kernel
theorem dX1_init_5 : decode cX1_init 5 = .ok (.iload_n 1, 1) := by decide +kernel
theorem dX1_init_6 : decode cX1_init 6 = .ok (.putfield 7, 3) := by decide +kernel
theorem dX1_init_9 : decode cX1_init 9 = .ok (.aload_n 0, 1) := by decide +kernel
theorem dX1_init_10 : decode cX1_init 10 = .ok (.iload_n 2, 1) := by decide +kernel
theorem dX1_init_11 : decode cX1_init 11 = .ok (.putfield 13, 3) := by decide +kernel
theorem dX1_init_14 : decode cX1_init 14 = .ok (.aload_n 0, 1) := by decide +kernel
theorem dX1_init_15 : decode cX1_init 15 = .ok (.iload_n 3, 1) := by decide +kernel
theorem dX1_init_16 : decode cX1_init 16 = .ok (.putfield 16, 3) := by decide +kernel
theorem dX1_init_19 : decode cX1_init 19 = .ok (.return_, 1) := by decide +kernel
theorem dX2_init_0 : decode cX2_init 0 = .ok (.aload_n 0, 1) := by decide +kernel
theorem dX2_init_1 : decode cX2_init 1 = .ok (.invokespecial 3, 3) := by decide +kernel
theorem dX2_init_4 : decode cX2_init 4 = .ok (.aload_n 0, 1) := by decide +kernel
theorem dX2_init_5 : decode cX2_init 5 = .ok (.iload_n 1, 1) := by decide +kernel
theorem dX2_init_6 : decode cX2_init 6 = .ok (.putfield 9, 3) := by decide +kernel
theorem dX2_init_9 : decode cX2_init 9 = .ok (.aload_n 0, 1) := by decide +kernel
theorem dX2_init_10 : decode cX2_init 10 = .ok (.iload_n 2, 1) := by decide +kernel
theorem dX2_init_11 : decode cX2_init 11 = .ok (.putfield 15, 3) := by decide +kernel
theorem dX2_init_14 : decode cX2_init 14 = .ok (.aload_n 0, 1) := by decide +kernel
theorem dX2_init_15 : decode cX2_init 15 = .ok (.iload_n 3, 1) := by decide +kernel
theorem dX2_init_16 : decode cX2_init 16 = .ok (.putfield 18, 3) := by decide +kernel
theorem dX2_init_19 : decode cX2_init 19 = .ok (.aload_n 0, 1) := by decide +kernel
theorem dX2_init_20 : decode cX2_init 20 = .ok (.aload 4, 2) := by decide +kernel
theorem dX2_init_22 : decode cX2_init 22 = .ok (.putfield 21, 3) := by decide +kernel
theorem dX2_init_25 : decode cX2_init 25 = .ok (.return_, 1) := by decide +kernel
theorem dX2_isInTable_0 : decode cX2_isInTable 0 = .ok (.aload_n 0, 1) := by decide +kernel
theorem dX2_isInTable_1 : decode cX2_isInTable 1 = .ok (.getfield 21, 3) := by decide +kernel
theorem dX2_isInTable_4 : decode cX2_isInTable 4 = .ok (.getfield 25, 3) := by decide +kernel
theorem dX2_isInTable_7 : decode cX2_isInTable 7 = .ok (.ifCond .ne 7, 3) := by decide +kernel
theorem dX2_isInTable_10 : decode cX2_isInTable 10 = .ok (.iconst 1, 1) := by decide +kernel
theorem dX2_isInTable_11 : decode cX2_isInTable 11 = .ok (.goto 4, 3) := by decide +kernel
theorem dX2_isInTable_14 : decode cX2_isInTable 14 = .ok (.iconst 0, 1) := by decide +kernel
theorem dX2_isInTable_15 : decode cX2_isInTable 15 = .ok (.ireturn, 1) := by decide +kernel
set_option maxRecDepth 20000 in
theorem ggX2_liesIn_X0_leafFor : GoodIn wsX2_liesIn wsX0_leafFor := goodIn_r _ [8, 9, 10, 11, 12, 13, 14, 15, 16, 7, 17, 22, 23, 24, 25, 26, 27] (by decide +kernel) (by decide +kernel)
set_option maxRecDepth 20000 in
theorem gX2_liesIn_X0_leafFor : GoodIn wsX2_liesIn (wsV RX2 30 RX0 yX0_leafFor wsX0_leafFor) := goodIn_app (goodIn_of _ (by decide +kernel)) ggX2_liesIn_X0_leafFor
theorem dX2_liesIn_0 : decode cX2_liesIn 0 = .ok (.aload_n 0, 1) := by decide +kernel
theorem dX2_liesIn_1 : decode cX2_liesIn 1 = .ok (.getfield 21, 3) := by decide +kernel
theorem dX2_liesIn_4 : decode cX2_liesIn 4 = .ok (.aload_n 1, 1) := by decide +kernel
theorem dX2_liesIn_5 : decode cX2_liesIn 5 = .ok (.if_acmp .ne 26, 3) := by decide +kernel
theorem dX2_liesIn_8 : decode cX2_liesIn 8 = .ok (.aload_n 0, 1) := by decide +kernel
theorem dX2_liesIn_9 : decode cX2_liesIn 9 = .ok (.getfield 21, 3) := by decide +kernel
theorem dX2_liesIn_12 : decode cX2_liesIn 12 = .ok (.aload_n 0, 1) := by decide +kernel
theorem dX2_liesIn_13 : decode cX2_liesIn 13 = .ok (.getfield 9, 3) := by decide +kernel
theorem dX2_liesIn_16 : decode cX2_liesIn 16 = .ok (.aload_n 0, 1) := by decide +kernel
theorem dX2_liesIn_17 : decode cX2_liesIn 17 = .ok (.getfield 15, 3) := by decide +kernel
theorem dX2_liesIn_20 : decode cX2_liesIn 20 = .ok (.invokevirtual 30, 3) := by decide +kernel
theorem dX2_liesIn_23 : decode cX2_liesIn 23 = .ok (.iload_n 2, 1) := by decide +kernel
theorem dX2_liesIn_24 : decode cX2_liesIn 24 = .ok (.if_icmp .ne 7, 3) := by decide +kernel
theorem dX2_liesIn_27 : decode cX2_liesIn 27 = .ok (.iconst 1, 1) := by decide +kernel
theorem dX2_liesIn_28 : decode cX2_liesIn 28 = .ok (.goto 4, 3) := by decide +kernel
theorem dX2_liesIn_31 : decode cX2_liesIn 31 = .ok (.iconst 0, 1) := by decide +kernel
theorem dX2_liesIn_32 : decode cX2_liesIn 32 = .ok (.ireturn, 1) := by decide +kernel
set_option maxRecDepth 20000 in
theorem ggX2_fits_X3_hasSort : GoodIn wsX2_fits wsX3_hasSort := goodIn_r _ [8] (by decide +kernel) (by decide +kernel)
set_option maxRecDepth 20000 in
theorem gX2_fits_X3_hasSort_n45 : GoodIn wsX2_fits (wsX3_hasSort) := ggX2_fits_X3_hasSort
theorem dX2_fits_0 : decode cX2_fits 0 = .ok (.aload_n 0, 1) := by decide +kernel
theorem dX2_fits_1 : decode cX2_fits 1 = .ok (.getfield 9, 3) := by decide +kernel
theorem dX2_fits_4 : decode cX2_fits 4 = .ok (.aload_n 1, 1) := by decide +kernel
theorem dX2_fits_5 : decode cX2_fits 5 = .ok (.getfield 34, 3) := by decide +kernel
theorem dX2_fits_8 : decode cX2_fits 8 = .ok (.if_icmp .lt 32, 3) := by decide +kernel
theorem dX2_fits_11 : decode cX2_fits 11 = .ok (.aload_n 0, 1) := by decide +kernel
theorem dX2_fits_12 : decode cX2_fits 12 = .ok (.getfield 9, 3) := by decide +kernel
theorem dX2_fits_15 : decode cX2_fits 15 = .ok (.aload_n 1, 1) := by decide +kernel
theorem dX2_fits_16 : decode cX2_fits 16 = .ok (.getfield 39, 3) := by decide +kernel
theorem dX2_fits_19 : decode cX2_fits 19 = .ok (.if_icmp .gt 21, 3) := by decide +kernel
theorem dX2_fits_22 : decode cX2_fits 22 = .ok (.aload_n 1, 1) := by decide +kernel
theorem dX2_fits_23 : decode cX2_fits 23 = .ok (.getfield 42, 3) := by decide +kernel
theorem dX2_fits_26 : decode cX2_fits 26 = .ok (.aload_n 0, 1) := by decide +kernel
theorem dX2_fits_27 : decode cX2_fits 27 = .ok (.getfield 15, 3) := by decide +kernel
theorem dX2_fits_30 : decode cX2_fits 30 = .ok (.invokestatic 45, 3) := by decide +kernel
theorem dX2_fits_33 : decode cX2_fits 33 = .ok (.ifCond .eq 7, 3) := by decide +kernel
theorem dX2_fits_36 : decode cX2_fits 36 = .ok (.iconst 1, 1) := by decide +kernel
theorem dX2_fits_37 : decode cX2_fits 37 = .ok (.goto 4, 3) := by decide +kernel
theorem dX2_fits_40 : decode cX2_fits 40 = .ok (.iconst 0, 1) := by decide +kernel
theorem dX2_fits_41 : decode cX2_fits 41 = .ok (.ireturn, 1) := by decide +kernel
set_option maxRecDepth 20000 in
theorem ggX2_place_X0_leafFor : GoodIn wsX2_place wsX0_leafFor := goodIn_r _ [9, 10, 11, 12, 13, 14, 15, 16, 17, 8, 18, 23, 24, 25, 26, 27, 28] (by decide +kernel) (by decide +kernel)
set_option maxRecDepth 20000 in
theorem gX2_place_X0_leafFor : GoodIn wsX2_place (wsV RX2 30 RX0 yX0_leafFor wsX0_leafFor) := goodIn_app (goodIn_of _ (by decide +kernel)) ggX2_place_X0_leafFor
theorem dX2_place_0 : decode cX2_place 0 = .ok (.bipush 10, 2) := by decide +kernel
theorem dX2_place_2 : decode cX2_place 2 = .ok (.aload_n 0, 1) := by decide +kernel
theorem dX2_place_3 : decode cX2_place 3 = .ok (.getfield 21, 3) := by decide +kernel
theorem dX2_place_6 : decode cX2_place 6 = .ok (.getfield 49, 3) := by decide +kernel
theorem dX2_place_9 : decode cX2_place 9 = .ok (.imul, 1) := by decide +kernel
theorem dX2_place_10 : decode cX2_place 10 = .ok (.aload_n 0, 1) := by decide +kernel
theorem dX2_place_11 : decode cX2_place 11 = .ok (.getfield 21, 3) := by decide +kernel
theorem dX2_place_14 : decode cX2_place 14 = .ok (.aload_n 0, 1) := by decide +kernel
theorem dX2_place_15 : decode cX2_place 15 = .ok (.getfield 9, 3) := by decide +kernel
theorem dX2_place_18 : decode cX2_place 18 = .ok (.aload_n 0, 1) := by decide +kernel
theorem dX2_place_19 : decode cX2_place 19 = .ok (.getfield 15, 3) := by decide +kernel
theorem dX2_place_22 : decode cX2_place 22 = .ok (.invokevirtual 30, 3) := by decide +kernel
theorem dX2_place_25 : decode cX2_place 25 = .ok (.iadd, 1) := by decide +kernel
theorem dX2_place_26 : decode cX2_place 26 = .ok (.ireturn, 1) := by decide +kernel
set_option maxRecDepth 20000 in
theorem ggX3_init_X0_init : GoodIn wsX3_init wsX0_init := goodIn_r _ [13, 14, 2, 3, 15, 16, 17, 18, 19, 20, 21, 22, 23, 24, 25, 26] (by decide +kernel) (by decide +kernel)
set_option maxRecDepth 20000 in
theorem gX3_init_X0_init : GoodIn wsX3_init (wsX0_init) := ggX3_init_X0_init
theorem dX3_init_0 : decode cX3_init 0 = .ok (.aload_n 0, 1) := by decide +kernel
theorem dX3_init_1 : decode cX3_init 1 = .ok (.invokespecial 1, 3) := by decide +kernel
theorem dX3_init_4 : decode cX3_init 4 = .ok (.aload_n 0, 1) := by decide +kernel
theorem dX3_init_5 : decode cX3_init 5 = .ok (.new 7, 3) := by decide +kernel
theorem dX3_init_8 : decode cX3_init 8 = .ok (.dup, 1) := by decide +kernel
theorem dX3_init_9 : decode cX3_init 9 = .ok (.iconst 0, 1) := by decide +kernel
theorem dX3_init_10 : decode cX3_init 10 = .ok (.iconst 0, 1) := by decide +kernel
theorem dX3_init_11 : decode cX3_init 11 = .ok (.iconst 0, 1) := by decide +kernel
theorem dX3_init_12 : decode cX3_init 12 = .ok (.iconst 0, 1) := by decide +kernel
theorem dX3_init_13 : decode cX3_init 13 = .ok (.iconst 0, 1) := by decide +kernel
theorem dX3_init_14 : decode cX3_init 14 = .ok (.invokespecial 11, 3) := by decide +kernel
theorem dX3_init_17 : decode cX3_init 17 = .ok (.putfield 14, 3) := by decide +kernel
theorem dX3_init_20 : decode cX3_init 20 = .ok (.aload_n 0, 1) := by decide +kernel
theorem dX3_init_21 : decode cX3_init 21 = .ok (.bipush 16, 2) := by decide +kernel
theorem dX3_init_23 : decode cX3_init 23 = .ok (.anewarray 7, 3) := by decide +kernel
theorem dX3_init_26 : decode cX3_init 26 = .ok (.putfield 18, 3) := by decide +kernel
theorem dX3_init_29 : decode cX3_init 29 = .ok (.aload_n 0, 1) := by decide +kernel
theorem dX3_init_30 : decode cX3_init 30 = .ok (.getfield 18, 3) := by decide +kernel
theorem dX3_init_33 : decode cX3_init 33 = .ok (.iconst 0, 1) := by decide +kernel
theorem dX3_init_34 : decode cX3_init 34 = .ok (.aload_n 0, 1) := by decide +kernel
theorem dX3_init_35 : decode cX3_init 35 = .ok (.getfield 14, 3) := by decide +kernel
theorem dX3_init_38 : decode cX3_init 38 = .ok (.aastore, 1) := by decide +kernel
theorem dX3_init_39 : decode cX3_init 39 = .ok (.aload_n 0, 1) := by decide +kernel
theorem dX3_init_40 : decode cX3_init 40 = .ok (.sipush 200, 3) := by decide +kernel
theorem dX3_init_43 : decode cX3_init 43 = .ok (.anewarray 22, 3) := by decide +kernel
theorem dX3_init_46 : decode cX3_init 46 = .ok (.putfield 24, 3) := by decide +kernel
theorem dX3_init_49 : decode cX3_init 49 = .ok (.return_, 1) := by decide +kernel
set_option maxRecDepth 20000 in
theorem ggX3_makePart_X3_plannedPart : GoodIn wsX3_makePart wsX3_plannedPart := goodIn_ca (goodIn_r _ [6, 7, 8, 9, 10, 11, 12, 5, 13, 14, 15, 16, 17, 18, 19, 20, 21, 22, 23, 24, 25, 26, 27, 28, 29, 30, 31, 32, 33, 34, 35, 36, 37, 38, 39, 68, 69, 70, 71, 72, 73, 74, 75, 76, 77, 78, 79] (by decide +kernel) (by decide +kernel)) (goodIn_sub (fun _ h => List.mem_cons_of_mem _ (List.mem_append_left _ (List.mem_append_right _ h))) (by decide +kernel))
set_option maxRecDepth 20000 in
theorem gX3_makePart_X3_plannedPart : GoodIn wsX3_makePart (wsV RX3 28 RX3 yX3_plannedPart wsX3_plannedPart) := goodIn_app (goodIn_of _ (by decide +kernel)) ggX3_makePart_X3_plannedPart
set_option maxRecDepth 20000 in
theorem ggX3_makePart_X3_refuseOverlap : GoodIn wsX3_makePart wsX3_refuseOverlap := goodIn_ca (goodIn_r _ [43, 44, 45, 46, 47, 48, 49, 50, 9, 51, 35, 36, 74, 75, 76, 77, 78, 79, 68, 69, 70, 71, 72, 73] (by decide +kernel) (by decide +kernel)) (goodIn_sub (fun _ h => List.mem_cons_of_mem _ (List.mem_append_right _ h)) (by decide +kernel))
set_option maxRecDepth 20000 in
theorem gX3_makePart_X3_refuseOverlap : GoodIn wsX3_makePart (wsV RX3 32 RX3 yX3_refuseOverlap wsX3_refuseOverlap) := goodIn_app (goodIn_of _ (by decide +kernel)) ggX3_makePart_X3_refuseOverlap
set_option maxRecDepth 20000 in
theorem ggX3_makePart_X3_refuseRowsOfRest : GoodIn wsX3_makePart wsX3_refuseRowsOfRest := goodIn_ca (goodIn_r _ [55, 44, 45, 56, 57, 58, 59, 60, 61, 62, 9, 63, 35, 36, 74, 75, 76, 77, 78, 79, 80, 81, 82, 83, 68, 69, 70, 71, 72, 73] (by decide +kernel) (by decide +kernel)) (goodIn_sub (fun _ h => List.mem_cons_of_mem _ (List.mem_append_right _ h)) (by decide +kernel))
set_option maxRecDepth 20000 in
theorem gX3_makePart_X3_refuseRowsOfRest : GoodIn wsX3_makePart (wsV RX3 36 RX3 yX3_refuseRowsOfRest wsX3_refuseRowsOfRest) := goodIn_app (goodIn_of _ (by decide +kernel)) ggX3_makePart_X3_refuseRowsOfRest
set_option maxRecDepth 20000 in
theorem ggX3_makePart_X3_keepPart : GoodIn wsX3_makePart wsX3_keepPart := goodIn_ca (goodIn_r _ [67, 44, 45, 1, 46, 10, 68, 69, 70, 71, 72, 73, 74, 75, 76, 77, 78, 79] (by decide +kernel) (by decide +kernel)) (goodIn_sub (fun _ h => List.mem_cons_of_mem _ (List.mem_append_right _ h)) (by decide +kernel))
set_option maxRecDepth 20000 in
theorem gX3_makePart_X3_keepPart : GoodIn wsX3_makePart (wsV RX3 39 RX3 yX3_keepPart wsX3_keepPart) := goodIn_app (goodIn_of _ (by decide +kernel)) ggX3_makePart_X3_keepPart
theorem dX3_makePart_0 : decode cX3_makePart 0 = .ok (.aload_n 0, 1) := by decide +kernel
theorem dX3_makePart_1 : decode cX3_makePart 1 = .ok (.iload_n 1, 1) := by decide +kernel
theorem dX3_makePart_2 : decode cX3_makePart 2 = .ok (.iload_n 2, 1) := by decide +kernel
theorem dX3_makePart_3 : decode cX3_makePart 3 = .ok (.iload_n 3, 1) := by decide +kernel
theorem dX3_makePart_4 : decode cX3_makePart 4 = .ok (.iload 4, 2) := by decide +kernel
theorem dX3_makePart_6 : decode cX3_makePart 6 = .ok (.invokevirtual 28, 3) := by decide +kernel
theorem dX3_makePart_9 : decode cX3_makePart 9 = .ok (.astore 5, 2) := by decide +kernel
theorem dX3_makePart_11 : decode cX3_makePart 11 = .ok (.aload_n 0, 1) := by decide +kernel
theorem dX3_makePart_12 : decode cX3_makePart 12 = .ok (.aload 5, 2) := by decide +kernel
theorem dX3_makePart_14 : decode cX3_makePart 14 = .ok (.invokevirtual 32, 3) := by decide +kernel
theorem dX3_makePart_17 : decode cX3_makePart 17 = .ok (.aload_n 0, 1) := by decide +kernel
theorem dX3_makePart_18 : decode cX3_makePart 18 = .ok (.aload 5, 2) := by decide +kernel
theorem dX3_makePart_20 : decode cX3_makePart 20 = .ok (.invokevirtual 36, 3) := by decide +kernel
theorem dX3_makePart_23 : decode cX3_makePart 23 = .ok (.aload_n 0, 1) := by decide +kernel
theorem dX3_makePart_24 : decode cX3_makePart 24 = .ok (.aload 5, 2) := by decide +kernel
theorem dX3_makePart_26 : decode cX3_makePart 26 = .ok (.invokevirtual 39, 3) := by decide +kernel
theorem dX3_makePart_29 : decode cX3_makePart 29 = .ok (.aload 5, 2) := by decide +kernel
theorem dX3_makePart_31 : decode cX3_makePart 31 = .ok (.getfield 42, 3) := by decide +kernel
theorem dX3_makePart_34 : decode cX3_makePart 34 = .ok (.ireturn, 1) := by decide +kernel
set_option maxRecDepth 20000 in
theorem ggX3_carveOut_X3_plannedPart : GoodIn wsX3_carveOut wsX3_plannedPart := goodIn_ca (goodIn_r _ [6, 7, 8, 9, 10, 11, 12, 5, 13, 14, 15, 16, 17, 18, 19, 20, 21, 22, 23, 24, 25, 26, 27, 28, 29, 30, 31, 32, 33, 34, 35, 36, 37, 38, 39, 78, 79, 80, 81, 82, 83, 72, 73, 74, 75, 76, 77] (by decide +kernel) (by decide +kernel)) (goodIn_sub (fun _ h => List.mem_cons_of_mem _ (List.mem_append_left _ (List.mem_append_right _ h))) (by decide +kernel))
set_option maxRecDepth 20000 in
theorem gX3_carveOut_X3_plannedPart : GoodIn wsX3_carveOut (wsV RX3 28 RX3 yX3_plannedPart wsX3_plannedPart) := goodIn_app (goodIn_of _ (by decide +kernel)) ggX3_carveOut_X3_plannedPart
set_option maxRecDepth 20000 in
theorem ggX3_carveOut_X3_refuseOverlap : GoodIn wsX3_carveOut wsX3_refuseOverlap := goodIn_ca (goodIn_r _ [43, 44, 45, 46, 47, 48, 49, 50, 9, 51, 35, 36, 72, 73, 74, 75, 76, 77, 78, 79, 80, 81, 82, 83] (by decide +kernel) (by decide +kernel)) (goodIn_sub (fun _ h => List.mem_cons_of_mem _ (List.mem_append_right _ h)) (by decide +kernel))
set_option maxRecDepth 20000 in
theorem gX3_carveOut_X3_refuseOverlap : GoodIn wsX3_carveOut (wsV RX3 32 RX3 yX3_refuseOverlap wsX3_refuseOverlap) := goodIn_app (goodIn_of _ (by decide +kernel)) ggX3_carveOut_X3_refuseOverlap
set_option maxRecDepth 20000 in
theorem ggX3_carveOut_X3_keepPart : GoodIn wsX3_carveOut wsX3_keepPart := goodIn_ca (goodIn_r _ [55, 44, 45, 56, 46, 10, 78, 79, 80, 81, 82, 83, 72, 73, 74, 75, 76, 77] (by decide +kernel) (by decide +kernel)) (goodIn_sub (fun _ h => List.mem_cons_of_mem _ (List.mem_append_right _ h)) (by decide +kernel))
set_option maxRecDepth 20000 in
theorem gX3_carveOut_X3_keepPart : GoodIn wsX3_carveOut (wsV RX3 39 RX3 yX3_keepPart wsX3_keepPart) := goodIn_app (goodIn_of _ (by decide +kernel)) ggX3_carveOut_X3_keepPart
set_option maxRecDepth 20000 in
theorem ggX3_carveOut_X3_moveRows : GoodIn wsX3_carveOut wsX3_moveRows := goodIn_r _ [60, 61, 62, 63, 64, 65, 66, 9, 67, 35, 36, 72, 73, 74, 75, 76, 77, 84, 85, 86, 87, 78, 79, 80, 81, 82, 83] (by decide +kernel) (by decide +kernel)
set_option maxRecDepth 20000 in
theorem gX3_carveOut_X3_moveRows : GoodIn wsX3_carveOut (wsV RX3 46 RX3 yX3_moveRows wsX3_moveRows) := goodIn_app (goodIn_of _ (by decide +kernel)) ggX3_carveOut_X3_moveRows
set_option maxRecDepth 20000 in
theorem ggX3_carveOut_X3_rowsOf : GoodIn wsX3_carveOut wsX3_rowsOf := goodIn_r _ [71, 61, 62, 72, 73, 74, 75, 76, 77, 84, 85, 86, 87] (by decide +kernel) (by decide +kernel)
set_option maxRecDepth 20000 in
theorem gX3_carveOut_X3_rowsOf : GoodIn wsX3_carveOut (wsV RX3 50 RX3 yX3_rowsOf wsX3_rowsOf) := goodIn_app (goodIn_of _ (by decide +kernel)) ggX3_carveOut_X3_rowsOf
theorem dX3_carveOut_0 : decode cX3_carveOut 0 = .ok (.aload_n 0, 1) := by decide +kernel
theorem dX3_carveOut_1 : decode cX3_carveOut 1 = .ok (.iload_n 1, 1) := by decide +kernel
theorem dX3_carveOut_2 : decode cX3_carveOut 2 = .ok (.iload_n 2, 1) := by decide +kernel
theorem dX3_carveOut_3 : decode cX3_carveOut 3 = .ok (.iload_n 3, 1) := by decide +kernel
theorem dX3_carveOut_4 : decode cX3_carveOut 4 = .ok (.iload 4, 2) := by decide +kernel
theorem dX3_carveOut_6 : decode cX3_carveOut 6 = .ok (.invokevirtual 28, 3) := by decide +kernel
theorem dX3_carveOut_9 : decode cX3_carveOut 9 = .ok (.astore 5, 2) := by decide +kernel
theorem dX3_carveOut_11 : decode cX3_carveOut 11 = .ok (.aload_n 0, 1) := by decide +kernel
theorem dX3_carveOut_12 : decode cX3_carveOut 12 = .ok (.aload 5, 2) := by decide +kernel
theorem dX3_carveOut_14 : decode cX3_carveOut 14 = .ok (.invokevirtual 32, 3) := by decide +kernel
theorem dX3_carveOut_17 : decode cX3_carveOut 17 = .ok (.aload_n 0, 1) := by decide +kernel
theorem dX3_carveOut_18 : decode cX3_carveOut 18 = .ok (.aload 5, 2) := by decide +kernel
theorem dX3_carveOut_20 : decode cX3_carveOut 20 = .ok (.invokevirtual 39, 3) := by decide +kernel
theorem dX3_carveOut_23 : decode cX3_carveOut 23 = .ok (.aload_n 0, 1) := by decide +kernel
theorem dX3_carveOut_24 : decode cX3_carveOut 24 = .ok (.aload_n 0, 1) := by decide +kernel
theorem dX3_carveOut_25 : decode cX3_carveOut 25 = .ok (.getfield 14, 3) := by decide +kernel
theorem dX3_carveOut_28 : decode cX3_carveOut 28 = .ok (.aload 5, 2) := by decide +kernel
theorem dX3_carveOut_30 : decode cX3_carveOut 30 = .ok (.invokevirtual 46, 3) := by decide +kernel
theorem dX3_carveOut_33 : decode cX3_carveOut 33 = .ok (.aload_n 0, 1) := by decide +kernel
theorem dX3_carveOut_34 : decode cX3_carveOut 34 = .ok (.aload 5, 2) := by decide +kernel
theorem dX3_carveOut_36 : decode cX3_carveOut 36 = .ok (.invokevirtual 50, 3) := by decide +kernel
theorem dX3_carveOut_39 : decode cX3_carveOut 39 = .ok (.ireturn, 1) := by decide +kernel
set_option maxRecDepth 20000 in
theorem ggX3_split_X3_livingPartWithRange : GoodIn wsX3_split wsX3_livingPartWithRange := goodIn_ca (goodIn_r _ [12, 13, 14, 15, 16, 17, 18, 11, 19, 20, 21, 22, 23, 24, 25, 87, 88, 89, 90, 91, 92, 81, 82, 83, 84, 85, 86] (by decide +kernel) (by decide +kernel)) (goodIn_sub (fun _ h => List.mem_cons_of_mem _ (List.mem_append_left _ (List.mem_append_right _ h))) (by decide +kernel))
set_option maxRecDepth 20000 in
theorem gX3_split_X3_livingPartWithRange : GoodIn wsX3_split (wsV RX3 54 RX3 yX3_livingPartWithRange wsX3_livingPartWithRange) := goodIn_app (goodIn_of _ (by decide +kernel)) ggX3_split_X3_livingPartWithRange
set_option maxRecDepth 20000 in
theorem ggX3_split_X3_refuseUnlessAttached : GoodIn wsX3_split wsX3_refuseUnlessAttached := goodIn_ca (goodIn_r _ [28, 29, 30, 20, 81, 82, 83, 84, 85, 86] (by decide +kernel) (by decide +kernel)) (goodIn_sub (fun _ h => List.mem_cons_of_mem _ (List.mem_append_right _ h)) (by decide +kernel))
set_option maxRecDepth 20000 in
theorem gX3_split_X3_refuseUnlessAttached : GoodIn wsX3_split (va_wsS RX3 71 yX3_refuseUnlessAttached wsX3_refuseUnlessAttached) := goodIn_app (goodIn_of _ (by decide +kernel)) ggX3_split_X3_refuseUnlessAttached
set_option maxRecDepth 20000 in
theorem ggX3_split_X3_plannedPart : GoodIn wsX3_split wsX3_plannedPart := goodIn_ca (goodIn_r _ [34, 35, 36, 37, 38, 39, 40, 11, 41, 1, 2, 42, 43, 44, 45, 46, 47, 48, 49, 50, 51, 52, 53, 54, 55, 56, 57, 58, 59, 60, 61, 62, 63, 64, 65, 81, 82, 83, 84, 85, 86, 87, 88, 89, 90, 91, 92] (by decide +kernel) (by decide +kernel)) (goodIn_sub (fun _ h => List.mem_cons_of_mem _ (List.mem_append_left _ (List.mem_append_left _ (List.mem_append_right _ h)))) (by decide +kernel))
set_option maxRecDepth 20000 in
theorem gX3_split_X3_plannedPart : GoodIn wsX3_split (wsV RX3 28 RX3 yX3_plannedPart wsX3_plannedPart) := goodIn_app (goodIn_of _ (by decide +kernel)) ggX3_split_X3_plannedPart
set_option maxRecDepth 20000 in
theorem ggX3_split_X3_keepPart : GoodIn wsX3_split wsX3_keepPart := goodIn_ca (goodIn_r _ [69, 29, 30, 7, 25, 38, 81, 82, 83, 84, 85, 86, 87, 88, 89, 90, 91, 92] (by decide +kernel) (by decide +kernel)) (goodIn_sub (fun _ h => List.mem_cons_of_mem _ (List.mem_append_right _ h)) (by decide +kernel))
set_option maxRecDepth 20000 in
theorem gX3_split_X3_keepPart : GoodIn wsX3_split (wsV RX3 39 RX3 yX3_keepPart wsX3_keepPart) := goodIn_app (goodIn_of _ (by decide +kernel)) ggX3_split_X3_keepPart
set_option maxRecDepth 20000 in
theorem ggX3_split_X3_moveRows : GoodIn wsX3_split wsX3_moveRows := goodIn_r _ [73, 74, 75, 76, 77, 78, 79, 37, 80, 61, 62, 87, 88, 89, 90, 91, 92, 93, 94, 95, 96, 81, 82, 83, 84, 85, 86] (by decide +kernel) (by decide +kernel)
set_option maxRecDepth 20000 in
theorem gX3_split_X3_moveRows : GoodIn wsX3_split (wsV RX3 46 RX3 yX3_moveRows wsX3_moveRows) := goodIn_app (goodIn_of _ (by decide +kernel)) ggX3_split_X3_moveRows
theorem dX3_split_0 : decode cX3_split 0 = .ok (.aload_n 0, 1) := by decide +kernel
theorem dX3_split_1 : decode cX3_split 1 = .ok (.iload_n 1, 1) := by decide +kernel
theorem dX3_split_2 : decode cX3_split 2 = .ok (.invokevirtual 54, 3) := by decide +kernel
theorem dX3_split_5 : decode cX3_split 5 = .ok (.astore_n 3, 1) := by decide +kernel
theorem dX3_split_6 : decode cX3_split 6 = .ok (.iload_n 2, 1) := by decide +kernel
theorem dX3_split_7 : decode cX3_split 7 = .ok (.aload_n 3, 1) := by decide +kernel
theorem dX3_split_8 : decode cX3_split 8 = .ok (.getfield 58, 3) := by decide +kernel
theorem dX3_split_11 : decode cX3_split 11 = .ok (.if_icmp .le 11, 3) := by decide +kernel
theorem dX3_split_14 : decode cX3_split 14 = .ok (.iload_n 2, 1) := by decide +kernel
theorem dX3_split_15 : decode cX3_split 15 = .ok (.aload_n 3, 1) := by decide +kernel
theorem dX3_split_16 : decode cX3_split 16 = .ok (.getfield 61, 3) := by decide +kernel
theorem dX3_split_19 : decode cX3_split 19 = .ok (.if_icmp .lt 13, 3) := by decide +kernel
theorem dX3_split_22 : decode cX3_split 22 = .ok (.new 64, 3) := by decide +kernel
theorem dX3_split_25 : decode cX3_split 25 = .ok (.dup, 1) := by decide +kernel
theorem dX3_split_26 : decode cX3_split 26 = .ok (.ldc 66, 2) := by decide +kernel
theorem dX3_split_28 : decode cX3_split 28 = .ok (.invokespecial 68, 3) := by decide +kernel
theorem dX3_split_31 : decode cX3_split 31 = .ok (.athrow, 1) := by decide +kernel
theorem dX3_split_32 : decode cX3_split 32 = .ok (.aload_n 3, 1) := by decide +kernel
theorem dX3_split_33 : decode cX3_split 33 = .ok (.invokestatic 71, 3) := by decide +kernel
theorem dX3_split_36 : decode cX3_split 36 = .ok (.aload_n 0, 1) := by decide +kernel
theorem dX3_split_37 : decode cX3_split 37 = .ok (.iload_n 2, 1) := by decide +kernel
theorem dX3_split_38 : decode cX3_split 38 = .ok (.aload_n 3, 1) := by decide +kernel
theorem dX3_split_39 : decode cX3_split 39 = .ok (.getfield 61, 3) := by decide +kernel
theorem dX3_split_42 : decode cX3_split 42 = .ok (.aload_n 3, 1) := by decide +kernel
theorem dX3_split_43 : decode cX3_split 43 = .ok (.getfield 74, 3) := by decide +kernel
theorem dX3_split_46 : decode cX3_split 46 = .ok (.aload_n 3, 1) := by decide +kernel
theorem dX3_split_47 : decode cX3_split 47 = .ok (.getfield 77, 3) := by decide +kernel
theorem dX3_split_50 : decode cX3_split 50 = .ok (.invokevirtual 28, 3) := by decide +kernel
theorem dX3_split_53 : decode cX3_split 53 = .ok (.astore 4, 2) := by decide +kernel
theorem dX3_split_55 : decode cX3_split 55 = .ok (.aload_n 0, 1) := by decide +kernel
theorem dX3_split_56 : decode cX3_split 56 = .ok (.aload 4, 2) := by decide +kernel
theorem dX3_split_58 : decode cX3_split 58 = .ok (.invokevirtual 39, 3) := by decide +kernel
theorem dX3_split_61 : decode cX3_split 61 = .ok (.aload_n 3, 1) := by decide +kernel
theorem dX3_split_62 : decode cX3_split 62 = .ok (.iload_n 2, 1) := by decide +kernel
theorem dX3_split_63 : decode cX3_split 63 = .ok (.putfield 61, 3) := by decide +kernel
theorem dX3_split_66 : decode cX3_split 66 = .ok (.aload_n 0, 1) := by decide +kernel
theorem dX3_split_67 : decode cX3_split 67 = .ok (.aload_n 3, 1) := by decide +kernel
theorem dX3_split_68 : decode cX3_split 68 = .ok (.aload 4, 2) := by decide +kernel
theorem dX3_split_70 : decode cX3_split 70 = .ok (.invokevirtual 46, 3) := by decide +kernel
theorem dX3_split_73 : decode cX3_split 73 = .ok (.aload 4, 2) := by decide +kernel
theorem dX3_split_75 : decode cX3_split 75 = .ok (.getfield 42, 3) := by decide +kernel
theorem dX3_split_78 : decode cX3_split 78 = .ok (.ireturn, 1) := by decide +kernel
set_option maxRecDepth 20000 in
theorem ggX3_merge_X3_livingPartWithRange : GoodIn wsX3_merge wsX3_livingPartWithRange := goodIn_ca (goodIn_r _ [12, 13, 14, 15, 16, 17, 18, 11, 19, 7, 20, 21, 22, 23, 24, 52, 53, 54, 55, 56, 57, 46, 47, 48, 49, 50, 51] (by decide +kernel) (by decide +kernel)) (goodIn_sub (fun _ h => List.mem_cons_of_mem _ (List.mem_append_right _ h)) (by decide +kernel))
set_option maxRecDepth 20000 in
theorem gX3_merge_X3_livingPartWithRange : GoodIn wsX3_merge (wsV RX3 54 RX3 yX3_livingPartWithRange wsX3_livingPartWithRange) := goodIn_app (goodIn_of _ (by decide +kernel)) ggX3_merge_X3_livingPartWithRange
set_option maxRecDepth 20000 in
theorem ggX3_merge_X3_refuseUnlessAttached : GoodIn wsX3_merge wsX3_refuseUnlessAttached := goodIn_ca (goodIn_r _ [27, 1, 2, 7, 46, 47, 48, 49, 50, 51] (by decide +kernel) (by decide +kernel)) (goodIn_sub (fun _ h => List.mem_cons_of_mem _ (List.mem_append_left _ (List.mem_append_right _ h))) (by decide +kernel))
set_option maxRecDepth 20000 in
theorem gX3_merge_X3_refuseUnlessAttached : GoodIn wsX3_merge (va_wsS RX3 71 yX3_refuseUnlessAttached wsX3_refuseUnlessAttached) := goodIn_app (goodIn_of _ (by decide +kernel)) ggX3_merge_X3_refuseUnlessAttached
set_option maxRecDepth 20000 in
theorem ggX3_merge_X3_moveRows : GoodIn wsX3_merge wsX3_moveRows := goodIn_r _ [31, 32, 33, 34, 35, 36, 37, 38, 39, 40, 41, 52, 53, 54, 55, 56, 57, 58, 59, 60, 61, 46, 47, 48, 49, 50, 51] (by decide +kernel) (by decide +kernel)
set_option maxRecDepth 20000 in
theorem gX3_merge_X3_moveRows : GoodIn wsX3_merge (wsV RX3 46 RX3 yX3_moveRows wsX3_moveRows) := goodIn_app (goodIn_of _ (by decide +kernel)) ggX3_merge_X3_moveRows
set_option maxRecDepth 20000 in
theorem ggX3_merge_X3_rowsOf : GoodIn wsX3_merge wsX3_rowsOf := goodIn_r _ [45, 32, 33, 52, 53, 54, 55, 56, 57, 58, 59, 60, 61] (by decide +kernel) (by decide +kernel)
set_option maxRecDepth 20000 in
theorem gX3_merge_X3_rowsOf : GoodIn wsX3_merge (wsV RX3 50 RX3 yX3_rowsOf wsX3_rowsOf) := goodIn_app (goodIn_of _ (by decide +kernel)) ggX3_merge_X3_rowsOf
theorem dX3_merge_0 : decode cX3_merge 0 = .ok (.aload_n 0, 1) := by decide +kernel
theorem dX3_merge_1 : decode cX3_merge 1 = .ok (.iload_n 1, 1) := by decide +kernel
theorem dX3_merge_2 : decode cX3_merge 2 = .ok (.invokevirtual 54, 3) := by decide +kernel
theorem dX3_merge_5 : decode cX3_merge 5 = .ok (.astore_n 3, 1) := by decide +kernel
theorem dX3_merge_6 : decode cX3_merge 6 = .ok (.aload_n 0, 1) := by decide +kernel
theorem dX3_merge_7 : decode cX3_merge 7 = .ok (.iload_n 2, 1) := by decide +kernel
theorem dX3_merge_8 : decode cX3_merge 8 = .ok (.invokevirtual 54, 3) := by decide +kernel
theorem dX3_merge_11 : decode cX3_merge 11 = .ok (.astore 4, 2) := by decide +kernel
theorem dX3_merge_13 : decode cX3_merge 13 = .ok (.aload_n 3, 1) := by decide +kernel
theorem dX3_merge_14 : decode cX3_merge 14 = .ok (.invokestatic 71, 3) := by decide +kernel
theorem dX3_merge_17 : decode cX3_merge 17 = .ok (.aload 4, 2) := by decide +kernel
theorem dX3_merge_19 : decode cX3_merge 19 = .ok (.invokestatic 71, 3) := by decide +kernel
theorem dX3_merge_22 : decode cX3_merge 22 = .ok (.aload 4, 2) := by decide +kernel
theorem dX3_merge_24 : decode cX3_merge 24 = .ok (.getfield 58, 3) := by decide +kernel
theorem dX3_merge_27 : decode cX3_merge 27 = .ok (.aload_n 3, 1) := by decide +kernel
theorem dX3_merge_28 : decode cX3_merge 28 = .ok (.getfield 61, 3) := by decide +kernel
theorem dX3_merge_31 : decode cX3_merge 31 = .ok (.if_icmp .eq 13, 3) := by decide +kernel
theorem dX3_merge_34 : decode cX3_merge 34 = .ok (.new 80, 3) := by decide +kernel
theorem dX3_merge_37 : decode cX3_merge 37 = .ok (.dup, 1) := by decide +kernel
theorem dX3_merge_38 : decode cX3_merge 38 = .ok (.ldc 82, 2) := by decide +kernel
theorem dX3_merge_40 : decode cX3_merge 40 = .ok (.invokespecial 84, 3) := by decide +kernel
theorem dX3_merge_43 : decode cX3_merge 43 = .ok (.athrow, 1) := by decide +kernel
theorem dX3_merge_44 : decode cX3_merge 44 = .ok (.aload 4, 2) := by decide +kernel
theorem dX3_merge_46 : decode cX3_merge 46 = .ok (.getfield 74, 3) := by decide +kernel
theorem dX3_merge_49 : decode cX3_merge 49 = .ok (.aload_n 3, 1) := by decide +kernel
theorem dX3_merge_50 : decode cX3_merge 50 = .ok (.getfield 74, 3) := by decide +kernel
theorem dX3_merge_53 : decode cX3_merge 53 = .ok (.if_icmp .ne 15, 3) := by decide +kernel
theorem dX3_merge_56 : decode cX3_merge 56 = .ok (.aload 4, 2) := by decide +kernel
theorem dX3_merge_58 : decode cX3_merge 58 = .ok (.getfield 77, 3) := by decide +kernel
theorem dX3_merge_61 : decode cX3_merge 61 = .ok (.aload_n 3, 1) := by decide +kernel
theorem dX3_merge_62 : decode cX3_merge 62 = .ok (.getfield 77, 3) := by decide +kernel
theorem dX3_merge_65 : decode cX3_merge 65 = .ok (.if_icmp .eq 13, 3) := by decide +kernel
theorem dX3_merge_68 : decode cX3_merge 68 = .ok (.new 80, 3) := by decide +kernel
theorem dX3_merge_71 : decode cX3_merge 71 = .ok (.dup, 1) := by decide +kernel
theorem dX3_merge_72 : decode cX3_merge 72 = .ok (.ldc 85, 2) := by decide +kernel
theorem dX3_merge_74 : decode cX3_merge 74 = .ok (.invokespecial 84, 3) := by decide +kernel
theorem dX3_merge_77 : decode cX3_merge 77 = .ok (.athrow, 1) := by decide +kernel
theorem dX3_merge_78 : decode cX3_merge 78 = .ok (.aload_n 3, 1) := by decide +kernel
theorem dX3_merge_79 : decode cX3_merge 79 = .ok (.aload 4, 2) := by decide +kernel
theorem dX3_merge_81 : decode cX3_merge 81 = .ok (.getfield 61, 3) := by decide +kernel
theorem dX3_merge_84 : decode cX3_merge 84 = .ok (.putfield 61, 3) := by decide +kernel
theorem dX3_merge_87 : decode cX3_merge 87 = .ok (.aload_n 0, 1) := by decide +kernel
theorem dX3_merge_88 : decode cX3_merge 88 = .ok (.aload 4, 2) := by decide +kernel
theorem dX3_merge_90 : decode cX3_merge 90 = .ok (.aload_n 3, 1) := by decide +kernel
theorem dX3_merge_91 : decode cX3_merge 91 = .ok (.invokevirtual 46, 3) := by decide +kernel
theorem dX3_merge_94 : decode cX3_merge 94 = .ok (.aload 4, 2) := by decide +kernel
theorem dX3_merge_96 : decode cX3_merge 96 = .ok (.iconst 2, 1) := by decide +kernel
theorem dX3_merge_97 : decode cX3_merge 97 = .ok (.putfield 87, 3) := by decide +kernel
theorem dX3_merge_100 : decode cX3_merge 100 = .ok (.aload_n 0, 1) := by decide +kernel
theorem dX3_merge_101 : decode cX3_merge 101 = .ok (.aload_n 3, 1) := by decide +kernel
theorem dX3_merge_102 : decode cX3_merge 102 = .ok (.invokevirtual 50, 3) := by decide +kernel
theorem dX3_merge_105 : decode cX3_merge 105 = .ok (.ireturn, 1) := by decide +kernel
set_option maxRecDepth 20000 in
theorem ggX3_detach_X3_livingPartWithRange : GoodIn wsX3_detach wsX3_livingPartWithRange := goodIn_ca (goodIn_r _ [7, 8, 9, 10, 11, 12, 13, 6, 14, 1, 15, 16, 17, 18, 19, 37, 38, 39, 40, 41, 42, 31, 32, 33, 34, 35, 36] (by decide +kernel) (by decide +kernel)) (goodIn_sub (fun _ h => List.mem_cons_of_mem _ (List.mem_append_left _ (List.mem_append_right _ h))) (by decide +kernel))
set_option maxRecDepth 20000 in
theorem gX3_detach_X3_livingPartWithRange : GoodIn wsX3_detach (wsV RX3 54 RX3 yX3_livingPartWithRange wsX3_livingPartWithRange) := goodIn_app (goodIn_of _ (by decide +kernel)) ggX3_detach_X3_livingPartWithRange
set_option maxRecDepth 20000 in
theorem ggX3_detach_X3_refuseUnlessAttached : GoodIn wsX3_detach wsX3_refuseUnlessAttached := goodIn_ca (goodIn_r _ [22, 23, 24, 1, 31, 32, 33, 34, 35, 36] (by decide +kernel) (by decide +kernel)) (goodIn_sub (fun _ h => List.mem_cons_of_mem _ (List.mem_append_right _ h)) (by decide +kernel))
set_option maxRecDepth 20000 in
theorem gX3_detach_X3_refuseUnlessAttached : GoodIn wsX3_detach (va_wsS RX3 71 yX3_refuseUnlessAttached wsX3_refuseUnlessAttached) := goodIn_app (goodIn_of _ (by decide +kernel)) ggX3_detach_X3_refuseUnlessAttached
set_option maxRecDepth 20000 in
theorem ggX3_detach_X3_rowsOf : GoodIn wsX3_detach wsX3_rowsOf := goodIn_r _ [28, 29, 30, 37, 38, 39, 40, 41, 42, 43, 44, 45, 46] (by decide +kernel) (by decide +kernel)
set_option maxRecDepth 20000 in
theorem gX3_detach_X3_rowsOf : GoodIn wsX3_detach (wsV RX3 50 RX3 yX3_rowsOf wsX3_rowsOf) := goodIn_app (goodIn_of _ (by decide +kernel)) ggX3_detach_X3_rowsOf
theorem dX3_detach_0 : decode cX3_detach 0 = .ok (.aload_n 0, 1) := by decide +kernel
theorem dX3_detach_1 : decode cX3_detach 1 = .ok (.iload_n 1, 1) := by decide +kernel
theorem dX3_detach_2 : decode cX3_detach 2 = .ok (.invokevirtual 54, 3) := by decide +kernel
theorem dX3_detach_5 : decode cX3_detach 5 = .ok (.astore_n 2, 1) := by decide +kernel
theorem dX3_detach_6 : decode cX3_detach 6 = .ok (.aload_n 2, 1) := by decide +kernel
theorem dX3_detach_7 : decode cX3_detach 7 = .ok (.invokestatic 71, 3) := by decide +kernel
theorem dX3_detach_10 : decode cX3_detach 10 = .ok (.aload_n 2, 1) := by decide +kernel
theorem dX3_detach_11 : decode cX3_detach 11 = .ok (.iconst 1, 1) := by decide +kernel
theorem dX3_detach_12 : decode cX3_detach 12 = .ok (.putfield 87, 3) := by decide +kernel
theorem dX3_detach_15 : decode cX3_detach 15 = .ok (.aload_n 0, 1) := by decide +kernel
theorem dX3_detach_16 : decode cX3_detach 16 = .ok (.iconst 1, 1) := by decide +kernel
theorem dX3_detach_17 : decode cX3_detach 17 = .ok (.putfield 90, 3) := by decide +kernel
theorem dX3_detach_20 : decode cX3_detach 20 = .ok (.aload_n 0, 1) := by decide +kernel
theorem dX3_detach_21 : decode cX3_detach 21 = .ok (.aload_n 2, 1) := by decide +kernel
theorem dX3_detach_22 : decode cX3_detach 22 = .ok (.invokevirtual 50, 3) := by decide +kernel
theorem dX3_detach_25 : decode cX3_detach 25 = .ok (.ireturn, 1) := by decide +kernel
set_option maxRecDepth 20000 in
theorem ggX3_attach_X3_livingPartWithRange : GoodIn wsX3_attach wsX3_livingPartWithRange := goodIn_ca (goodIn_r _ [7, 8, 9, 10, 11, 12, 13, 6, 14, 1, 15, 16, 17, 18, 19, 57, 58, 59, 60, 61, 62, 51, 52, 53, 54, 55, 56] (by decide +kernel) (by decide +kernel)) (goodIn_sub (fun _ h => List.mem_cons_of_mem _ (List.mem_append_left _ (List.mem_append_right _ h))) (by decide +kernel))
set_option maxRecDepth 20000 in
theorem gX3_attach_X3_livingPartWithRange : GoodIn wsX3_attach (wsV RX3 54 RX3 yX3_livingPartWithRange wsX3_livingPartWithRange) := goodIn_app (goodIn_of _ (by decide +kernel)) ggX3_attach_X3_livingPartWithRange
set_option maxRecDepth 20000 in
theorem ggX3_attach_X3_refuseUnlessDetached : GoodIn wsX3_attach wsX3_refuseUnlessDetached := goodIn_ca (goodIn_r _ [22, 23, 24, 1, 51, 52, 53, 54, 55, 56] (by decide +kernel) (by decide +kernel)) (goodIn_sub (fun _ h => List.mem_cons_of_mem _ (List.mem_append_right _ h)) (by decide +kernel))
set_option maxRecDepth 20000 in
theorem gX3_attach_X3_refuseUnlessDetached : GoodIn wsX3_attach (va_wsS RX3 94 yX3_refuseUnlessDetached wsX3_refuseUnlessDetached) := goodIn_app (goodIn_of _ (by decide +kernel)) ggX3_attach_X3_refuseUnlessDetached
set_option maxRecDepth 20000 in
theorem ggX3_attach_X3_refuseOverlap : GoodIn wsX3_attach wsX3_refuseOverlap := goodIn_ca (goodIn_r _ [28, 23, 24, 19, 1, 29, 30, 31, 32, 33, 34, 35, 57, 58, 59, 60, 61, 62, 51, 52, 53, 54, 55, 56] (by decide +kernel) (by decide +kernel)) (goodIn_sub (fun _ h => List.mem_cons_of_mem _ (List.mem_append_right _ h)) (by decide +kernel))
set_option maxRecDepth 20000 in
theorem gX3_attach_X3_refuseOverlap : GoodIn wsX3_attach (wsV RX3 32 RX3 yX3_refuseOverlap wsX3_refuseOverlap) := goodIn_app (goodIn_of _ (by decide +kernel)) ggX3_attach_X3_refuseOverlap
set_option maxRecDepth 20000 in
theorem ggX3_attach_X3_refuseRowsOfRest : GoodIn wsX3_attach wsX3_refuseRowsOfRest := goodIn_ca (goodIn_r _ [39, 23, 24, 40, 41, 10, 42, 43, 44, 45, 32, 46, 34, 35, 57, 58, 59, 60, 61, 62, 63, 64, 65, 66, 51, 52, 53, 54, 55, 56] (by decide +kernel) (by decide +kernel)) (goodIn_sub (fun _ h => List.mem_cons_of_mem _ (List.mem_append_right _ h)) (by decide +kernel))
set_option maxRecDepth 20000 in
theorem gX3_attach_X3_refuseRowsOfRest : GoodIn wsX3_attach (wsV RX3 36 RX3 yX3_refuseRowsOfRest wsX3_refuseRowsOfRest) := goodIn_app (goodIn_of _ (by decide +kernel)) ggX3_attach_X3_refuseRowsOfRest
set_option maxRecDepth 20000 in
theorem ggX3_attach_X3_rowsOf : GoodIn wsX3_attach wsX3_rowsOf := goodIn_r _ [50, 40, 41, 57, 58, 59, 60, 61, 62, 63, 64, 65, 66] (by decide +kernel) (by decide +kernel)
set_option maxRecDepth 20000 in
theorem gX3_attach_X3_rowsOf : GoodIn wsX3_attach (wsV RX3 50 RX3 yX3_rowsOf wsX3_rowsOf) := goodIn_app (goodIn_of _ (by decide +kernel)) ggX3_attach_X3_rowsOf
theorem dX3_attach_0 : decode cX3_attach 0 = .ok (.aload_n 0, 1) := by decide +kernel
theorem dX3_attach_1 : decode cX3_attach 1 = .ok (.iload_n 1, 1) := by decide +kernel
theorem dX3_attach_2 : decode cX3_attach 2 = .ok (.invokevirtual 54, 3) := by decide +kernel
theorem dX3_attach_5 : decode cX3_attach 5 = .ok (.astore_n 2, 1) := by decide +kernel
theorem dX3_attach_6 : decode cX3_attach 6 = .ok (.aload_n 2, 1) := by decide +kernel
theorem dX3_attach_7 : decode cX3_attach 7 = .ok (.invokestatic 94, 3) := by decide +kernel
theorem dX3_attach_10 : decode cX3_attach 10 = .ok (.aload_n 0, 1) := by decide +kernel
theorem dX3_attach_11 : decode cX3_attach 11 = .ok (.aload_n 2, 1) := by decide +kernel
theorem dX3_attach_12 : decode cX3_attach 12 = .ok (.invokevirtual 32, 3) := by decide +kernel
theorem dX3_attach_15 : decode cX3_attach 15 = .ok (.aload_n 0, 1) := by decide +kernel
theorem dX3_attach_16 : decode cX3_attach 16 = .ok (.aload_n 2, 1) := by decide +kernel
theorem dX3_attach_17 : decode cX3_attach 17 = .ok (.invokevirtual 36, 3) := by decide +kernel
theorem dX3_attach_20 : decode cX3_attach 20 = .ok (.aload_n 2, 1) := by decide +kernel
theorem dX3_attach_21 : decode cX3_attach 21 = .ok (.iconst 0, 1) := by decide +kernel
theorem dX3_attach_22 : decode cX3_attach 22 = .ok (.putfield 87, 3) := by decide +kernel
theorem dX3_attach_25 : decode cX3_attach 25 = .ok (.aload_n 0, 1) := by decide +kernel
theorem dX3_attach_26 : decode cX3_attach 26 = .ok (.iconst 1, 1) := by decide +kernel
theorem dX3_attach_27 : decode cX3_attach 27 = .ok (.putfield 90, 3) := by decide +kernel
theorem dX3_attach_30 : decode cX3_attach 30 = .ok (.aload_n 0, 1) := by decide +kernel
theorem dX3_attach_31 : decode cX3_attach 31 = .ok (.aload_n 2, 1) := by decide +kernel
theorem dX3_attach_32 : decode cX3_attach 32 = .ok (.invokevirtual 50, 3) := by decide +kernel
theorem dX3_attach_35 : decode cX3_attach 35 = .ok (.ireturn, 1) := by decide +kernel
set_option maxRecDepth 20000 in
theorem ggX3_exchange_X3_livingPartWithRange : GoodIn wsX3_exchange wsX3_livingPartWithRange := goodIn_ca (goodIn_r _ [6, 7, 8, 9, 10, 11, 12, 5, 13, 14, 15, 16, 17, 18, 19, 50, 51, 52, 53, 54, 55, 56, 57, 58, 59, 60, 61] (by decide +kernel) (by decide +kernel)) (goodIn_sub (fun _ h => List.mem_cons_of_mem _ (List.mem_append_left _ (List.mem_append_right _ h))) (by decide +kernel))
set_option maxRecDepth 20000 in
theorem gX3_exchange_X3_livingPartWithRange : GoodIn wsX3_exchange (wsV RX3 54 RX3 yX3_livingPartWithRange wsX3_livingPartWithRange) := goodIn_app (goodIn_of _ (by decide +kernel)) ggX3_exchange_X3_livingPartWithRange
set_option maxRecDepth 20000 in
theorem ggX3_exchange_X3_refuseUnlessAttached : GoodIn wsX3_exchange wsX3_refuseUnlessAttached := goodIn_ca (goodIn_r _ [22, 23, 24, 14, 56, 57, 58, 59, 60, 61] (by decide +kernel) (by decide +kernel)) (goodIn_sub (fun _ h => List.mem_cons_of_mem _ (List.mem_append_right _ h)) (by decide +kernel))
set_option maxRecDepth 20000 in
theorem gX3_exchange_X3_refuseUnlessAttached : GoodIn wsX3_exchange (va_wsS RX3 71 yX3_refuseUnlessAttached wsX3_refuseUnlessAttached) := goodIn_app (goodIn_of _ (by decide +kernel)) ggX3_exchange_X3_refuseUnlessAttached
set_option maxRecDepth 20000 in
theorem ggX3_exchange_X3_refuseUnlessDetached : GoodIn wsX3_exchange wsX3_refuseUnlessDetached := goodIn_ca (goodIn_r _ [27, 23, 24, 14, 56, 57, 58, 59, 60, 61] (by decide +kernel) (by decide +kernel)) (goodIn_sub (fun _ h => List.mem_cons_of_mem _ (List.mem_append_right _ h)) (by decide +kernel))
set_option maxRecDepth 20000 in
theorem gX3_exchange_X3_refuseUnlessDetached : GoodIn wsX3_exchange (va_wsS RX3 94 yX3_refuseUnlessDetached wsX3_refuseUnlessDetached) := goodIn_app (goodIn_of _ (by decide +kernel)) ggX3_exchange_X3_refuseUnlessDetached
set_option maxRecDepth 20000 in
theorem ggX3_exchange_X3_refuseForeignRows : GoodIn wsX3_exchange wsX3_refuseForeignRows := goodIn_ca (goodIn_r _ [31, 23, 24, 32, 33, 34, 35, 36, 37, 38, 39, 40, 41, 50, 51, 52, 53, 54, 55, 62, 63, 64, 65, 56, 57, 58, 59, 60, 61] (by decide +kernel) (by decide +kernel)) (goodIn_sub (fun _ h => List.mem_cons_of_mem _ (List.mem_append_right _ h)) (by decide +kernel))
set_option maxRecDepth 20000 in
theorem gX3_exchange_X3_refuseForeignRows : GoodIn wsX3_exchange (wsV RX3 97 RX3 yX3_refuseForeignRows wsX3_refuseForeignRows) := goodIn_app (goodIn_of _ (by decide +kernel)) ggX3_exchange_X3_refuseForeignRows
set_option maxRecDepth 20000 in
theorem ggX3_exchange_X3_swapRows : GoodIn wsX3_exchange wsX3_swapRows := goodIn_r _ [45, 32, 33, 50, 51, 52, 53, 54, 55, 62, 63, 64, 65] (by decide +kernel) (by decide +kernel)
set_option maxRecDepth 20000 in
theorem gX3_exchange_X3_swapRows : GoodIn wsX3_exchange (wsV RX3 100 RX3 yX3_swapRows wsX3_swapRows) := goodIn_app (goodIn_of _ (by decide +kernel)) ggX3_exchange_X3_swapRows
set_option maxRecDepth 20000 in
theorem ggX3_exchange_X3_rowsOf : GoodIn wsX3_exchange wsX3_rowsOf := goodIn_r _ [49, 32, 33, 50, 51, 52, 53, 54, 55, 62, 63, 64, 65] (by decide +kernel) (by decide +kernel)
set_option maxRecDepth 20000 in
theorem gX3_exchange_X3_rowsOf : GoodIn wsX3_exchange (wsV RX3 50 RX3 yX3_rowsOf wsX3_rowsOf) := goodIn_app (goodIn_of _ (by decide +kernel)) ggX3_exchange_X3_rowsOf
theorem dX3_exchange_0 : decode cX3_exchange 0 = .ok (.aload_n 0, 1) := by decide +kernel
theorem dX3_exchange_1 : decode cX3_exchange 1 = .ok (.iload_n 1, 1) := by decide +kernel
theorem dX3_exchange_2 : decode cX3_exchange 2 = .ok (.invokevirtual 54, 3) := by decide +kernel
theorem dX3_exchange_5 : decode cX3_exchange 5 = .ok (.astore_n 3, 1) := by decide +kernel
theorem dX3_exchange_6 : decode cX3_exchange 6 = .ok (.aload_n 0, 1) := by decide +kernel
theorem dX3_exchange_7 : decode cX3_exchange 7 = .ok (.iload_n 2, 1) := by decide +kernel
theorem dX3_exchange_8 : decode cX3_exchange 8 = .ok (.invokevirtual 54, 3) := by decide +kernel
theorem dX3_exchange_11 : decode cX3_exchange 11 = .ok (.astore 4, 2) := by decide +kernel
theorem dX3_exchange_13 : decode cX3_exchange 13 = .ok (.aload_n 3, 1) := by decide +kernel
theorem dX3_exchange_14 : decode cX3_exchange 14 = .ok (.invokestatic 71, 3) := by decide +kernel
theorem dX3_exchange_17 : decode cX3_exchange 17 = .ok (.aload 4, 2) := by decide +kernel
theorem dX3_exchange_19 : decode cX3_exchange 19 = .ok (.invokestatic 94, 3) := by decide +kernel
theorem dX3_exchange_22 : decode cX3_exchange 22 = .ok (.aload_n 0, 1) := by decide +kernel
theorem dX3_exchange_23 : decode cX3_exchange 23 = .ok (.aload_n 3, 1) := by decide +kernel
theorem dX3_exchange_24 : decode cX3_exchange 24 = .ok (.aload 4, 2) := by decide +kernel
theorem dX3_exchange_26 : decode cX3_exchange 26 = .ok (.invokevirtual 97, 3) := by decide +kernel
theorem dX3_exchange_29 : decode cX3_exchange 29 = .ok (.aload_n 0, 1) := by decide +kernel
theorem dX3_exchange_30 : decode cX3_exchange 30 = .ok (.aload 4, 2) := by decide +kernel
theorem dX3_exchange_32 : decode cX3_exchange 32 = .ok (.aload_n 3, 1) := by decide +kernel
theorem dX3_exchange_33 : decode cX3_exchange 33 = .ok (.invokevirtual 97, 3) := by decide +kernel
theorem dX3_exchange_36 : decode cX3_exchange 36 = .ok (.aload_n 0, 1) := by decide +kernel
theorem dX3_exchange_37 : decode cX3_exchange 37 = .ok (.aload_n 3, 1) := by decide +kernel
theorem dX3_exchange_38 : decode cX3_exchange 38 = .ok (.aload 4, 2) := by decide +kernel
theorem dX3_exchange_40 : decode cX3_exchange 40 = .ok (.invokevirtual 100, 3) := by decide +kernel
theorem dX3_exchange_43 : decode cX3_exchange 43 = .ok (.aload_n 0, 1) := by decide +kernel
theorem dX3_exchange_44 : decode cX3_exchange 44 = .ok (.iconst 1, 1) := by decide +kernel
theorem dX3_exchange_45 : decode cX3_exchange 45 = .ok (.putfield 90, 3) := by decide +kernel
theorem dX3_exchange_48 : decode cX3_exchange 48 = .ok (.aload_n 0, 1) := by decide +kernel
theorem dX3_exchange_49 : decode cX3_exchange 49 = .ok (.aload_n 3, 1) := by decide +kernel
theorem dX3_exchange_50 : decode cX3_exchange 50 = .ok (.invokevirtual 50, 3) := by decide +kernel
theorem dX3_exchange_53 : decode cX3_exchange 53 = .ok (.ireturn, 1) := by decide +kernel
set_option maxRecDepth 20000 in
theorem ggX3_insert_X3_checkKey : GoodIn wsX3_insert wsX3_checkKey := goodIn_ca (goodIn_r _ [11, 12, 13] (by decide +kernel) (by decide +kernel)) (goodIn_sub (fun _ h => List.mem_cons_of_mem _ (List.mem_append_right _ h)) (by decide +kernel))
set_option maxRecDepth 20000 in
theorem gX3_insert_X3_checkKey : GoodIn wsX3_insert (va_wsS RX3 103 yX3_checkKey wsX3_checkKey) := goodIn_app (goodIn_of _ (by decide +kernel)) ggX3_insert_X3_checkKey
set_option maxRecDepth 20000 in
theorem ggX3_insert_X3_checkSort : GoodIn wsX3_insert wsX3_checkSort := goodIn_ca (goodIn_r _ [16, 12, 13] (by decide +kernel) (by decide +kernel)) (goodIn_sub (fun _ h => List.mem_cons_of_mem _ (List.mem_append_right _ h)) (by decide +kernel))
set_option maxRecDepth 20000 in
theorem gX3_insert_X3_checkSort : GoodIn wsX3_insert (va_wsS RX3 107 yX3_checkSort wsX3_checkSort) := goodIn_app (goodIn_of _ (by decide +kernel)) ggX3_insert_X3_checkSort
set_option maxRecDepth 20000 in
theorem ggX3_insert_X3_checkValue : GoodIn wsX3_insert wsX3_checkValue := goodIn_ca (goodIn_r _ [19, 12, 13] (by decide +kernel) (by decide +kernel)) (goodIn_sub (fun _ h => List.mem_cons_of_mem _ (List.mem_append_right _ h)) (by decide +kernel))
set_option maxRecDepth 20000 in
theorem gX3_insert_X3_checkValue : GoodIn wsX3_insert (va_wsS RX3 110 yX3_checkValue wsX3_checkValue) := goodIn_app (goodIn_of _ (by decide +kernel)) ggX3_insert_X3_checkValue
set_option maxRecDepth 20000 in
theorem ggX3_insert_X3_holderOf : GoodIn wsX3_insert wsX3_holderOf := goodIn_r _ [23, 24, 25, 26, 27, 28, 29, 30, 31, 32, 33, 44, 45, 46, 47, 48, 49, 54, 55, 56, 57, 58, 59] (by decide +kernel) (by decide +kernel)
set_option maxRecDepth 20000 in
theorem gX3_insert_X3_holderOf : GoodIn wsX3_insert (wsV RX3 118 RX3 yX3_holderOf wsX3_holderOf) := goodIn_app (goodIn_of _ (by decide +kernel)) ggX3_insert_X3_holderOf
set_option maxRecDepth 20000 in
theorem ggX3_insert_X2_init : GoodIn wsX3_insert wsX2_init := goodIn_r _ [36, 37, 38, 39, 40, 41, 42, 43, 50, 51, 52, 53] (by decide +kernel) (by decide +kernel)
set_option maxRecDepth 20000 in
theorem gX3_insert_X2_init : GoodIn wsX3_insert (wsX2_init) := ggX3_insert_X2_init
theorem dX3_insert_0 : decode cX3_insert 0 = .ok (.iload_n 1, 1) := by decide +kernel
theorem dX3_insert_1 : decode cX3_insert 1 = .ok (.invokestatic 103, 3) := by decide +kernel
theorem dX3_insert_4 : decode cX3_insert 4 = .ok (.iload_n 2, 1) := by decide +kernel
theorem dX3_insert_5 : decode cX3_insert 5 = .ok (.invokestatic 107, 3) := by decide +kernel
theorem dX3_insert_8 : decode cX3_insert 8 = .ok (.iload_n 3, 1) := by decide +kernel
theorem dX3_insert_9 : decode cX3_insert 9 = .ok (.invokestatic 110, 3) := by decide +kernel
theorem dX3_insert_12 : decode cX3_insert 12 = .ok (.aload_n 0, 1) := by decide +kernel
theorem dX3_insert_13 : decode cX3_insert 13 = .ok (.getfield 113, 3) := by decide +kernel
theorem dX3_insert_16 : decode cX3_insert 16 = .ok (.istore 4, 2) := by decide +kernel
theorem dX3_insert_18 : decode cX3_insert 18 = .ok (.iload 4, 2) := by decide +kernel
theorem dX3_insert_20 : decode cX3_insert 20 = .ok (.aload_n 0, 1) := by decide +kernel
theorem dX3_insert_21 : decode cX3_insert 21 = .ok (.getfield 24, 3) := by decide +kernel
theorem dX3_insert_24 : decode cX3_insert 24 = .ok (.arraylength, 1) := by decide +kernel
theorem dX3_insert_25 : decode cX3_insert 25 = .ok (.if_icmp .lt 13, 3) := by decide +kernel
theorem dX3_insert_28 : decode cX3_insert 28 = .ok (.new 80, 3) := by decide +kernel
theorem dX3_insert_31 : decode cX3_insert 31 = .ok (.dup, 1) := by decide +kernel
theorem dX3_insert_32 : decode cX3_insert 32 = .ok (.ldc 116, 2) := by decide +kernel
theorem dX3_insert_34 : decode cX3_insert 34 = .ok (.invokespecial 84, 3) := by decide +kernel
theorem dX3_insert_37 : decode cX3_insert 37 = .ok (.athrow, 1) := by decide +kernel
theorem dX3_insert_38 : decode cX3_insert 38 = .ok (.aload_n 0, 1) := by decide +kernel
theorem dX3_insert_39 : decode cX3_insert 39 = .ok (.getfield 24, 3) := by decide +kernel
theorem dX3_insert_42 : decode cX3_insert 42 = .ok (.iload 4, 2) := by decide +kernel
theorem dX3_insert_44 : decode cX3_insert 44 = .ok (.new 22, 3) := by decide +kernel
theorem dX3_insert_47 : decode cX3_insert 47 = .ok (.dup, 1) := by decide +kernel
theorem dX3_insert_48 : decode cX3_insert 48 = .ok (.iload_n 1, 1) := by decide +kernel
theorem dX3_insert_49 : decode cX3_insert 49 = .ok (.iload_n 2, 1) := by decide +kernel
theorem dX3_insert_50 : decode cX3_insert 50 = .ok (.iload_n 3, 1) := by decide +kernel
theorem dX3_insert_51 : decode cX3_insert 51 = .ok (.aload_n 0, 1) := by decide +kernel
theorem dX3_insert_52 : decode cX3_insert 52 = .ok (.iload_n 1, 1) := by decide +kernel
theorem dX3_insert_53 : decode cX3_insert 53 = .ok (.invokevirtual 118, 3) := by decide +kernel
theorem dX3_insert_56 : decode cX3_insert 56 = .ok (.invokespecial 121, 3) := by decide +kernel
theorem dX3_insert_59 : decode cX3_insert 59 = .ok (.aastore, 1) := by decide +kernel
theorem dX3_insert_60 : decode cX3_insert 60 = .ok (.aload_n 0, 1) := by decide +kernel
theorem dX3_insert_61 : decode cX3_insert 61 = .ok (.iload 4, 2) := by decide +kernel
theorem dX3_insert_63 : decode cX3_insert 63 = .ok (.iconst 1, 1) := by decide +kernel
theorem dX3_insert_64 : decode cX3_insert 64 = .ok (.iadd, 1) := by decide +kernel
theorem dX3_insert_65 : decode cX3_insert 65 = .ok (.putfield 113, 3) := by decide +kernel
theorem dX3_insert_68 : decode cX3_insert 68 = .ok (.iload 4, 2) := by decide +kernel
theorem dX3_insert_70 : decode cX3_insert 70 = .ok (.ireturn, 1) := by decide +kernel
set_option maxRecDepth 20000 in
theorem ggX3_change_X3_presentRow : GoodIn wsX3_change wsX3_presentRow := goodIn_ca (goodIn_r _ [8, 9, 10, 11, 64, 65, 66, 67, 68, 69] (by decide +kernel) (by decide +kernel)) (goodIn_sub (fun _ h => List.mem_cons_of_mem _ (List.mem_append_left _ (List.mem_append_left _ (List.mem_append_right _ h)))) (by decide +kernel))
set_option maxRecDepth 20000 in
theorem gX3_change_X3_presentRow : GoodIn wsX3_change (wsV RX3 124 RX3 yX3_presentRow wsX3_presentRow) := goodIn_app (goodIn_of _ (by decide +kernel)) ggX3_change_X3_presentRow
set_option maxRecDepth 20000 in
theorem ggX3_change_X3_checkKey : GoodIn wsX3_change wsX3_checkKey := goodIn_ca (goodIn_r _ [14, 15, 16] (by decide +kernel) (by decide +kernel)) (goodIn_sub (fun _ h => List.mem_cons_of_mem _ (List.mem_append_left _ (List.mem_append_right _ h))) (by decide +kernel))
set_option maxRecDepth 20000 in
theorem gX3_change_X3_checkKey : GoodIn wsX3_change (va_wsS RX3 103 yX3_checkKey wsX3_checkKey) := goodIn_app (goodIn_of _ (by decide +kernel)) ggX3_change_X3_checkKey
set_option maxRecDepth 20000 in
theorem ggX3_change_X3_checkSort : GoodIn wsX3_change wsX3_checkSort := goodIn_ca (goodIn_r _ [19, 15, 16] (by decide +kernel) (by decide +kernel)) (goodIn_sub (fun _ h => List.mem_cons_of_mem _ (List.mem_append_left _ (List.mem_append_right _ h))) (by decide +kernel))
set_option maxRecDepth 20000 in
theorem gX3_change_X3_checkSort : GoodIn wsX3_change (va_wsS RX3 107 yX3_checkSort wsX3_checkSort) := goodIn_app (goodIn_of _ (by decide +kernel)) ggX3_change_X3_checkSort
set_option maxRecDepth 20000 in
theorem ggX3_change_X3_refuseUnlessAttached : GoodIn wsX3_change wsX3_refuseUnlessAttached := goodIn_ca (goodIn_r _ [22, 23, 24, 25, 70, 71, 72, 73, 74, 75] (by decide +kernel) (by decide +kernel)) (goodIn_sub (fun _ h => List.mem_cons_of_mem _ (List.mem_append_right _ h)) (by decide +kernel))
set_option maxRecDepth 20000 in
theorem gX3_change_X3_refuseUnlessAttached : GoodIn wsX3_change (va_wsS RX3 71 yX3_refuseUnlessAttached wsX3_refuseUnlessAttached) := goodIn_app (goodIn_of _ (by decide +kernel)) ggX3_change_X3_refuseUnlessAttached
set_option maxRecDepth 20000 in
theorem ggX3_change_X2_place : GoodIn wsX3_change wsX2_place := goodIn_r _ [30, 31, 32, 33, 34, 35, 36, 37, 38, 39, 40, 41, 42, 7, 43, 44, 45, 46, 47, 60, 61, 62, 63, 70, 71, 72, 73, 74, 75] (by decide +kernel) (by decide +kernel)
set_option maxRecDepth 20000 in
theorem gX3_change_X2_place : GoodIn wsX3_change (wsV RX3 131 RX2 yX2_place wsX2_place) := goodIn_app (goodIn_of _ (by decide +kernel)) ggX3_change_X2_place
set_option maxRecDepth 20000 in
theorem ggX3_change_X3_holderOf : GoodIn wsX3_change wsX3_holderOf := goodIn_r _ [51, 52, 25, 53, 54, 55, 56, 38, 57, 58, 59, 64, 65, 66, 67, 68, 69, 70, 71, 72, 73, 74, 75] (by decide +kernel) (by decide +kernel)
set_option maxRecDepth 20000 in
theorem gX3_change_X3_holderOf : GoodIn wsX3_change (wsV RX3 118 RX3 yX3_holderOf wsX3_holderOf) := goodIn_app (goodIn_of _ (by decide +kernel)) ggX3_change_X3_holderOf
theorem dX3_change_0 : decode cX3_change 0 = .ok (.aload_n 0, 1) := by decide +kernel
theorem dX3_change_1 : decode cX3_change 1 = .ok (.iload_n 1, 1) := by decide +kernel
theorem dX3_change_2 : decode cX3_change 2 = .ok (.invokevirtual 124, 3) := by decide +kernel
theorem dX3_change_5 : decode cX3_change 5 = .ok (.astore 4, 2) := by decide +kernel
theorem dX3_change_7 : decode cX3_change 7 = .ok (.iload_n 2, 1) := by decide +kernel
theorem dX3_change_8 : decode cX3_change 8 = .ok (.invokestatic 103, 3) := by decide +kernel
theorem dX3_change_11 : decode cX3_change 11 = .ok (.iload_n 3, 1) := by decide +kernel
theorem dX3_change_12 : decode cX3_change 12 = .ok (.invokestatic 107, 3) := by decide +kernel
theorem dX3_change_15 : decode cX3_change 15 = .ok (.aload 4, 2) := by decide +kernel
theorem dX3_change_17 : decode cX3_change 17 = .ok (.getfield 128, 3) := by decide +kernel
theorem dX3_change_20 : decode cX3_change 20 = .ok (.invokestatic 71, 3) := by decide +kernel
theorem dX3_change_23 : decode cX3_change 23 = .ok (.aload 4, 2) := by decide +kernel
theorem dX3_change_25 : decode cX3_change 25 = .ok (.invokevirtual 131, 3) := by decide +kernel
theorem dX3_change_28 : decode cX3_change 28 = .ok (.istore 5, 2) := by decide +kernel
theorem dX3_change_30 : decode cX3_change 30 = .ok (.aload 4, 2) := by decide +kernel
theorem dX3_change_32 : decode cX3_change 32 = .ok (.iload_n 2, 1) := by decide +kernel
theorem dX3_change_33 : decode cX3_change 33 = .ok (.putfield 135, 3) := by decide +kernel
theorem dX3_change_36 : decode cX3_change 36 = .ok (.aload 4, 2) := by decide +kernel
theorem dX3_change_38 : decode cX3_change 38 = .ok (.iload_n 3, 1) := by decide +kernel
theorem dX3_change_39 : decode cX3_change 39 = .ok (.putfield 138, 3) := by decide +kernel
theorem dX3_change_42 : decode cX3_change 42 = .ok (.aload 4, 2) := by decide +kernel
theorem dX3_change_44 : decode cX3_change 44 = .ok (.aload_n 0, 1) := by decide +kernel
theorem dX3_change_45 : decode cX3_change 45 = .ok (.iload_n 2, 1) := by decide +kernel
theorem dX3_change_46 : decode cX3_change 46 = .ok (.invokevirtual 118, 3) := by decide +kernel
theorem dX3_change_49 : decode cX3_change 49 = .ok (.putfield 128, 3) := by decide +kernel
theorem dX3_change_52 : decode cX3_change 52 = .ok (.aload 4, 2) := by decide +kernel
theorem dX3_change_54 : decode cX3_change 54 = .ok (.invokevirtual 131, 3) := by decide +kernel
theorem dX3_change_57 : decode cX3_change 57 = .ok (.iload 5, 2) := by decide +kernel
theorem dX3_change_59 : decode cX3_change 59 = .ok (.if_icmp .eq 7, 3) := by decide +kernel
theorem dX3_change_62 : decode cX3_change 62 = .ok (.iconst 1, 1) := by decide +kernel
theorem dX3_change_63 : decode cX3_change 63 = .ok (.goto 4, 3) := by decide +kernel
theorem dX3_change_66 : decode cX3_change 66 = .ok (.iconst 0, 1) := by decide +kernel
theorem dX3_change_67 : decode cX3_change 67 = .ok (.ireturn, 1) := by decide +kernel
set_option maxRecDepth 20000 in
theorem ggX3_remove_X3_presentRow : GoodIn wsX3_remove wsX3_presentRow := goodIn_ca (goodIn_r _ [7, 8, 9, 1, 10, 11, 12, 13, 14, 15] (by decide +kernel) (by decide +kernel)) (goodIn_sub (fun _ h => List.mem_cons_of_mem _ (List.mem_append_right _ h)) (by decide +kernel))
set_option maxRecDepth 20000 in
theorem gX3_remove_X3_presentRow : GoodIn wsX3_remove (wsV RX3 124 RX3 yX3_presentRow wsX3_presentRow) := goodIn_app (goodIn_of _ (by decide +kernel)) ggX3_remove_X3_presentRow
theorem dX3_remove_0 : decode cX3_remove 0 = .ok (.aload_n 0, 1) := by decide +kernel
theorem dX3_remove_1 : decode cX3_remove 1 = .ok (.iload_n 1, 1) := by decide +kernel
theorem dX3_remove_2 : decode cX3_remove 2 = .ok (.invokevirtual 124, 3) := by decide +kernel
theorem dX3_remove_5 : decode cX3_remove 5 = .ok (.astore_n 2, 1) := by decide +kernel
theorem dX3_remove_6 : decode cX3_remove 6 = .ok (.aload_n 0, 1) := by decide +kernel
theorem dX3_remove_7 : decode cX3_remove 7 = .ok (.getfield 24, 3) := by decide +kernel
theorem dX3_remove_10 : decode cX3_remove 10 = .ok (.iload_n 1, 1) := by decide +kernel
theorem dX3_remove_11 : decode cX3_remove 11 = .ok (.aconst_null, 1) := by decide +kernel
theorem dX3_remove_12 : decode cX3_remove 12 = .ok (.aastore, 1) := by decide +kernel
theorem dX3_remove_13 : decode cX3_remove 13 = .ok (.aload_n 2, 1) := by decide +kernel
theorem dX3_remove_14 : decode cX3_remove 14 = .ok (.getfield 141, 3) := by decide +kernel
theorem dX3_remove_17 : decode cX3_remove 17 = .ok (.ireturn, 1) := by decide +kernel
theorem dX3_parts_0 : decode cX3_parts 0 = .ok (.aload_n 0, 1) := by decide +kernel
theorem dX3_parts_1 : decode cX3_parts 1 = .ok (.getfield 144, 3) := by decide +kernel
theorem dX3_parts_4 : decode cX3_parts 4 = .ok (.ireturn, 1) := by decide +kernel
set_option maxRecDepth 20000 in
theorem ggX3_stateOf_X3_knownPart : GoodIn wsX3_stateOf wsX3_knownPart := goodIn_ca (goodIn_r _ [6, 7, 8, 9, 16, 17, 18, 19, 20, 21] (by decide +kernel) (by decide +kernel)) (goodIn_sub (fun _ h => List.mem_cons_of_mem _ (List.mem_append_right _ h)) (by decide +kernel))
set_option maxRecDepth 20000 in
theorem gX3_stateOf_X3_knownPart : GoodIn wsX3_stateOf (wsV RX3 147 RX3 yX3_knownPart wsX3_knownPart) := goodIn_app (goodIn_of _ (by decide +kernel)) ggX3_stateOf_X3_knownPart
theorem dX3_stateOf_0 : decode cX3_stateOf 0 = .ok (.aload_n 0, 1) := by decide +kernel
theorem dX3_stateOf_1 : decode cX3_stateOf 1 = .ok (.iload_n 1, 1) := by decide +kernel
theorem dX3_stateOf_2 : decode cX3_stateOf 2 = .ok (.invokevirtual 147, 3) := by decide +kernel
theorem dX3_stateOf_5 : decode cX3_stateOf 5 = .ok (.getfield 87, 3) := by decide +kernel
theorem dX3_stateOf_8 : decode cX3_stateOf 8 = .ok (.ireturn, 1) := by decide +kernel
set_option maxRecDepth 20000 in
theorem ggX3_partOf_X3_checkKey : GoodIn wsX3_partOf wsX3_checkKey := goodIn_ca (goodIn_r _ [5, 6, 7] (by decide +kernel) (by decide +kernel)) (goodIn_sub (fun _ h => List.mem_cons_of_mem _ (List.mem_append_right _ h)) (by decide +kernel))
set_option maxRecDepth 20000 in
theorem gX3_partOf_X3_checkKey : GoodIn wsX3_partOf (va_wsS RX3 103 yX3_checkKey wsX3_checkKey) := goodIn_app (goodIn_of _ (by decide +kernel)) ggX3_partOf_X3_checkKey
set_option maxRecDepth 20000 in
theorem ggX3_partOf_X3_holderOf : GoodIn wsX3_partOf wsX3_holderOf := goodIn_r _ [11, 12, 13, 14, 15, 16, 17, 18, 19, 20, 21, 28, 29, 30, 31, 32, 33, 22, 23, 24, 25, 26, 27] (by decide +kernel) (by decide +kernel)
set_option maxRecDepth 20000 in
theorem gX3_partOf_X3_holderOf : GoodIn wsX3_partOf (wsV RX3 118 RX3 yX3_holderOf wsX3_holderOf) := goodIn_app (goodIn_of _ (by decide +kernel)) ggX3_partOf_X3_holderOf
theorem dX3_partOf_0 : decode cX3_partOf 0 = .ok (.iload_n 1, 1) := by decide +kernel
theorem dX3_partOf_1 : decode cX3_partOf 1 = .ok (.invokestatic 103, 3) := by decide +kernel
theorem dX3_partOf_4 : decode cX3_partOf 4 = .ok (.aload_n 0, 1) := by decide +kernel
theorem dX3_partOf_5 : decode cX3_partOf 5 = .ok (.iload_n 1, 1) := by decide +kernel
theorem dX3_partOf_6 : decode cX3_partOf 6 = .ok (.invokevirtual 118, 3) := by decide +kernel
theorem dX3_partOf_9 : decode cX3_partOf 9 = .ok (.getfield 42, 3) := by decide +kernel
theorem dX3_partOf_12 : decode cX3_partOf 12 = .ok (.ireturn, 1) := by decide +kernel
set_option maxRecDepth 20000 in
theorem ggX3_leafOf_X3_presentRow : GoodIn wsX3_leafOf wsX3_presentRow := goodIn_ca (goodIn_r _ [5, 6, 7, 8, 31, 32, 33, 34, 35, 36] (by decide +kernel) (by decide +kernel)) (goodIn_sub (fun _ h => List.mem_cons_of_mem _ (List.mem_append_right _ h)) (by decide +kernel))
set_option maxRecDepth 20000 in
theorem gX3_leafOf_X3_presentRow : GoodIn wsX3_leafOf (wsV RX3 124 RX3 yX3_presentRow wsX3_presentRow) := goodIn_app (goodIn_of _ (by decide +kernel)) ggX3_leafOf_X3_presentRow
set_option maxRecDepth 20000 in
theorem ggX3_leafOf_X2_place : GoodIn wsX3_leafOf wsX2_place := goodIn_r _ [13, 14, 15, 16, 17, 18, 19, 20, 21, 22, 23, 24, 25, 4, 26, 27, 28, 29, 30, 37, 38, 39, 40, 41, 42, 43, 44, 45, 46] (by decide +kernel) (by decide +kernel)
set_option maxRecDepth 20000 in
theorem gX3_leafOf_X2_place : GoodIn wsX3_leafOf (wsV RX3 131 RX2 yX2_place wsX2_place) := goodIn_app (goodIn_of _ (by decide +kernel)) ggX3_leafOf_X2_place
theorem dX3_leafOf_0 : decode cX3_leafOf 0 = .ok (.aload_n 0, 1) := by decide +kernel
theorem dX3_leafOf_1 : decode cX3_leafOf 1 = .ok (.iload_n 1, 1) := by decide +kernel
theorem dX3_leafOf_2 : decode cX3_leafOf 2 = .ok (.invokevirtual 124, 3) := by decide +kernel
theorem dX3_leafOf_5 : decode cX3_leafOf 5 = .ok (.invokevirtual 131, 3) := by decide +kernel
theorem dX3_leafOf_8 : decode cX3_leafOf 8 = .ok (.ireturn, 1) := by decide +kernel
set_option maxRecDepth 20000 in
theorem ggX3_rowsIn_X3_livingPartWithLeaf : GoodIn wsX3_rowsIn wsX3_livingPartWithLeaf := goodIn_ca (goodIn_r _ [6, 7, 8, 9, 10, 11, 5, 12, 13, 14, 15, 16, 17, 18, 19, 20, 21, 22, 23, 24, 25, 50, 51, 52, 53, 54, 55, 44, 45, 46, 47, 48, 49] (by decide +kernel) (by decide +kernel)) (goodIn_sub (fun _ h => List.mem_cons_of_mem _ (List.mem_append_right _ h)) (by decide +kernel))
set_option maxRecDepth 20000 in
theorem gX3_rowsIn_X3_livingPartWithLeaf : GoodIn wsX3_rowsIn (wsV RX3 150 RX3 yX3_livingPartWithLeaf wsX3_livingPartWithLeaf) := goodIn_app (goodIn_of _ (by decide +kernel)) ggX3_rowsIn_X3_livingPartWithLeaf
set_option maxRecDepth 20000 in
theorem ggX3_rowsIn_X2_liesIn : GoodIn wsX3_rowsIn wsX2_liesIn := goodIn_r _ [30, 31, 32, 33, 34, 35, 36, 22, 37, 24, 25, 38, 5, 39, 40, 41, 42, 43, 56, 57, 58, 59, 50, 51, 52, 53, 54, 55] (by decide +kernel) (by decide +kernel)
set_option maxRecDepth 20000 in
theorem gX3_rowsIn_X2_liesIn : GoodIn wsX3_rowsIn (wsV RX3 154 RX2 yX2_liesIn wsX2_liesIn) := goodIn_app (goodIn_of _ (by decide +kernel)) ggX3_rowsIn_X2_liesIn
theorem dX3_rowsIn_0 : decode cX3_rowsIn 0 = .ok (.aload_n 0, 1) := by decide +kernel
theorem dX3_rowsIn_1 : decode cX3_rowsIn 1 = .ok (.iload_n 1, 1) := by decide +kernel
theorem dX3_rowsIn_2 : decode cX3_rowsIn 2 = .ok (.iload_n 2, 1) := by decide +kernel
theorem dX3_rowsIn_3 : decode cX3_rowsIn 3 = .ok (.invokevirtual 150, 3) := by decide +kernel
theorem dX3_rowsIn_6 : decode cX3_rowsIn 6 = .ok (.astore_n 3, 1) := by decide +kernel
theorem dX3_rowsIn_7 : decode cX3_rowsIn 7 = .ok (.iconst 0, 1) := by decide +kernel
theorem dX3_rowsIn_8 : decode cX3_rowsIn 8 = .ok (.istore 4, 2) := by decide +kernel
theorem dX3_rowsIn_10 : decode cX3_rowsIn 10 = .ok (.aload_n 0, 1) := by decide +kernel
theorem dX3_rowsIn_11 : decode cX3_rowsIn 11 = .ok (.getfield 24, 3) := by decide +kernel
theorem dX3_rowsIn_14 : decode cX3_rowsIn 14 = .ok (.astore 5, 2) := by decide +kernel
theorem dX3_rowsIn_16 : decode cX3_rowsIn 16 = .ok (.aload 5, 2) := by decide +kernel
theorem dX3_rowsIn_18 : decode cX3_rowsIn 18 = .ok (.arraylength, 1) := by decide +kernel
theorem dX3_rowsIn_19 : decode cX3_rowsIn 19 = .ok (.istore 6, 2) := by decide +kernel
theorem dX3_rowsIn_21 : decode cX3_rowsIn 21 = .ok (.iconst 0, 1) := by decide +kernel
theorem dX3_rowsIn_22 : decode cX3_rowsIn 22 = .ok (.istore 7, 2) := by decide +kernel
theorem dX3_rowsIn_24 : decode cX3_rowsIn 24 = .ok (.iload 7, 2) := by decide +kernel
theorem dX3_rowsIn_26 : decode cX3_rowsIn 26 = .ok (.iload 6, 2) := by decide +kernel
theorem dX3_rowsIn_28 : decode cX3_rowsIn 28 = .ok (.if_icmp .ge 34, 3) := by decide +kernel
theorem dX3_rowsIn_31 : decode cX3_rowsIn 31 = .ok (.aload 5, 2) := by decide +kernel
theorem dX3_rowsIn_33 : decode cX3_rowsIn 33 = .ok (.iload 7, 2) := by decide +kernel
theorem dX3_rowsIn_35 : decode cX3_rowsIn 35 = .ok (.aaload, 1) := by decide +kernel
theorem dX3_rowsIn_36 : decode cX3_rowsIn 36 = .ok (.astore 8, 2) := by decide +kernel
theorem dX3_rowsIn_38 : decode cX3_rowsIn 38 = .ok (.aload 8, 2) := by decide +kernel
theorem dX3_rowsIn_40 : decode cX3_rowsIn 40 = .ok (.ifnull 16, 3) := by decide +kernel
theorem dX3_rowsIn_43 : decode cX3_rowsIn 43 = .ok (.aload 8, 2) := by decide +kernel
theorem dX3_rowsIn_45 : decode cX3_rowsIn 45 = .ok (.aload_n 3, 1) := by decide +kernel
theorem dX3_rowsIn_46 : decode cX3_rowsIn 46 = .ok (.iload_n 2, 1) := by decide +kernel
theorem dX3_rowsIn_47 : decode cX3_rowsIn 47 = .ok (.invokevirtual 154, 3) := by decide +kernel
theorem dX3_rowsIn_50 : decode cX3_rowsIn 50 = .ok (.ifCond .eq 6, 3) := by decide +kernel
theorem dX3_rowsIn_53 : decode cX3_rowsIn 53 = .ok (.iinc 4 1, 3) := by decide +kernel
theorem dX3_rowsIn_56 : decode cX3_rowsIn 56 = .ok (.iinc 7 1, 3) := by decide +kernel
theorem dX3_rowsIn_59 : decode cX3_rowsIn 59 = .ok (.goto (-35), 3) := by decide +kernel
theorem dX3_rowsIn_62 : decode cX3_rowsIn 62 = .ok (.iload 4, 2) := by decide +kernel
theorem dX3_rowsIn_64 : decode cX3_rowsIn 64 = .ok (.ireturn, 1) := by decide +kernel
set_option maxRecDepth 20000 in
theorem ggX3_rows_X2_isInTable : GoodIn wsX3_rows wsX2_isInTable := goodIn_r _ [6, 7, 8, 15, 16, 17, 18, 19, 20, 21, 22, 23, 24] (by decide +kernel) (by decide +kernel)
set_option maxRecDepth 20000 in
theorem gX3_rows_X2_isInTable : GoodIn wsX3_rows (wsV RX3 158 RX2 yX2_isInTable wsX2_isInTable) := goodIn_app (goodIn_of _ (by decide +kernel)) ggX3_rows_X2_isInTable
theorem dX3_rows_0 : decode cX3_rows 0 = .ok (.iconst 0, 1) := by decide +kernel
theorem dX3_rows_1 : decode cX3_rows 1 = .ok (.istore_n 1, 1) := by decide +kernel
theorem dX3_rows_2 : decode cX3_rows 2 = .ok (.aload_n 0, 1) := by decide +kernel
theorem dX3_rows_3 : decode cX3_rows 3 = .ok (.getfield 24, 3) := by decide +kernel
theorem dX3_rows_6 : decode cX3_rows 6 = .ok (.astore_n 2, 1) := by decide +kernel
theorem dX3_rows_7 : decode cX3_rows 7 = .ok (.aload_n 2, 1) := by decide +kernel
theorem dX3_rows_8 : decode cX3_rows 8 = .ok (.arraylength, 1) := by decide +kernel
theorem dX3_rows_9 : decode cX3_rows 9 = .ok (.istore_n 3, 1) := by decide +kernel
theorem dX3_rows_10 : decode cX3_rows 10 = .ok (.iconst 0, 1) := by decide +kernel
theorem dX3_rows_11 : decode cX3_rows 11 = .ok (.istore 4, 2) := by decide +kernel
theorem dX3_rows_13 : decode cX3_rows 13 = .ok (.iload 4, 2) := by decide +kernel
theorem dX3_rows_15 : decode cX3_rows 15 = .ok (.iload_n 3, 1) := by decide +kernel
theorem dX3_rows_16 : decode cX3_rows 16 = .ok (.if_icmp .ge 31, 3) := by decide +kernel
theorem dX3_rows_19 : decode cX3_rows 19 = .ok (.aload_n 2, 1) := by decide +kernel
theorem dX3_rows_20 : decode cX3_rows 20 = .ok (.iload 4, 2) := by decide +kernel
theorem dX3_rows_22 : decode cX3_rows 22 = .ok (.aaload, 1) := by decide +kernel
theorem dX3_rows_23 : decode cX3_rows 23 = .ok (.astore 5, 2) := by decide +kernel
theorem dX3_rows_25 : decode cX3_rows 25 = .ok (.aload 5, 2) := by decide +kernel
theorem dX3_rows_27 : decode cX3_rows 27 = .ok (.ifnull 14, 3) := by decide +kernel
theorem dX3_rows_30 : decode cX3_rows 30 = .ok (.aload 5, 2) := by decide +kernel
theorem dX3_rows_32 : decode cX3_rows 32 = .ok (.invokevirtual 158, 3) := by decide +kernel
theorem dX3_rows_35 : decode cX3_rows 35 = .ok (.ifCond .eq 6, 3) := by decide +kernel
theorem dX3_rows_38 : decode cX3_rows 38 = .ok (.iinc 1 1, 3) := by decide +kernel
theorem dX3_rows_41 : decode cX3_rows 41 = .ok (.iinc 4 1, 3) := by decide +kernel
theorem dX3_rows_44 : decode cX3_rows 44 = .ok (.goto (-31), 3) := by decide +kernel
theorem dX3_rows_47 : decode cX3_rows 47 = .ok (.iload_n 1, 1) := by decide +kernel
theorem dX3_rows_48 : decode cX3_rows 48 = .ok (.ireturn, 1) := by decide +kernel
set_option maxRecDepth 20000 in
theorem ggX3_count_X3_checkedQuestion : GoodIn wsX3_count wsX3_checkedQuestion := goodIn_ca (goodIn_r _ [5, 6, 7, 8, 9, 10, 11, 12, 4, 13, 14, 15, 16, 17, 18, 19, 20, 21, 22, 116, 117, 118] (by decide +kernel) (by decide +kernel)) (goodIn_sub (fun _ h => List.mem_cons_of_mem _ (List.mem_append_right _ h)) (by decide +kernel))
set_option maxRecDepth 20000 in
theorem gX3_count_X3_checkedQuestion : GoodIn wsX3_count (va_wsS RX3 162 yX3_checkedQuestion wsX3_checkedQuestion) := goodIn_app (goodIn_of _ (by decide +kernel)) ggX3_count_X3_checkedQuestion
set_option maxRecDepth 20000 in
theorem ggX3_count_X3_countInPart : GoodIn wsX3_count wsX3_countInPart := goodIn_r _ [26, 27, 28, 29, 30, 31, 32, 33, 34, 35, 36, 4, 37, 38, 39, 40, 41, 42, 43, 44, 45, 46, 47, 48, 49, 50, 51, 1, 52, 53, 54, 55, 56, 57, 58, 59, 60, 61, 62, 63, 64, 65, 66, 67, 68, 69, 70, 71, 72, 73, 74, 75, 76, 77, 78, 79, 80, 81, 82, 83, 84, 85, 86, 87, 88, 89, 90, 91, 92, 93, 94, 95, 96, 97, 98, 99, 100, 101, 102, 103, 104, 105, 106, 107, 108, 109, 119, 120, 121, 122, 123, 124, 116, 117, 118, 110, 111, 112, 113, 114, 115, 125, 126, 127, 128] (by decide +kernel) (by decide +kernel)
set_option maxRecDepth 20000 in
theorem gX3_count_X3_countInPart : GoodIn wsX3_count (wsV RX3 166 RX3 yX3_countInPart wsX3_countInPart) := goodIn_app (goodIn_of _ (by decide +kernel)) ggX3_count_X3_countInPart
theorem dX3_count_0 : decode cX3_count 0 = .ok (.iload_n 1, 1) := by decide +kernel
theorem dX3_count_1 : decode cX3_count 1 = .ok (.iload_n 2, 1) := by decide +kernel
theorem dX3_count_2 : decode cX3_count 2 = .ok (.iload_n 3, 1) := by decide +kernel
theorem dX3_count_3 : decode cX3_count 3 = .ok (.invokestatic 162, 3) := by decide +kernel
theorem dX3_count_6 : decode cX3_count 6 = .ok (.astore 4, 2) := by decide +kernel
theorem dX3_count_8 : decode cX3_count 8 = .ok (.iconst 0, 1) := by decide +kernel
theorem dX3_count_9 : decode cX3_count 9 = .ok (.istore 5, 2) := by decide +kernel
theorem dX3_count_11 : decode cX3_count 11 = .ok (.aload_n 0, 1) := by decide +kernel
theorem dX3_count_12 : decode cX3_count 12 = .ok (.getfield 18, 3) := by decide +kernel
theorem dX3_count_15 : decode cX3_count 15 = .ok (.astore 6, 2) := by decide +kernel
theorem dX3_count_17 : decode cX3_count 17 = .ok (.aload 6, 2) := by decide +kernel
theorem dX3_count_19 : decode cX3_count 19 = .ok (.arraylength, 1) := by decide +kernel
theorem dX3_count_20 : decode cX3_count 20 = .ok (.istore 7, 2) := by decide +kernel
theorem dX3_count_22 : decode cX3_count 22 = .ok (.iconst 0, 1) := by decide +kernel
theorem dX3_count_23 : decode cX3_count 23 = .ok (.istore 8, 2) := by decide +kernel
theorem dX3_count_25 : decode cX3_count 25 = .ok (.iload 8, 2) := by decide +kernel
theorem dX3_count_27 : decode cX3_count 27 = .ok (.iload 7, 2) := by decide +kernel
theorem dX3_count_29 : decode cX3_count 29 = .ok (.if_icmp .ge 34, 3) := by decide +kernel
theorem dX3_count_32 : decode cX3_count 32 = .ok (.aload 6, 2) := by decide +kernel
theorem dX3_count_34 : decode cX3_count 34 = .ok (.iload 8, 2) := by decide +kernel
theorem dX3_count_36 : decode cX3_count 36 = .ok (.aaload, 1) := by decide +kernel
theorem dX3_count_37 : decode cX3_count 37 = .ok (.astore 9, 2) := by decide +kernel
theorem dX3_count_39 : decode cX3_count 39 = .ok (.aload 9, 2) := by decide +kernel
theorem dX3_count_41 : decode cX3_count 41 = .ok (.ifnull 16, 3) := by decide +kernel
theorem dX3_count_44 : decode cX3_count 44 = .ok (.iload 5, 2) := by decide +kernel
theorem dX3_count_46 : decode cX3_count 46 = .ok (.aload_n 0, 1) := by decide +kernel
theorem dX3_count_47 : decode cX3_count 47 = .ok (.aload 9, 2) := by decide +kernel
theorem dX3_count_49 : decode cX3_count 49 = .ok (.aload 4, 2) := by decide +kernel
theorem dX3_count_51 : decode cX3_count 51 = .ok (.invokevirtual 166, 3) := by decide +kernel
theorem dX3_count_54 : decode cX3_count 54 = .ok (.iadd, 1) := by decide +kernel
theorem dX3_count_55 : decode cX3_count 55 = .ok (.istore 5, 2) := by decide +kernel
theorem dX3_count_57 : decode cX3_count 57 = .ok (.iinc 8 1, 3) := by decide +kernel
theorem dX3_count_60 : decode cX3_count 60 = .ok (.goto (-35), 3) := by decide +kernel
theorem dX3_count_63 : decode cX3_count 63 = .ok (.iload 5, 2) := by decide +kernel
theorem dX3_count_65 : decode cX3_count 65 = .ok (.ireturn, 1) := by decide +kernel
set_option maxRecDepth 20000 in
theorem ggX3_countPlain_X3_checkedQuestion : GoodIn wsX3_countPlain wsX3_checkedQuestion := goodIn_ca (goodIn_r _ [5, 6, 7, 8, 9, 10, 11, 12, 4, 13, 14, 15, 16, 17, 18, 19, 20, 21, 22, 47, 48, 49] (by decide +kernel) (by decide +kernel)) (goodIn_sub (fun _ h => List.mem_cons_of_mem _ (List.mem_append_right _ h)) (by decide +kernel))
set_option maxRecDepth 20000 in
theorem gX3_countPlain_X3_checkedQuestion : GoodIn wsX3_countPlain (va_wsS RX3 162 yX3_checkedQuestion wsX3_checkedQuestion) := goodIn_app (goodIn_of _ (by decide +kernel)) ggX3_countPlain_X3_checkedQuestion
set_option maxRecDepth 20000 in
theorem ggX3_countPlain_X2_isInTable : GoodIn wsX3_countPlain wsX2_isInTable := goodIn_r _ [27, 28, 29, 50, 51, 52, 53, 54, 55, 56, 57, 58, 59] (by decide +kernel) (by decide +kernel)
set_option maxRecDepth 20000 in
theorem gX3_countPlain_X2_isInTable : GoodIn wsX3_countPlain (wsV RX3 158 RX2 yX2_isInTable wsX2_isInTable) := goodIn_app (goodIn_of _ (by decide +kernel)) ggX3_countPlain_X2_isInTable
set_option maxRecDepth 20000 in
theorem ggX3_countPlain_X2_fits : GoodIn wsX3_countPlain wsX2_fits := goodIn_r _ [33, 34, 35, 36, 37, 38, 39, 4, 40, 50, 51, 52, 53, 47, 48, 49] (by decide +kernel) (by decide +kernel)
set_option maxRecDepth 20000 in
theorem gX3_countPlain_X2_fits : GoodIn wsX3_countPlain (wsV RX3 170 RX2 yX2_fits wsX2_fits) := goodIn_app (goodIn_of _ (by decide +kernel)) ggX3_countPlain_X2_fits
theorem dX3_countPlain_0 : decode cX3_countPlain 0 = .ok (.iload_n 1, 1) := by decide +kernel
theorem dX3_countPlain_1 : decode cX3_countPlain 1 = .ok (.iload_n 2, 1) := by decide +kernel
theorem dX3_countPlain_2 : decode cX3_countPlain 2 = .ok (.iload_n 3, 1) := by decide +kernel
theorem dX3_countPlain_3 : decode cX3_countPlain 3 = .ok (.invokestatic 162, 3) := by decide +kernel
theorem dX3_countPlain_6 : decode cX3_countPlain 6 = .ok (.astore 4, 2) := by decide +kernel
theorem dX3_countPlain_8 : decode cX3_countPlain 8 = .ok (.iconst 0, 1) := by decide +kernel
theorem dX3_countPlain_9 : decode cX3_countPlain 9 = .ok (.istore 5, 2) := by decide +kernel
theorem dX3_countPlain_11 : decode cX3_countPlain 11 = .ok (.aload_n 0, 1) := by decide +kernel
theorem dX3_countPlain_12 : decode cX3_countPlain 12 = .ok (.getfield 24, 3) := by decide +kernel
theorem dX3_countPlain_15 : decode cX3_countPlain 15 = .ok (.astore 6, 2) := by decide +kernel
theorem dX3_countPlain_17 : decode cX3_countPlain 17 = .ok (.aload 6, 2) := by decide +kernel
theorem dX3_countPlain_19 : decode cX3_countPlain 19 = .ok (.arraylength, 1) := by decide +kernel
theorem dX3_countPlain_20 : decode cX3_countPlain 20 = .ok (.istore 7, 2) := by decide +kernel
theorem dX3_countPlain_22 : decode cX3_countPlain 22 = .ok (.iconst 0, 1) := by decide +kernel
theorem dX3_countPlain_23 : decode cX3_countPlain 23 = .ok (.istore 8, 2) := by decide +kernel
theorem dX3_countPlain_25 : decode cX3_countPlain 25 = .ok (.iload 8, 2) := by decide +kernel
theorem dX3_countPlain_27 : decode cX3_countPlain 27 = .ok (.iload 7, 2) := by decide +kernel
theorem dX3_countPlain_29 : decode cX3_countPlain 29 = .ok (.if_icmp .ge 42, 3) := by decide +kernel
theorem dX3_countPlain_32 : decode cX3_countPlain 32 = .ok (.aload 6, 2) := by decide +kernel
theorem dX3_countPlain_34 : decode cX3_countPlain 34 = .ok (.iload 8, 2) := by decide +kernel
theorem dX3_countPlain_36 : decode cX3_countPlain 36 = .ok (.aaload, 1) := by decide +kernel
theorem dX3_countPlain_37 : decode cX3_countPlain 37 = .ok (.astore 9, 2) := by decide +kernel
theorem dX3_countPlain_39 : decode cX3_countPlain 39 = .ok (.aload 9, 2) := by decide +kernel
theorem dX3_countPlain_41 : decode cX3_countPlain 41 = .ok (.ifnull 24, 3) := by decide +kernel
theorem dX3_countPlain_44 : decode cX3_countPlain 44 = .ok (.aload 9, 2) := by decide +kernel
theorem dX3_countPlain_46 : decode cX3_countPlain 46 = .ok (.invokevirtual 158, 3) := by decide +kernel
theorem dX3_countPlain_49 : decode cX3_countPlain 49 = .ok (.ifCond .eq 16, 3) := by decide +kernel
theorem dX3_countPlain_52 : decode cX3_countPlain 52 = .ok (.aload 9, 2) := by decide +kernel
theorem dX3_countPlain_54 : decode cX3_countPlain 54 = .ok (.aload 4, 2) := by decide +kernel
theorem dX3_countPlain_56 : decode cX3_countPlain 56 = .ok (.invokevirtual 170, 3) := by decide +kernel
theorem dX3_countPlain_59 : decode cX3_countPlain 59 = .ok (.ifCond .eq 6, 3) := by decide +kernel
theorem dX3_countPlain_62 : decode cX3_countPlain 62 = .ok (.iinc 5 1, 3) := by decide +kernel
theorem dX3_countPlain_65 : decode cX3_countPlain 65 = .ok (.iinc 8 1, 3) := by decide +kernel
theorem dX3_countPlain_68 : decode cX3_countPlain 68 = .ok (.goto (-43), 3) := by decide +kernel
theorem dX3_countPlain_71 : decode cX3_countPlain 71 = .ok (.iload 5, 2) := by decide +kernel
theorem dX3_countPlain_73 : decode cX3_countPlain 73 = .ok (.ireturn, 1) := by decide +kernel
set_option maxRecDepth 20000 in
theorem ggX3_read_X3_checkedQuestion : GoodIn wsX3_read wsX3_checkedQuestion := goodIn_ca (goodIn_r _ [5, 6, 7, 8, 9, 10, 11, 12, 4, 13, 14, 15, 16, 17, 18, 19, 20, 21, 22, 90, 91, 92] (by decide +kernel) (by decide +kernel)) (goodIn_sub (fun _ h => List.mem_cons_of_mem _ (List.mem_append_right _ h)) (by decide +kernel))
set_option maxRecDepth 20000 in
theorem gX3_read_X3_checkedQuestion : GoodIn wsX3_read (va_wsS RX3 162 yX3_checkedQuestion wsX3_checkedQuestion) := goodIn_app (goodIn_of _ (by decide +kernel)) ggX3_read_X3_checkedQuestion
set_option maxRecDepth 20000 in
theorem ggX3_read_X3_leavesThatMayMatter : GoodIn wsX3_read wsX3_leavesThatMayMatter := goodIn_r _ [26, 27, 28, 29, 30, 31, 32, 33, 34, 35, 36, 4, 37, 38, 39, 40, 41, 42, 43, 44, 45, 46, 47, 48, 49, 50, 51, 1, 52, 53, 54, 55, 56, 57, 58, 59, 60, 61, 62, 63, 64, 65, 66, 67, 68, 69, 70, 71, 72, 73, 74, 75, 76, 77, 78, 79, 80, 81, 82, 83, 93, 94, 95, 96, 97, 98, 90, 91, 92, 84, 85, 86, 87, 88, 89] (by decide +kernel) (by decide +kernel)
set_option maxRecDepth 20000 in
theorem gX3_read_X3_leavesThatMayMatter : GoodIn wsX3_read (wsV RX3 174 RX3 yX3_leavesThatMayMatter wsX3_leavesThatMayMatter) := goodIn_app (goodIn_of _ (by decide +kernel)) ggX3_read_X3_leavesThatMayMatter
theorem dX3_read_0 : decode cX3_read 0 = .ok (.iload_n 1, 1) := by decide +kernel
theorem dX3_read_1 : decode cX3_read 1 = .ok (.iload_n 2, 1) := by decide +kernel
theorem dX3_read_2 : decode cX3_read 2 = .ok (.iload_n 3, 1) := by decide +kernel
theorem dX3_read_3 : decode cX3_read 3 = .ok (.invokestatic 162, 3) := by decide +kernel
theorem dX3_read_6 : decode cX3_read 6 = .ok (.astore 4, 2) := by decide +kernel
theorem dX3_read_8 : decode cX3_read 8 = .ok (.iconst 0, 1) := by decide +kernel
theorem dX3_read_9 : decode cX3_read 9 = .ok (.istore 5, 2) := by decide +kernel
theorem dX3_read_11 : decode cX3_read 11 = .ok (.aload_n 0, 1) := by decide +kernel
theorem dX3_read_12 : decode cX3_read 12 = .ok (.getfield 18, 3) := by decide +kernel
theorem dX3_read_15 : decode cX3_read 15 = .ok (.astore 6, 2) := by decide +kernel
theorem dX3_read_17 : decode cX3_read 17 = .ok (.aload 6, 2) := by decide +kernel
theorem dX3_read_19 : decode cX3_read 19 = .ok (.arraylength, 1) := by decide +kernel
theorem dX3_read_20 : decode cX3_read 20 = .ok (.istore 7, 2) := by decide +kernel
theorem dX3_read_22 : decode cX3_read 22 = .ok (.iconst 0, 1) := by decide +kernel
theorem dX3_read_23 : decode cX3_read 23 = .ok (.istore 8, 2) := by decide +kernel
theorem dX3_read_25 : decode cX3_read 25 = .ok (.iload 8, 2) := by decide +kernel
theorem dX3_read_27 : decode cX3_read 27 = .ok (.iload 7, 2) := by decide +kernel
theorem dX3_read_29 : decode cX3_read 29 = .ok (.if_icmp .ge 34, 3) := by decide +kernel
theorem dX3_read_32 : decode cX3_read 32 = .ok (.aload 6, 2) := by decide +kernel
theorem dX3_read_34 : decode cX3_read 34 = .ok (.iload 8, 2) := by decide +kernel
theorem dX3_read_36 : decode cX3_read 36 = .ok (.aaload, 1) := by decide +kernel
theorem dX3_read_37 : decode cX3_read 37 = .ok (.astore 9, 2) := by decide +kernel
theorem dX3_read_39 : decode cX3_read 39 = .ok (.aload 9, 2) := by decide +kernel
theorem dX3_read_41 : decode cX3_read 41 = .ok (.ifnull 16, 3) := by decide +kernel
theorem dX3_read_44 : decode cX3_read 44 = .ok (.iload 5, 2) := by decide +kernel
theorem dX3_read_46 : decode cX3_read 46 = .ok (.aload_n 0, 1) := by decide +kernel
theorem dX3_read_47 : decode cX3_read 47 = .ok (.aload 9, 2) := by decide +kernel
theorem dX3_read_49 : decode cX3_read 49 = .ok (.aload 4, 2) := by decide +kernel
theorem dX3_read_51 : decode cX3_read 51 = .ok (.invokevirtual 174, 3) := by decide +kernel
theorem dX3_read_54 : decode cX3_read 54 = .ok (.iadd, 1) := by decide +kernel
theorem dX3_read_55 : decode cX3_read 55 = .ok (.istore 5, 2) := by decide +kernel
theorem dX3_read_57 : decode cX3_read 57 = .ok (.iinc 8 1, 3) := by decide +kernel
theorem dX3_read_60 : decode cX3_read 60 = .ok (.goto (-35), 3) := by decide +kernel
theorem dX3_read_63 : decode cX3_read 63 = .ok (.iload 5, 2) := by decide +kernel
theorem dX3_read_65 : decode cX3_read 65 = .ok (.ireturn, 1) := by decide +kernel
set_option maxRecDepth 20000 in
theorem ggX3_matters_X3_livingPartWithLeaf : GoodIn wsX3_matters wsX3_livingPartWithLeaf := goodIn_ca (goodIn_r _ [5, 6, 7, 8, 9, 10, 4, 11, 12, 13, 14, 15, 16, 17, 18, 19, 20, 21, 22, 23, 24, 94, 95, 96, 97, 98, 99, 100, 101, 102, 103, 104, 105] (by decide +kernel) (by decide +kernel)) (goodIn_sub (fun _ h => List.mem_cons_of_mem _ (List.mem_append_left _ (List.mem_append_right _ h))) (by decide +kernel))
set_option maxRecDepth 20000 in
theorem gX3_matters_X3_livingPartWithLeaf : GoodIn wsX3_matters (wsV RX3 150 RX3 yX3_livingPartWithLeaf wsX3_livingPartWithLeaf) := goodIn_app (goodIn_of _ (by decide +kernel)) ggX3_matters_X3_livingPartWithLeaf
set_option maxRecDepth 20000 in
theorem ggX3_matters_X3_checkedQuestion : GoodIn wsX3_matters wsX3_checkedQuestion := goodIn_ca (goodIn_r _ [27, 28, 29, 30, 31, 32, 33, 34, 4, 35, 36, 37, 38, 39, 40, 41, 42, 43, 44, 106, 107, 108] (by decide +kernel) (by decide +kernel)) (goodIn_sub (fun _ h => List.mem_cons_of_mem _ (List.mem_append_right _ h)) (by decide +kernel))
set_option maxRecDepth 20000 in
theorem gX3_matters_X3_checkedQuestion : GoodIn wsX3_matters (va_wsS RX3 162 yX3_checkedQuestion wsX3_checkedQuestion) := goodIn_app (goodIn_of _ (by decide +kernel)) ggX3_matters_X3_checkedQuestion
set_option maxRecDepth 20000 in
theorem ggX3_matters_X3_mayMatter : GoodIn wsX3_matters wsX3_mayMatter := goodIn_r _ [48, 12, 49, 50, 51, 52, 53, 54, 55, 4, 56, 57, 58, 59, 60, 61, 17, 62, 63, 64, 21, 65, 66, 67, 68, 69, 70, 71, 72, 73, 74, 75, 76, 77, 78, 79, 80, 23, 81, 82, 83, 84, 85, 24, 86, 87, 88, 89, 90, 91, 92, 93, 94, 95, 96, 97, 98, 99, 106, 107, 108, 100, 101, 102, 103, 104, 105] (by decide +kernel) (by decide +kernel)
set_option maxRecDepth 20000 in
theorem gX3_matters_X3_mayMatter : GoodIn wsX3_matters (wsV RX3 177 RX3 yX3_mayMatter wsX3_mayMatter) := goodIn_app (goodIn_of _ (by decide +kernel)) ggX3_matters_X3_mayMatter
theorem dX3_matters_0 : decode cX3_matters 0 = .ok (.aload_n 0, 1) := by decide +kernel
theorem dX3_matters_1 : decode cX3_matters 1 = .ok (.iload_n 1, 1) := by decide +kernel
theorem dX3_matters_2 : decode cX3_matters 2 = .ok (.iload_n 2, 1) := by decide +kernel
theorem dX3_matters_3 : decode cX3_matters 3 = .ok (.invokevirtual 150, 3) := by decide +kernel
theorem dX3_matters_6 : decode cX3_matters 6 = .ok (.astore 6, 2) := by decide +kernel
theorem dX3_matters_8 : decode cX3_matters 8 = .ok (.aload_n 0, 1) := by decide +kernel
theorem dX3_matters_9 : decode cX3_matters 9 = .ok (.aload 6, 2) := by decide +kernel
theorem dX3_matters_11 : decode cX3_matters 11 = .ok (.iload_n 2, 1) := by decide +kernel
theorem dX3_matters_12 : decode cX3_matters 12 = .ok (.iload_n 3, 1) := by decide +kernel
theorem dX3_matters_13 : decode cX3_matters 13 = .ok (.iload 4, 2) := by decide +kernel
theorem dX3_matters_15 : decode cX3_matters 15 = .ok (.iload 5, 2) := by decide +kernel
theorem dX3_matters_17 : decode cX3_matters 17 = .ok (.invokestatic 162, 3) := by decide +kernel
theorem dX3_matters_20 : decode cX3_matters 20 = .ok (.invokevirtual 177, 3) := by decide +kernel
theorem dX3_matters_23 : decode cX3_matters 23 = .ok (.ireturn, 1) := by decide +kernel
theorem dX3_isStale_0 : decode cX3_isStale 0 = .ok (.aload_n 0, 1) := by decide +kernel
theorem dX3_isStale_1 : decode cX3_isStale 1 = .ok (.getfield 90, 3) := by decide +kernel
theorem dX3_isStale_4 : decode cX3_isStale 4 = .ok (.ireturn, 1) := by decide +kernel
set_option maxRecDepth 20000 in
theorem ggX3_buildIndex_X3_rows : GoodIn wsX3_buildIndex wsX3_rows := goodIn_r _ [6, 7, 8, 9, 10, 11, 12, 13, 14, 15, 16, 17, 18, 19, 20, 21, 22, 23, 24, 25, 26, 27, 28, 29, 30] (by decide +kernel) (by decide +kernel)
set_option maxRecDepth 20000 in
theorem gX3_buildIndex_X3_rows : GoodIn wsX3_buildIndex (wsV RX3 181 RX3 yX3_rows wsX3_rows) := goodIn_app (goodIn_of _ (by decide +kernel)) ggX3_buildIndex_X3_rows
theorem dX3_buildIndex_0 : decode cX3_buildIndex 0 = .ok (.aload_n 0, 1) := by decide +kernel
theorem dX3_buildIndex_1 : decode cX3_buildIndex 1 = .ok (.iconst 0, 1) := by decide +kernel
theorem dX3_buildIndex_2 : decode cX3_buildIndex 2 = .ok (.putfield 90, 3) := by decide +kernel
theorem dX3_buildIndex_5 : decode cX3_buildIndex 5 = .ok (.aload_n 0, 1) := by decide +kernel
theorem dX3_buildIndex_6 : decode cX3_buildIndex 6 = .ok (.invokevirtual 181, 3) := by decide +kernel
theorem dX3_buildIndex_9 : decode cX3_buildIndex 9 = .ok (.ireturn, 1) := by decide +kernel
set_option maxRecDepth 20000 in
theorem ggX3_find_X3_checkValue : GoodIn wsX3_find wsX3_checkValue := goodIn_ca (goodIn_r _ [9, 10, 11] (by decide +kernel) (by decide +kernel)) (goodIn_sub (fun _ h => List.mem_cons_of_mem _ (List.mem_append_right _ h)) (by decide +kernel))
set_option maxRecDepth 20000 in
theorem gX3_find_X3_checkValue : GoodIn wsX3_find (va_wsS RX3 110 yX3_checkValue wsX3_checkValue) := goodIn_app (goodIn_of _ (by decide +kernel)) ggX3_find_X3_checkValue
set_option maxRecDepth 20000 in
theorem ggX3_find_X2_isInTable : GoodIn wsX3_find wsX2_isInTable := goodIn_r _ [16, 17, 18, 25, 26, 27, 28, 29, 30, 31, 32, 33, 34] (by decide +kernel) (by decide +kernel)
set_option maxRecDepth 20000 in
theorem gX3_find_X2_isInTable : GoodIn wsX3_find (wsV RX3 158 RX2 yX2_isInTable wsX2_isInTable) := goodIn_app (goodIn_of _ (by decide +kernel)) ggX3_find_X2_isInTable
theorem dX3_find_0 : decode cX3_find 0 = .ok (.iload_n 1, 1) := by decide +kernel
theorem dX3_find_1 : decode cX3_find 1 = .ok (.invokestatic 110, 3) := by decide +kernel
theorem dX3_find_4 : decode cX3_find 4 = .ok (.aload_n 0, 1) := by decide +kernel
theorem dX3_find_5 : decode cX3_find 5 = .ok (.getfield 90, 3) := by decide +kernel
theorem dX3_find_8 : decode cX3_find 8 = .ok (.ifCond .eq 13, 3) := by decide +kernel
theorem dX3_find_11 : decode cX3_find 11 = .ok (.new 80, 3) := by decide +kernel
theorem dX3_find_14 : decode cX3_find 14 = .ok (.dup, 1) := by decide +kernel
theorem dX3_find_15 : decode cX3_find 15 = .ok (.ldc 184, 2) := by decide +kernel
theorem dX3_find_17 : decode cX3_find 17 = .ok (.invokespecial 84, 3) := by decide +kernel
theorem dX3_find_20 : decode cX3_find 20 = .ok (.athrow, 1) := by decide +kernel
theorem dX3_find_21 : decode cX3_find 21 = .ok (.iconst 0, 1) := by decide +kernel
theorem dX3_find_22 : decode cX3_find 22 = .ok (.istore_n 2, 1) := by decide +kernel
theorem dX3_find_23 : decode cX3_find 23 = .ok (.aload_n 0, 1) := by decide +kernel
theorem dX3_find_24 : decode cX3_find 24 = .ok (.getfield 24, 3) := by decide +kernel
theorem dX3_find_27 : decode cX3_find 27 = .ok (.astore_n 3, 1) := by decide +kernel
theorem dX3_find_28 : decode cX3_find 28 = .ok (.aload_n 3, 1) := by decide +kernel
theorem dX3_find_29 : decode cX3_find 29 = .ok (.arraylength, 1) := by decide +kernel
theorem dX3_find_30 : decode cX3_find 30 = .ok (.istore 4, 2) := by decide +kernel
theorem dX3_find_32 : decode cX3_find 32 = .ok (.iconst 0, 1) := by decide +kernel
theorem dX3_find_33 : decode cX3_find 33 = .ok (.istore 5, 2) := by decide +kernel
theorem dX3_find_35 : decode cX3_find 35 = .ok (.iload 5, 2) := by decide +kernel
theorem dX3_find_37 : decode cX3_find 37 = .ok (.iload 4, 2) := by decide +kernel
theorem dX3_find_39 : decode cX3_find 39 = .ok (.if_icmp .ge 40, 3) := by decide +kernel
theorem dX3_find_42 : decode cX3_find 42 = .ok (.aload_n 3, 1) := by decide +kernel
theorem dX3_find_43 : decode cX3_find 43 = .ok (.iload 5, 2) := by decide +kernel
theorem dX3_find_45 : decode cX3_find 45 = .ok (.aaload, 1) := by decide +kernel
theorem dX3_find_46 : decode cX3_find 46 = .ok (.astore 6, 2) := by decide +kernel
theorem dX3_find_48 : decode cX3_find 48 = .ok (.aload 6, 2) := by decide +kernel
theorem dX3_find_50 : decode cX3_find 50 = .ok (.ifnull 23, 3) := by decide +kernel
theorem dX3_find_53 : decode cX3_find 53 = .ok (.aload 6, 2) := by decide +kernel
theorem dX3_find_55 : decode cX3_find 55 = .ok (.invokevirtual 158, 3) := by decide +kernel
theorem dX3_find_58 : decode cX3_find 58 = .ok (.ifCond .eq 15, 3) := by decide +kernel
theorem dX3_find_61 : decode cX3_find 61 = .ok (.aload 6, 2) := by decide +kernel
theorem dX3_find_63 : decode cX3_find 63 = .ok (.getfield 141, 3) := by decide +kernel
theorem dX3_find_66 : decode cX3_find 66 = .ok (.iload_n 1, 1) := by decide +kernel
theorem dX3_find_67 : decode cX3_find 67 = .ok (.if_icmp .ne 6, 3) := by decide +kernel
theorem dX3_find_70 : decode cX3_find 70 = .ok (.iinc 2 1, 3) := by decide +kernel
theorem dX3_find_73 : decode cX3_find 73 = .ok (.iinc 5 1, 3) := by decide +kernel
theorem dX3_find_76 : decode cX3_find 76 = .ok (.goto (-41), 3) := by decide +kernel
theorem dX3_find_79 : decode cX3_find 79 = .ok (.iload_n 2, 1) := by decide +kernel
theorem dX3_find_80 : decode cX3_find 80 = .ok (.ireturn, 1) := by decide +kernel
set_option maxRecDepth 20000 in
theorem ggX3_findIn_X3_livingPart : GoodIn wsX3_findIn wsX3_livingPart := goodIn_ca (goodIn_r _ [8, 9, 10, 11, 12, 13, 14, 7, 15, 16, 32, 33, 34, 35, 36, 37, 22, 23, 24, 25, 26, 27] (by decide +kernel) (by decide +kernel)) (goodIn_sub (fun _ h => List.mem_cons_of_mem _ (List.mem_append_left _ (List.mem_append_right _ h))) (by decide +kernel))
set_option maxRecDepth 20000 in
theorem gX3_findIn_X3_livingPart : GoodIn wsX3_findIn (wsV RX3 186 RX3 yX3_livingPart wsX3_livingPart) := goodIn_app (goodIn_of _ (by decide +kernel)) ggX3_findIn_X3_livingPart
set_option maxRecDepth 20000 in
theorem ggX3_findIn_X3_checkValue : GoodIn wsX3_findIn wsX3_checkValue := goodIn_ca (goodIn_r _ [19, 20, 21] (by decide +kernel) (by decide +kernel)) (goodIn_sub (fun _ h => List.mem_cons_of_mem _ (List.mem_append_right _ h)) (by decide +kernel))
set_option maxRecDepth 20000 in
theorem gX3_findIn_X3_checkValue : GoodIn wsX3_findIn (va_wsS RX3 110 yX3_checkValue wsX3_checkValue) := goodIn_app (goodIn_of _ (by decide +kernel)) ggX3_findIn_X3_checkValue
theorem dX3_findIn_0 : decode cX3_findIn 0 = .ok (.aload_n 0, 1) := by decide +kernel
theorem dX3_findIn_1 : decode cX3_findIn 1 = .ok (.iload_n 1, 1) := by decide +kernel
theorem dX3_findIn_2 : decode cX3_findIn 2 = .ok (.invokevirtual 186, 3) := by decide +kernel
theorem dX3_findIn_5 : decode cX3_findIn 5 = .ok (.astore_n 3, 1) := by decide +kernel
theorem dX3_findIn_6 : decode cX3_findIn 6 = .ok (.iload_n 2, 1) := by decide +kernel
theorem dX3_findIn_7 : decode cX3_findIn 7 = .ok (.invokestatic 110, 3) := by decide +kernel
theorem dX3_findIn_10 : decode cX3_findIn 10 = .ok (.iconst 0, 1) := by decide +kernel
theorem dX3_findIn_11 : decode cX3_findIn 11 = .ok (.istore 4, 2) := by decide +kernel
theorem dX3_findIn_13 : decode cX3_findIn 13 = .ok (.aload_n 0, 1) := by decide +kernel
theorem dX3_findIn_14 : decode cX3_findIn 14 = .ok (.getfield 24, 3) := by decide +kernel
theorem dX3_findIn_17 : decode cX3_findIn 17 = .ok (.astore 5, 2) := by decide +kernel
theorem dX3_findIn_19 : decode cX3_findIn 19 = .ok (.aload 5, 2) := by decide +kernel
theorem dX3_findIn_21 : decode cX3_findIn 21 = .ok (.arraylength, 1) := by decide +kernel
theorem dX3_findIn_22 : decode cX3_findIn 22 = .ok (.istore 6, 2) := by decide +kernel
theorem dX3_findIn_24 : decode cX3_findIn 24 = .ok (.iconst 0, 1) := by decide +kernel
theorem dX3_findIn_25 : decode cX3_findIn 25 = .ok (.istore 7, 2) := by decide +kernel
theorem dX3_findIn_27 : decode cX3_findIn 27 = .ok (.iload 7, 2) := by decide +kernel
theorem dX3_findIn_29 : decode cX3_findIn 29 = .ok (.iload 6, 2) := by decide +kernel
theorem dX3_findIn_31 : decode cX3_findIn 31 = .ok (.if_icmp .ge 42, 3) := by decide +kernel
theorem dX3_findIn_34 : decode cX3_findIn 34 = .ok (.aload 5, 2) := by decide +kernel
theorem dX3_findIn_36 : decode cX3_findIn 36 = .ok (.iload 7, 2) := by decide +kernel
theorem dX3_findIn_38 : decode cX3_findIn 38 = .ok (.aaload, 1) := by decide +kernel
theorem dX3_findIn_39 : decode cX3_findIn 39 = .ok (.astore 8, 2) := by decide +kernel
theorem dX3_findIn_41 : decode cX3_findIn 41 = .ok (.aload 8, 2) := by decide +kernel
theorem dX3_findIn_43 : decode cX3_findIn 43 = .ok (.ifnull 24, 3) := by decide +kernel
theorem dX3_findIn_46 : decode cX3_findIn 46 = .ok (.aload 8, 2) := by decide +kernel
theorem dX3_findIn_48 : decode cX3_findIn 48 = .ok (.getfield 128, 3) := by decide +kernel
theorem dX3_findIn_51 : decode cX3_findIn 51 = .ok (.aload_n 3, 1) := by decide +kernel
theorem dX3_findIn_52 : decode cX3_findIn 52 = .ok (.if_acmp .ne 15, 3) := by decide +kernel
theorem dX3_findIn_55 : decode cX3_findIn 55 = .ok (.aload 8, 2) := by decide +kernel
theorem dX3_findIn_57 : decode cX3_findIn 57 = .ok (.getfield 141, 3) := by decide +kernel
theorem dX3_findIn_60 : decode cX3_findIn 60 = .ok (.iload_n 2, 1) := by decide +kernel
theorem dX3_findIn_61 : decode cX3_findIn 61 = .ok (.if_icmp .ne 6, 3) := by decide +kernel
theorem dX3_findIn_64 : decode cX3_findIn 64 = .ok (.iinc 4 1, 3) := by decide +kernel
theorem dX3_findIn_67 : decode cX3_findIn 67 = .ok (.iinc 7 1, 3) := by decide +kernel
theorem dX3_findIn_70 : decode cX3_findIn 70 = .ok (.goto (-43), 3) := by decide +kernel
theorem dX3_findIn_73 : decode cX3_findIn 73 = .ok (.iload 4, 2) := by decide +kernel
theorem dX3_findIn_75 : decode cX3_findIn 75 = .ok (.ireturn, 1) := by decide +kernel
end
section
theorem dX3_checkKey_0 : decode cX3_checkKey 0 = .ok (.iload_n 0, 1) := by decide +kernel
theorem dX3_checkKey_1 : decode cX3_checkKey 1 = .ok (.ifCond .lt 10, 3) := by decide +kernel
theorem dX3_checkKey_4 : decode cX3_checkKey 4 = .ok (.iload_n 0, 1) := by decide +kernel
theorem dX3_checkKey_5 : decode cX3_checkKey 5 = .ok (.sipush 1000, 3) := by decide +kernel
theorem dX3_checkKey_8 : decode cX3_checkKey 8 = .ok (.if_icmp .lt 13, 3) := by decide +kernel
theorem dX3_checkKey_11 : decode cX3_checkKey 11 = .ok (.new 64, 3) := by decide +kernel
theorem dX3_checkKey_14 : decode cX3_checkKey 14 = .ok (.dup, 1) := by decide +kernel
theorem dX3_checkKey_15 : decode cX3_checkKey 15 = .ok (.ldc 189, 2) := by decide +kernel
theorem dX3_checkKey_17 : decode cX3_checkKey 17 = .ok (.invokespecial 68, 3) := by decide +kernel
theorem dX3_checkKey_20 : decode cX3_checkKey 20 = .ok (.athrow, 1) := by decide +kernel
theorem dX3_checkKey_21 : decode cX3_checkKey 21 = .ok (.return_, 1) := by decide +kernel
theorem dX3_checkSort_0 : decode cX3_checkSort 0 = .ok (.iload_n 0, 1) := by decide +kernel
theorem dX3_checkSort_1 : decode cX3_checkSort 1 = .ok (.ifCond .lt 9, 3) := by decide +kernel
theorem dX3_checkSort_4 : decode cX3_checkSort 4 = .ok (.iload_n 0, 1) := by decide +kernel
theorem dX3_checkSort_5 : decode cX3_checkSort 5 = .ok (.bipush 10, 2) := by decide +kernel
theorem dX3_checkSort_7 : decode cX3_checkSort 7 = .ok (.if_icmp .lt 13, 3) := by decide +kernel
theorem dX3_checkSort_10 : decode cX3_checkSort 10 = .ok (.new 64, 3) := by decide +kernel
theorem dX3_checkSort_13 : decode cX3_checkSort 13 = .ok (.dup, 1) := by decide +kernel
theorem dX3_checkSort_14 : decode cX3_checkSort 14 = .ok (.ldc 191, 2) := by decide +kernel
theorem dX3_checkSort_16 : decode cX3_checkSort 16 = .ok (.invokespecial 68, 3) := by decide +kernel
theorem dX3_checkSort_19 : decode cX3_checkSort 19 = .ok (.athrow, 1) := by decide +kernel
theorem dX3_checkSort_20 : decode cX3_checkSort 20 = .ok (.return_, 1) := by decide +kernel
theorem dX3_checkValue_0 : decode cX3_checkValue 0 = .ok (.iload_n 0, 1) := by decide +kernel
theorem dX3_checkValue_1 : decode cX3_checkValue 1 = .ok (.ifCond .lt 9, 3) := by decide +kernel
theorem dX3_checkValue_4 : decode cX3_checkValue 4 = .ok (.iload_n 0, 1) := by decide +kernel
theorem dX3_checkValue_5 : decode cX3_checkValue 5 = .ok (.bipush 100, 2) := by decide +kernel
theorem dX3_checkValue_7 : decode cX3_checkValue 7 = .ok (.if_icmp .lt 13, 3) := by decide +kernel
theorem dX3_checkValue_10 : decode cX3_checkValue 10 = .ok (.new 64, 3) := by decide +kernel
theorem dX3_checkValue_13 : decode cX3_checkValue 13 = .ok (.dup, 1) := by decide +kernel
theorem dX3_checkValue_14 : decode cX3_checkValue 14 = .ok (.ldc 193, 2) := by decide +kernel
theorem dX3_checkValue_16 : decode cX3_checkValue 16 = .ok (.invokespecial 68, 3) := by decide +kernel
theorem dX3_checkValue_19 : decode cX3_checkValue 19 = .ok (.athrow, 1) := by decide +kernel
theorem dX3_checkValue_20 : decode cX3_checkValue 20 = .ok (.return_, 1) := by decide +kernel
set_option maxRecDepth 20000 in
theorem ggX3_checkRange_X3_checkKey : GoodIn wsX3_checkRange wsX3_checkKey := goodIn_ca (goodIn_r _ [6, 1, 2] (by decide +kernel) (by decide +kernel)) (goodIn_sub (fun _ h => List.mem_cons_of_mem _ (List.mem_append_right _ h)) (by decide +kernel))
set_option maxRecDepth 20000 in
theorem gX3_checkRange_X3_checkKey : GoodIn wsX3_checkRange (va_wsS RX3 103 yX3_checkKey wsX3_checkKey) := goodIn_app (goodIn_of _ (by decide +kernel)) ggX3_checkRange_X3_checkKey
theorem dX3_checkRange_0 : decode cX3_checkRange 0 = .ok (.iload_n 0, 1) := by decide +kernel
theorem dX3_checkRange_1 : decode cX3_checkRange 1 = .ok (.invokestatic 103, 3) := by decide +kernel
theorem dX3_checkRange_4 : decode cX3_checkRange 4 = .ok (.iload_n 1, 1) := by decide +kernel
theorem dX3_checkRange_5 : decode cX3_checkRange 5 = .ok (.iload_n 0, 1) := by decide +kernel
theorem dX3_checkRange_6 : decode cX3_checkRange 6 = .ok (.if_icmp .le 10, 3) := by decide +kernel
theorem dX3_checkRange_9 : decode cX3_checkRange 9 = .ok (.iload_n 1, 1) := by decide +kernel
theorem dX3_checkRange_10 : decode cX3_checkRange 10 = .ok (.sipush 1000, 3) := by decide +kernel
theorem dX3_checkRange_13 : decode cX3_checkRange 13 = .ok (.if_icmp .le 13, 3) := by decide +kernel
theorem dX3_checkRange_16 : decode cX3_checkRange 16 = .ok (.new 64, 3) := by decide +kernel
theorem dX3_checkRange_19 : decode cX3_checkRange 19 = .ok (.dup, 1) := by decide +kernel
theorem dX3_checkRange_20 : decode cX3_checkRange 20 = .ok (.ldc 195, 2) := by decide +kernel
theorem dX3_checkRange_22 : decode cX3_checkRange 22 = .ok (.invokespecial 68, 3) := by decide +kernel
theorem dX3_checkRange_25 : decode cX3_checkRange 25 = .ok (.athrow, 1) := by decide +kernel
theorem dX3_checkRange_26 : decode cX3_checkRange 26 = .ok (.return_, 1) := by decide +kernel
set_option maxRecDepth 20000 in
theorem ggX3_checkKind_X3_leastDetail : GoodIn wsX3_checkKind wsX3_leastDetail := goodIn_r _ [6] (by decide +kernel) (by decide +kernel)
set_option maxRecDepth 20000 in
theorem gX3_checkKind_X3_leastDetail : GoodIn wsX3_checkKind (va_wsS RX3 199 yX3_leastDetail wsX3_leastDetail) := goodIn_app (goodIn_of _ (by decide +kernel)) ggX3_checkKind_X3_leastDetail
set_option maxRecDepth 20000 in
theorem ggX3_checkKind_X3_mostDetail : GoodIn wsX3_checkKind wsX3_mostDetail := goodIn_r _ [9] (by decide +kernel) (by decide +kernel)
set_option maxRecDepth 20000 in
theorem gX3_checkKind_X3_mostDetail : GoodIn wsX3_checkKind (va_wsS RX3 203 yX3_mostDetail wsX3_mostDetail) := goodIn_app (goodIn_of _ (by decide +kernel)) ggX3_checkKind_X3_mostDetail
theorem dX3_checkKind_0 : decode cX3_checkKind 0 = .ok (.iload_n 0, 1) := by decide +kernel
theorem dX3_checkKind_1 : decode cX3_checkKind 1 = .ok (.ifCond .eq 23, 3) := by decide +kernel
theorem dX3_checkKind_4 : decode cX3_checkKind 4 = .ok (.iload_n 0, 1) := by decide +kernel
theorem dX3_checkKind_5 : decode cX3_checkKind 5 = .ok (.iconst 1, 1) := by decide +kernel
theorem dX3_checkKind_6 : decode cX3_checkKind 6 = .ok (.if_icmp .eq 18, 3) := by decide +kernel
theorem dX3_checkKind_9 : decode cX3_checkKind 9 = .ok (.iload_n 0, 1) := by decide +kernel
theorem dX3_checkKind_10 : decode cX3_checkKind 10 = .ok (.iconst 2, 1) := by decide +kernel
theorem dX3_checkKind_11 : decode cX3_checkKind 11 = .ok (.if_icmp .eq 13, 3) := by decide +kernel
theorem dX3_checkKind_14 : decode cX3_checkKind 14 = .ok (.new 64, 3) := by decide +kernel
theorem dX3_checkKind_17 : decode cX3_checkKind 17 = .ok (.dup, 1) := by decide +kernel
theorem dX3_checkKind_18 : decode cX3_checkKind 18 = .ok (.ldc 197, 2) := by decide +kernel
theorem dX3_checkKind_20 : decode cX3_checkKind 20 = .ok (.invokespecial 68, 3) := by decide +kernel
theorem dX3_checkKind_23 : decode cX3_checkKind 23 = .ok (.athrow, 1) := by decide +kernel
theorem dX3_checkKind_24 : decode cX3_checkKind 24 = .ok (.iload_n 1, 1) := by decide +kernel
theorem dX3_checkKind_25 : decode cX3_checkKind 25 = .ok (.iload_n 0, 1) := by decide +kernel
theorem dX3_checkKind_26 : decode cX3_checkKind 26 = .ok (.invokestatic 199, 3) := by decide +kernel
theorem dX3_checkKind_29 : decode cX3_checkKind 29 = .ok (.if_icmp .lt 11, 3) := by decide +kernel
theorem dX3_checkKind_32 : decode cX3_checkKind 32 = .ok (.iload_n 1, 1) := by decide +kernel
theorem dX3_checkKind_33 : decode cX3_checkKind 33 = .ok (.iload_n 0, 1) := by decide +kernel
theorem dX3_checkKind_34 : decode cX3_checkKind 34 = .ok (.invokestatic 203, 3) := by decide +kernel
theorem dX3_checkKind_37 : decode cX3_checkKind 37 = .ok (.if_icmp .le 13, 3) := by decide +kernel
theorem dX3_checkKind_40 : decode cX3_checkKind 40 = .ok (.new 64, 3) := by decide +kernel
theorem dX3_checkKind_43 : decode cX3_checkKind 43 = .ok (.dup, 1) := by decide +kernel
theorem dX3_checkKind_44 : decode cX3_checkKind 44 = .ok (.ldc 206, 2) := by decide +kernel
theorem dX3_checkKind_46 : decode cX3_checkKind 46 = .ok (.invokespecial 68, 3) := by decide +kernel
theorem dX3_checkKind_49 : decode cX3_checkKind 49 = .ok (.athrow, 1) := by decide +kernel
theorem dX3_checkKind_50 : decode cX3_checkKind 50 = .ok (.return_, 1) := by decide +kernel
theorem dX3_leastDetail_0 : decode cX3_leastDetail 0 = .ok (.iload_n 0, 1) := by decide +kernel
theorem dX3_leastDetail_1 : decode cX3_leastDetail 1 = .ok (.ifCond .ne 7, 3) := by decide +kernel
theorem dX3_leastDetail_4 : decode cX3_leastDetail 4 = .ok (.iconst 0, 1) := by decide +kernel
theorem dX3_leastDetail_5 : decode cX3_leastDetail 5 = .ok (.goto 4, 3) := by decide +kernel
theorem dX3_leastDetail_8 : decode cX3_leastDetail 8 = .ok (.iconst 1, 1) := by decide +kernel
theorem dX3_leastDetail_9 : decode cX3_leastDetail 9 = .ok (.ireturn, 1) := by decide +kernel
theorem dX3_mostDetail_0 : decode cX3_mostDetail 0 = .ok (.iload_n 0, 1) := by decide +kernel
theorem dX3_mostDetail_1 : decode cX3_mostDetail 1 = .ok (.lookupswitch 33 #[(1, 27), (2, 31)], 27) := by decide +kernel
theorem dX3_mostDetail_28 : decode cX3_mostDetail 28 = .ok (.sipush 1022, 3) := by decide +kernel
theorem dX3_mostDetail_31 : decode cX3_mostDetail 31 = .ok (.ireturn, 1) := by decide +kernel
theorem dX3_mostDetail_32 : decode cX3_mostDetail 32 = .ok (.iconst 5, 1) := by decide +kernel
theorem dX3_mostDetail_33 : decode cX3_mostDetail 33 = .ok (.ireturn, 1) := by decide +kernel
theorem dX3_mostDetail_34 : decode cX3_mostDetail 34 = .ok (.iconst 0, 1) := by decide +kernel
theorem dX3_mostDetail_35 : decode cX3_mostDetail 35 = .ok (.ireturn, 1) := by decide +kernel
set_option maxRecDepth 20000 in
theorem ggX3_checkedQuestion_X3_checkKey : GoodIn wsX3_checkedQuestion wsX3_checkKey := goodIn_ca (goodIn_r _ [9, 1, 2] (by decide +kernel) (by decide +kernel)) (goodIn_sub (fun _ h => List.mem_cons_of_mem _ (List.mem_append_right _ h)) (by decide +kernel))
set_option maxRecDepth 20000 in
theorem gX3_checkedQuestion_X3_checkKey : GoodIn wsX3_checkedQuestion (va_wsS RX3 103 yX3_checkKey wsX3_checkKey) := goodIn_app (goodIn_of _ (by decide +kernel)) ggX3_checkedQuestion_X3_checkKey
set_option maxRecDepth 20000 in
theorem ggX3_checkedQuestion_X1_init : GoodIn wsX3_checkedQuestion wsX1_init := goodIn_r _ [12, 13, 14, 15, 16, 17, 18, 19, 20, 21] (by decide +kernel) (by decide +kernel)
set_option maxRecDepth 20000 in
theorem gX3_checkedQuestion_X1_init : GoodIn wsX3_checkedQuestion (wsX1_init) := ggX3_checkedQuestion_X1_init
theorem dX3_checkedQuestion_0 : decode cX3_checkedQuestion 0 = .ok (.iload_n 0, 1) := by decide +kernel
theorem dX3_checkedQuestion_1 : decode cX3_checkedQuestion 1 = .ok (.invokestatic 103, 3) := by decide +kernel
theorem dX3_checkedQuestion_4 : decode cX3_checkedQuestion 4 = .ok (.iload_n 1, 1) := by decide +kernel
theorem dX3_checkedQuestion_5 : decode cX3_checkedQuestion 5 = .ok (.iload_n 0, 1) := by decide +kernel
theorem dX3_checkedQuestion_6 : decode cX3_checkedQuestion 6 = .ok (.if_icmp .lt 10, 3) := by decide +kernel
theorem dX3_checkedQuestion_9 : decode cX3_checkedQuestion 9 = .ok (.iload_n 1, 1) := by decide +kernel
theorem dX3_checkedQuestion_10 : decode cX3_checkedQuestion 10 = .ok (.sipush 1000, 3) := by decide +kernel
theorem dX3_checkedQuestion_13 : decode cX3_checkedQuestion 13 = .ok (.if_icmp .lt 13, 3) := by decide +kernel
theorem dX3_checkedQuestion_16 : decode cX3_checkedQuestion 16 = .ok (.new 64, 3) := by decide +kernel
theorem dX3_checkedQuestion_19 : decode cX3_checkedQuestion 19 = .ok (.dup, 1) := by decide +kernel
theorem dX3_checkedQuestion_20 : decode cX3_checkedQuestion 20 = .ok (.ldc 208, 2) := by decide +kernel
theorem dX3_checkedQuestion_22 : decode cX3_checkedQuestion 22 = .ok (.invokespecial 68, 3) := by decide +kernel
theorem dX3_checkedQuestion_25 : decode cX3_checkedQuestion 25 = .ok (.athrow, 1) := by decide +kernel
theorem dX3_checkedQuestion_26 : decode cX3_checkedQuestion 26 = .ok (.iload_n 2, 1) := by decide +kernel
theorem dX3_checkedQuestion_27 : decode cX3_checkedQuestion 27 = .ok (.ifCond .lt 10, 3) := by decide +kernel
theorem dX3_checkedQuestion_30 : decode cX3_checkedQuestion 30 = .ok (.iload_n 2, 1) := by decide +kernel
theorem dX3_checkedQuestion_31 : decode cX3_checkedQuestion 31 = .ok (.sipush 1023, 3) := by decide +kernel
theorem dX3_checkedQuestion_34 : decode cX3_checkedQuestion 34 = .ok (.if_icmp .le 13, 3) := by decide +kernel
theorem dX3_checkedQuestion_37 : decode cX3_checkedQuestion 37 = .ok (.new 64, 3) := by decide +kernel
theorem dX3_checkedQuestion_40 : decode cX3_checkedQuestion 40 = .ok (.dup, 1) := by decide +kernel
theorem dX3_checkedQuestion_41 : decode cX3_checkedQuestion 41 = .ok (.ldc 210, 2) := by decide +kernel
theorem dX3_checkedQuestion_43 : decode cX3_checkedQuestion 43 = .ok (.invokespecial 68, 3) := by decide +kernel
theorem dX3_checkedQuestion_46 : decode cX3_checkedQuestion 46 = .ok (.athrow, 1) := by decide +kernel
theorem dX3_checkedQuestion_47 : decode cX3_checkedQuestion 47 = .ok (.new 212, 3) := by decide +kernel
theorem dX3_checkedQuestion_50 : decode cX3_checkedQuestion 50 = .ok (.dup, 1) := by decide +kernel
theorem dX3_checkedQuestion_51 : decode cX3_checkedQuestion 51 = .ok (.iload_n 0, 1) := by decide +kernel
theorem dX3_checkedQuestion_52 : decode cX3_checkedQuestion 52 = .ok (.iload_n 1, 1) := by decide +kernel
theorem dX3_checkedQuestion_53 : decode cX3_checkedQuestion 53 = .ok (.iload_n 2, 1) := by decide +kernel
theorem dX3_checkedQuestion_54 : decode cX3_checkedQuestion 54 = .ok (.invokespecial 214, 3) := by decide +kernel
theorem dX3_checkedQuestion_57 : decode cX3_checkedQuestion 57 = .ok (.areturn, 1) := by decide +kernel
theorem dX3_knownPart_0 : decode cX3_knownPart 0 = .ok (.iload_n 1, 1) := by decide +kernel
theorem dX3_knownPart_1 : decode cX3_knownPart 1 = .ok (.ifCond .lt 21, 3) := by decide +kernel
theorem dX3_knownPart_4 : decode cX3_knownPart 4 = .ok (.iload_n 1, 1) := by decide +kernel
theorem dX3_knownPart_5 : decode cX3_knownPart 5 = .ok (.aload_n 0, 1) := by decide +kernel
theorem dX3_knownPart_6 : decode cX3_knownPart 6 = .ok (.getfield 18, 3) := by decide +kernel
theorem dX3_knownPart_9 : decode cX3_knownPart 9 = .ok (.arraylength, 1) := by decide +kernel
theorem dX3_knownPart_10 : decode cX3_knownPart 10 = .ok (.if_icmp .ge 12, 3) := by decide +kernel
theorem dX3_knownPart_13 : decode cX3_knownPart 13 = .ok (.aload_n 0, 1) := by decide +kernel
theorem dX3_knownPart_14 : decode cX3_knownPart 14 = .ok (.getfield 18, 3) := by decide +kernel
theorem dX3_knownPart_17 : decode cX3_knownPart 17 = .ok (.iload_n 1, 1) := by decide +kernel
theorem dX3_knownPart_18 : decode cX3_knownPart 18 = .ok (.aaload, 1) := by decide +kernel
theorem dX3_knownPart_19 : decode cX3_knownPart 19 = .ok (.goto 4, 3) := by decide +kernel
theorem dX3_knownPart_22 : decode cX3_knownPart 22 = .ok (.aconst_null, 1) := by decide +kernel
theorem dX3_knownPart_23 : decode cX3_knownPart 23 = .ok (.astore_n 2, 1) := by decide +kernel
theorem dX3_knownPart_24 : decode cX3_knownPart 24 = .ok (.aload_n 2, 1) := by decide +kernel
theorem dX3_knownPart_25 : decode cX3_knownPart 25 = .ok (.ifnonnull 13, 3) := by decide +kernel
theorem dX3_knownPart_28 : decode cX3_knownPart 28 = .ok (.new 217, 3) := by decide +kernel
theorem dX3_knownPart_31 : decode cX3_knownPart 31 = .ok (.dup, 1) := by decide +kernel
theorem dX3_knownPart_32 : decode cX3_knownPart 32 = .ok (.ldc 219, 2) := by decide +kernel
theorem dX3_knownPart_34 : decode cX3_knownPart 34 = .ok (.invokespecial 221, 3) := by decide +kernel
theorem dX3_knownPart_37 : decode cX3_knownPart 37 = .ok (.athrow, 1) := by decide +kernel
theorem dX3_knownPart_38 : decode cX3_knownPart 38 = .ok (.aload_n 2, 1) := by decide +kernel
theorem dX3_knownPart_39 : decode cX3_knownPart 39 = .ok (.areturn, 1) := by decide +kernel
set_option maxRecDepth 20000 in
theorem ggX3_livingPart_X3_knownPart : GoodIn wsX3_livingPart wsX3_knownPart := goodIn_ca (goodIn_r _ [8, 1, 2, 9, 16, 17, 18, 19, 20, 21] (by decide +kernel) (by decide +kernel)) (goodIn_sub (fun _ h => List.mem_cons_of_mem _ (List.mem_append_right _ h)) (by decide +kernel))
set_option maxRecDepth 20000 in
theorem gX3_livingPart_X3_knownPart : GoodIn wsX3_livingPart (wsV RX3 147 RX3 yX3_knownPart wsX3_knownPart) := goodIn_app (goodIn_of _ (by decide +kernel)) ggX3_livingPart_X3_knownPart
theorem dX3_livingPart_0 : decode cX3_livingPart 0 = .ok (.aload_n 0, 1) := by decide +kernel
theorem dX3_livingPart_1 : decode cX3_livingPart 1 = .ok (.iload_n 1, 1) := by decide +kernel
theorem dX3_livingPart_2 : decode cX3_livingPart 2 = .ok (.invokevirtual 147, 3) := by decide +kernel
theorem dX3_livingPart_5 : decode cX3_livingPart 5 = .ok (.astore_n 2, 1) := by decide +kernel
theorem dX3_livingPart_6 : decode cX3_livingPart 6 = .ok (.aload_n 2, 1) := by decide +kernel
theorem dX3_livingPart_7 : decode cX3_livingPart 7 = .ok (.getfield 87, 3) := by decide +kernel
theorem dX3_livingPart_10 : decode cX3_livingPart 10 = .ok (.iconst 2, 1) := by decide +kernel
theorem dX3_livingPart_11 : decode cX3_livingPart 11 = .ok (.if_icmp .ne 13, 3) := by decide +kernel
theorem dX3_livingPart_14 : decode cX3_livingPart 14 = .ok (.new 217, 3) := by decide +kernel
theorem dX3_livingPart_17 : decode cX3_livingPart 17 = .ok (.dup, 1) := by decide +kernel
theorem dX3_livingPart_18 : decode cX3_livingPart 18 = .ok (.ldc 222, 2) := by decide +kernel
theorem dX3_livingPart_20 : decode cX3_livingPart 20 = .ok (.invokespecial 221, 3) := by decide +kernel
theorem dX3_livingPart_23 : decode cX3_livingPart 23 = .ok (.athrow, 1) := by decide +kernel
theorem dX3_livingPart_24 : decode cX3_livingPart 24 = .ok (.aload_n 2, 1) := by decide +kernel
theorem dX3_livingPart_25 : decode cX3_livingPart 25 = .ok (.areturn, 1) := by decide +kernel
set_option maxRecDepth 20000 in
theorem ggX3_livingPartWithRange_X3_livingPart : GoodIn wsX3_livingPartWithRange wsX3_livingPart := goodIn_ca (goodIn_r _ [8, 1, 2, 9, 10, 11, 12, 7, 13, 14, 21, 22, 23, 24, 25, 26, 15, 16, 17, 18, 19, 20] (by decide +kernel) (by decide +kernel)) (goodIn_sub (fun _ h => List.mem_cons_of_mem _ (List.mem_append_right _ h)) (by decide +kernel))
set_option maxRecDepth 20000 in
theorem gX3_livingPartWithRange_X3_livingPart : GoodIn wsX3_livingPartWithRange (wsV RX3 186 RX3 yX3_livingPart wsX3_livingPart) := goodIn_app (goodIn_of _ (by decide +kernel)) ggX3_livingPartWithRange_X3_livingPart
theorem dX3_livingPartWithRange_0 : decode cX3_livingPartWithRange 0 = .ok (.aload_n 0, 1) := by decide +kernel
theorem dX3_livingPartWithRange_1 : decode cX3_livingPartWithRange 1 = .ok (.iload_n 1, 1) := by decide +kernel
theorem dX3_livingPartWithRange_2 : decode cX3_livingPartWithRange 2 = .ok (.invokevirtual 186, 3) := by decide +kernel
theorem dX3_livingPartWithRange_5 : decode cX3_livingPartWithRange 5 = .ok (.astore_n 2, 1) := by decide +kernel
theorem dX3_livingPartWithRange_6 : decode cX3_livingPartWithRange 6 = .ok (.aload_n 2, 1) := by decide +kernel
theorem dX3_livingPartWithRange_7 : decode cX3_livingPartWithRange 7 = .ok (.aload_n 0, 1) := by decide +kernel
theorem dX3_livingPartWithRange_8 : decode cX3_livingPartWithRange 8 = .ok (.getfield 14, 3) := by decide +kernel
theorem dX3_livingPartWithRange_11 : decode cX3_livingPartWithRange 11 = .ok (.if_acmp .ne 13, 3) := by decide +kernel
theorem dX3_livingPartWithRange_14 : decode cX3_livingPartWithRange 14 = .ok (.new 217, 3) := by decide +kernel
theorem dX3_livingPartWithRange_17 : decode cX3_livingPartWithRange 17 = .ok (.dup, 1) := by decide +kernel
theorem dX3_livingPartWithRange_18 : decode cX3_livingPartWithRange 18 = .ok (.ldc 224, 2) := by decide +kernel
theorem dX3_livingPartWithRange_20 : decode cX3_livingPartWithRange 20 = .ok (.invokespecial 221, 3) := by decide +kernel
theorem dX3_livingPartWithRange_23 : decode cX3_livingPartWithRange 23 = .ok (.athrow, 1) := by decide +kernel
theorem dX3_livingPartWithRange_24 : decode cX3_livingPartWithRange 24 = .ok (.aload_n 2, 1) := by decide +kernel
theorem dX3_livingPartWithRange_25 : decode cX3_livingPartWithRange 25 = .ok (.areturn, 1) := by decide +kernel
set_option maxRecDepth 20000 in
theorem ggX3_livingPartWithLeaf_X3_livingPart : GoodIn wsX3_livingPartWithLeaf wsX3_livingPart := goodIn_ca (goodIn_r _ [7, 1, 2, 8, 9, 10, 11, 6, 12, 13, 21, 22, 23, 24, 25, 26, 27, 28, 29, 30, 31, 32] (by decide +kernel) (by decide +kernel)) (goodIn_sub (fun _ h => List.mem_cons_of_mem _ (List.mem_append_right _ h)) (by decide +kernel))
set_option maxRecDepth 20000 in
theorem gX3_livingPartWithLeaf_X3_livingPart : GoodIn wsX3_livingPartWithLeaf (wsV RX3 186 RX3 yX3_livingPart wsX3_livingPart) := goodIn_app (goodIn_of _ (by decide +kernel)) ggX3_livingPartWithLeaf_X3_livingPart
set_option maxRecDepth 20000 in
theorem ggX3_livingPartWithLeaf_X0_leaves : GoodIn wsX3_livingPartWithLeaf wsX0_leaves := goodIn_r _ [18, 19, 20, 21, 22, 23, 24, 25, 26] (by decide +kernel) (by decide +kernel)
set_option maxRecDepth 20000 in
theorem gX3_livingPartWithLeaf_X0_leaves : GoodIn wsX3_livingPartWithLeaf (wsV RX3 226 RX0 yX0_leaves wsX0_leaves) := goodIn_app (goodIn_of _ (by decide +kernel)) ggX3_livingPartWithLeaf_X0_leaves
theorem dX3_livingPartWithLeaf_0 : decode cX3_livingPartWithLeaf 0 = .ok (.aload_n 0, 1) := by decide +kernel
theorem dX3_livingPartWithLeaf_1 : decode cX3_livingPartWithLeaf 1 = .ok (.iload_n 1, 1) := by decide +kernel
theorem dX3_livingPartWithLeaf_2 : decode cX3_livingPartWithLeaf 2 = .ok (.invokevirtual 186, 3) := by decide +kernel
theorem dX3_livingPartWithLeaf_5 : decode cX3_livingPartWithLeaf 5 = .ok (.astore_n 3, 1) := by decide +kernel
theorem dX3_livingPartWithLeaf_6 : decode cX3_livingPartWithLeaf 6 = .ok (.iload_n 2, 1) := by decide +kernel
theorem dX3_livingPartWithLeaf_7 : decode cX3_livingPartWithLeaf 7 = .ok (.ifCond .lt 11, 3) := by decide +kernel
theorem dX3_livingPartWithLeaf_10 : decode cX3_livingPartWithLeaf 10 = .ok (.iload_n 2, 1) := by decide +kernel
theorem dX3_livingPartWithLeaf_11 : decode cX3_livingPartWithLeaf 11 = .ok (.aload_n 3, 1) := by decide +kernel
theorem dX3_livingPartWithLeaf_12 : decode cX3_livingPartWithLeaf 12 = .ok (.invokevirtual 226, 3) := by decide +kernel
theorem dX3_livingPartWithLeaf_15 : decode cX3_livingPartWithLeaf 15 = .ok (.if_icmp .lt 13, 3) := by decide +kernel
theorem dX3_livingPartWithLeaf_18 : decode cX3_livingPartWithLeaf 18 = .ok (.new 217, 3) := by decide +kernel
theorem dX3_livingPartWithLeaf_21 : decode cX3_livingPartWithLeaf 21 = .ok (.dup, 1) := by decide +kernel
theorem dX3_livingPartWithLeaf_22 : decode cX3_livingPartWithLeaf 22 = .ok (.ldc 229, 2) := by decide +kernel
theorem dX3_livingPartWithLeaf_24 : decode cX3_livingPartWithLeaf 24 = .ok (.invokespecial 221, 3) := by decide +kernel
theorem dX3_livingPartWithLeaf_27 : decode cX3_livingPartWithLeaf 27 = .ok (.athrow, 1) := by decide +kernel
theorem dX3_livingPartWithLeaf_28 : decode cX3_livingPartWithLeaf 28 = .ok (.aload_n 3, 1) := by decide +kernel
theorem dX3_livingPartWithLeaf_29 : decode cX3_livingPartWithLeaf 29 = .ok (.areturn, 1) := by decide +kernel
theorem dX3_presentRow_0 : decode cX3_presentRow 0 = .ok (.iload_n 1, 1) := by decide +kernel
theorem dX3_presentRow_1 : decode cX3_presentRow 1 = .ok (.ifCond .lt 21, 3) := by decide +kernel
theorem dX3_presentRow_4 : decode cX3_presentRow 4 = .ok (.iload_n 1, 1) := by decide +kernel
theorem dX3_presentRow_5 : decode cX3_presentRow 5 = .ok (.aload_n 0, 1) := by decide +kernel
theorem dX3_presentRow_6 : decode cX3_presentRow 6 = .ok (.getfield 24, 3) := by decide +kernel
theorem dX3_presentRow_9 : decode cX3_presentRow 9 = .ok (.arraylength, 1) := by decide +kernel
theorem dX3_presentRow_10 : decode cX3_presentRow 10 = .ok (.if_icmp .ge 12, 3) := by decide +kernel
theorem dX3_presentRow_13 : decode cX3_presentRow 13 = .ok (.aload_n 0, 1) := by decide +kernel
theorem dX3_presentRow_14 : decode cX3_presentRow 14 = .ok (.getfield 24, 3) := by decide +kernel
theorem dX3_presentRow_17 : decode cX3_presentRow 17 = .ok (.iload_n 1, 1) := by decide +kernel
theorem dX3_presentRow_18 : decode cX3_presentRow 18 = .ok (.aaload, 1) := by decide +kernel
theorem dX3_presentRow_19 : decode cX3_presentRow 19 = .ok (.goto 4, 3) := by decide +kernel
theorem dX3_presentRow_22 : decode cX3_presentRow 22 = .ok (.aconst_null, 1) := by decide +kernel
theorem dX3_presentRow_23 : decode cX3_presentRow 23 = .ok (.astore_n 2, 1) := by decide +kernel
theorem dX3_presentRow_24 : decode cX3_presentRow 24 = .ok (.aload_n 2, 1) := by decide +kernel
theorem dX3_presentRow_25 : decode cX3_presentRow 25 = .ok (.ifnonnull 13, 3) := by decide +kernel
theorem dX3_presentRow_28 : decode cX3_presentRow 28 = .ok (.new 217, 3) := by decide +kernel
theorem dX3_presentRow_31 : decode cX3_presentRow 31 = .ok (.dup, 1) := by decide +kernel
theorem dX3_presentRow_32 : decode cX3_presentRow 32 = .ok (.ldc 231, 2) := by decide +kernel
theorem dX3_presentRow_34 : decode cX3_presentRow 34 = .ok (.invokespecial 221, 3) := by decide +kernel
theorem dX3_presentRow_37 : decode cX3_presentRow 37 = .ok (.athrow, 1) := by decide +kernel
theorem dX3_presentRow_38 : decode cX3_presentRow 38 = .ok (.aload_n 2, 1) := by decide +kernel
theorem dX3_presentRow_39 : decode cX3_presentRow 39 = .ok (.areturn, 1) := by decide +kernel
theorem dX3_refuseUnlessAttached_0 : decode cX3_refuseUnlessAttached 0 = .ok (.aload_n 0, 1) := by decide +kernel
theorem dX3_refuseUnlessAttached_1 : decode cX3_refuseUnlessAttached 1 = .ok (.getfield 87, 3) := by decide +kernel
theorem dX3_refuseUnlessAttached_4 : decode cX3_refuseUnlessAttached 4 = .ok (.ifCond .eq 13, 3) := by decide +kernel
theorem dX3_refuseUnlessAttached_7 : decode cX3_refuseUnlessAttached 7 = .ok (.new 80, 3) := by decide +kernel
theorem dX3_refuseUnlessAttached_10 : decode cX3_refuseUnlessAttached 10 = .ok (.dup, 1) := by decide +kernel
theorem dX3_refuseUnlessAttached_11 : decode cX3_refuseUnlessAttached 11 = .ok (.ldc 233, 2) := by decide +kernel
theorem dX3_refuseUnlessAttached_13 : decode cX3_refuseUnlessAttached 13 = .ok (.invokespecial 84, 3) := by decide +kernel
theorem dX3_refuseUnlessAttached_16 : decode cX3_refuseUnlessAttached 16 = .ok (.athrow, 1) := by decide +kernel
theorem dX3_refuseUnlessAttached_17 : decode cX3_refuseUnlessAttached 17 = .ok (.return_, 1) := by decide +kernel
theorem dX3_refuseUnlessDetached_0 : decode cX3_refuseUnlessDetached 0 = .ok (.aload_n 0, 1) := by decide +kernel
theorem dX3_refuseUnlessDetached_1 : decode cX3_refuseUnlessDetached 1 = .ok (.getfield 87, 3) := by decide +kernel
theorem dX3_refuseUnlessDetached_4 : decode cX3_refuseUnlessDetached 4 = .ok (.iconst 1, 1) := by decide +kernel
theorem dX3_refuseUnlessDetached_5 : decode cX3_refuseUnlessDetached 5 = .ok (.if_icmp .eq 13, 3) := by decide +kernel
theorem dX3_refuseUnlessDetached_8 : decode cX3_refuseUnlessDetached 8 = .ok (.new 80, 3) := by decide +kernel
theorem dX3_refuseUnlessDetached_11 : decode cX3_refuseUnlessDetached 11 = .ok (.dup, 1) := by decide +kernel
theorem dX3_refuseUnlessDetached_12 : decode cX3_refuseUnlessDetached 12 = .ok (.ldc 235, 2) := by decide +kernel
theorem dX3_refuseUnlessDetached_14 : decode cX3_refuseUnlessDetached 14 = .ok (.invokespecial 84, 3) := by decide +kernel
theorem dX3_refuseUnlessDetached_17 : decode cX3_refuseUnlessDetached 17 = .ok (.athrow, 1) := by decide +kernel
theorem dX3_refuseUnlessDetached_18 : decode cX3_refuseUnlessDetached 18 = .ok (.return_, 1) := by decide +kernel
set_option maxRecDepth 20000 in
theorem ggX3_refuseOverlap_X0_overlaps : GoodIn wsX3_refuseOverlap wsX0_overlaps := goodIn_r _ [9, 10, 11, 18, 19, 20, 21, 22, 23] (by decide +kernel) (by decide +kernel)
set_option maxRecDepth 20000 in
theorem gX3_refuseOverlap_X0_overlaps : GoodIn wsX3_refuseOverlap (wsV RX3 237 RX0 yX0_overlaps wsX0_overlaps) := goodIn_app (goodIn_of _ (by decide +kernel)) ggX3_refuseOverlap_X0_overlaps
theorem dX3_refuseOverlap_0 : decode cX3_refuseOverlap 0 = .ok (.aload_n 0, 1) := by decide +kernel
theorem dX3_refuseOverlap_1 : decode cX3_refuseOverlap 1 = .ok (.getfield 18, 3) := by decide +kernel
theorem dX3_refuseOverlap_4 : decode cX3_refuseOverlap 4 = .ok (.astore_n 2, 1) := by decide +kernel
theorem dX3_refuseOverlap_5 : decode cX3_refuseOverlap 5 = .ok (.aload_n 2, 1) := by decide +kernel
theorem dX3_refuseOverlap_6 : decode cX3_refuseOverlap 6 = .ok (.arraylength, 1) := by decide +kernel
theorem dX3_refuseOverlap_7 : decode cX3_refuseOverlap 7 = .ok (.istore_n 3, 1) := by decide +kernel
theorem dX3_refuseOverlap_8 : decode cX3_refuseOverlap 8 = .ok (.iconst 0, 1) := by decide +kernel
theorem dX3_refuseOverlap_9 : decode cX3_refuseOverlap 9 = .ok (.istore 4, 2) := by decide +kernel
theorem dX3_refuseOverlap_11 : decode cX3_refuseOverlap 11 = .ok (.iload 4, 2) := by decide +kernel
theorem dX3_refuseOverlap_13 : decode cX3_refuseOverlap 13 = .ok (.iload_n 3, 1) := by decide +kernel
theorem dX3_refuseOverlap_14 : decode cX3_refuseOverlap 14 = .ok (.if_icmp .ge 47, 3) := by decide +kernel
theorem dX3_refuseOverlap_17 : decode cX3_refuseOverlap 17 = .ok (.aload_n 2, 1) := by decide +kernel
theorem dX3_refuseOverlap_18 : decode cX3_refuseOverlap 18 = .ok (.iload 4, 2) := by decide +kernel
theorem dX3_refuseOverlap_20 : decode cX3_refuseOverlap 20 = .ok (.aaload, 1) := by decide +kernel
theorem dX3_refuseOverlap_21 : decode cX3_refuseOverlap 21 = .ok (.astore 5, 2) := by decide +kernel
theorem dX3_refuseOverlap_23 : decode cX3_refuseOverlap 23 = .ok (.aload 5, 2) := by decide +kernel
theorem dX3_refuseOverlap_25 : decode cX3_refuseOverlap 25 = .ok (.ifnull 30, 3) := by decide +kernel
theorem dX3_refuseOverlap_28 : decode cX3_refuseOverlap 28 = .ok (.aload 5, 2) := by decide +kernel
theorem dX3_refuseOverlap_30 : decode cX3_refuseOverlap 30 = .ok (.getfield 87, 3) := by decide +kernel
theorem dX3_refuseOverlap_33 : decode cX3_refuseOverlap 33 = .ok (.ifCond .ne 22, 3) := by decide +kernel
theorem dX3_refuseOverlap_36 : decode cX3_refuseOverlap 36 = .ok (.aload 5, 2) := by decide +kernel
theorem dX3_refuseOverlap_38 : decode cX3_refuseOverlap 38 = .ok (.aload_n 1, 1) := by decide +kernel
theorem dX3_refuseOverlap_39 : decode cX3_refuseOverlap 39 = .ok (.invokevirtual 237, 3) := by decide +kernel
theorem dX3_refuseOverlap_42 : decode cX3_refuseOverlap 42 = .ok (.ifCond .eq 13, 3) := by decide +kernel
theorem dX3_refuseOverlap_45 : decode cX3_refuseOverlap 45 = .ok (.new 80, 3) := by decide +kernel
theorem dX3_refuseOverlap_48 : decode cX3_refuseOverlap 48 = .ok (.dup, 1) := by decide +kernel
theorem dX3_refuseOverlap_49 : decode cX3_refuseOverlap 49 = .ok (.ldc 241, 2) := by decide +kernel
theorem dX3_refuseOverlap_51 : decode cX3_refuseOverlap 51 = .ok (.invokespecial 84, 3) := by decide +kernel
theorem dX3_refuseOverlap_54 : decode cX3_refuseOverlap 54 = .ok (.athrow, 1) := by decide +kernel
theorem dX3_refuseOverlap_55 : decode cX3_refuseOverlap 55 = .ok (.iinc 4 1, 3) := by decide +kernel
theorem dX3_refuseOverlap_58 : decode cX3_refuseOverlap 58 = .ok (.goto (-47), 3) := by decide +kernel
theorem dX3_refuseOverlap_61 : decode cX3_refuseOverlap 61 = .ok (.return_, 1) := by decide +kernel
set_option maxRecDepth 20000 in
theorem ggX3_refuseRowsOfRest_X0_covers : GoodIn wsX3_refuseRowsOfRest wsX0_covers := goodIn_r _ [11, 12, 13, 24, 25, 26, 27, 28, 29] (by decide +kernel) (by decide +kernel)
set_option maxRecDepth 20000 in
theorem gX3_refuseRowsOfRest_X0_covers : GoodIn wsX3_refuseRowsOfRest (wsV RX3 243 RX0 yX0_covers wsX0_covers) := goodIn_app (goodIn_of _ (by decide +kernel)) ggX3_refuseRowsOfRest_X0_covers
theorem dX3_refuseRowsOfRest_0 : decode cX3_refuseRowsOfRest 0 = .ok (.aload_n 0, 1) := by decide +kernel
theorem dX3_refuseRowsOfRest_1 : decode cX3_refuseRowsOfRest 1 = .ok (.getfield 24, 3) := by decide +kernel
theorem dX3_refuseRowsOfRest_4 : decode cX3_refuseRowsOfRest 4 = .ok (.astore_n 2, 1) := by decide +kernel
theorem dX3_refuseRowsOfRest_5 : decode cX3_refuseRowsOfRest 5 = .ok (.aload_n 2, 1) := by decide +kernel
theorem dX3_refuseRowsOfRest_6 : decode cX3_refuseRowsOfRest 6 = .ok (.arraylength, 1) := by decide +kernel
theorem dX3_refuseRowsOfRest_7 : decode cX3_refuseRowsOfRest 7 = .ok (.istore_n 3, 1) := by decide +kernel
theorem dX3_refuseRowsOfRest_8 : decode cX3_refuseRowsOfRest 8 = .ok (.iconst 0, 1) := by decide +kernel
theorem dX3_refuseRowsOfRest_9 : decode cX3_refuseRowsOfRest 9 = .ok (.istore 4, 2) := by decide +kernel
theorem dX3_refuseRowsOfRest_11 : decode cX3_refuseRowsOfRest 11 = .ok (.iload 4, 2) := by decide +kernel
theorem dX3_refuseRowsOfRest_13 : decode cX3_refuseRowsOfRest 13 = .ok (.iload_n 3, 1) := by decide +kernel
theorem dX3_refuseRowsOfRest_14 : decode cX3_refuseRowsOfRest 14 = .ok (.if_icmp .ge 54, 3) := by decide +kernel
theorem dX3_refuseRowsOfRest_17 : decode cX3_refuseRowsOfRest 17 = .ok (.aload_n 2, 1) := by decide +kernel
theorem dX3_refuseRowsOfRest_18 : decode cX3_refuseRowsOfRest 18 = .ok (.iload 4, 2) := by decide +kernel
theorem dX3_refuseRowsOfRest_20 : decode cX3_refuseRowsOfRest 20 = .ok (.aaload, 1) := by decide +kernel
theorem dX3_refuseRowsOfRest_21 : decode cX3_refuseRowsOfRest 21 = .ok (.astore 5, 2) := by decide +kernel
theorem dX3_refuseRowsOfRest_23 : decode cX3_refuseRowsOfRest 23 = .ok (.aload 5, 2) := by decide +kernel
theorem dX3_refuseRowsOfRest_25 : decode cX3_refuseRowsOfRest 25 = .ok (.ifnull 37, 3) := by decide +kernel
theorem dX3_refuseRowsOfRest_28 : decode cX3_refuseRowsOfRest 28 = .ok (.aload 5, 2) := by decide +kernel
theorem dX3_refuseRowsOfRest_30 : decode cX3_refuseRowsOfRest 30 = .ok (.getfield 128, 3) := by decide +kernel
theorem dX3_refuseRowsOfRest_33 : decode cX3_refuseRowsOfRest 33 = .ok (.aload_n 0, 1) := by decide +kernel
theorem dX3_refuseRowsOfRest_34 : decode cX3_refuseRowsOfRest 34 = .ok (.getfield 14, 3) := by decide +kernel
theorem dX3_refuseRowsOfRest_37 : decode cX3_refuseRowsOfRest 37 = .ok (.if_acmp .ne 25, 3) := by decide +kernel
theorem dX3_refuseRowsOfRest_40 : decode cX3_refuseRowsOfRest 40 = .ok (.aload_n 1, 1) := by decide +kernel
theorem dX3_refuseRowsOfRest_41 : decode cX3_refuseRowsOfRest 41 = .ok (.aload 5, 2) := by decide +kernel
theorem dX3_refuseRowsOfRest_43 : decode cX3_refuseRowsOfRest 43 = .ok (.getfield 135, 3) := by decide +kernel
theorem dX3_refuseRowsOfRest_46 : decode cX3_refuseRowsOfRest 46 = .ok (.invokevirtual 243, 3) := by decide +kernel
theorem dX3_refuseRowsOfRest_49 : decode cX3_refuseRowsOfRest 49 = .ok (.ifCond .eq 13, 3) := by decide +kernel
theorem dX3_refuseRowsOfRest_52 : decode cX3_refuseRowsOfRest 52 = .ok (.new 80, 3) := by decide +kernel
theorem dX3_refuseRowsOfRest_55 : decode cX3_refuseRowsOfRest 55 = .ok (.dup, 1) := by decide +kernel
theorem dX3_refuseRowsOfRest_56 : decode cX3_refuseRowsOfRest 56 = .ok (.ldc 247, 2) := by decide +kernel
theorem dX3_refuseRowsOfRest_58 : decode cX3_refuseRowsOfRest 58 = .ok (.invokespecial 84, 3) := by decide +kernel
theorem dX3_refuseRowsOfRest_61 : decode cX3_refuseRowsOfRest 61 = .ok (.athrow, 1) := by decide +kernel
theorem dX3_refuseRowsOfRest_62 : decode cX3_refuseRowsOfRest 62 = .ok (.iinc 4 1, 3) := by decide +kernel
theorem dX3_refuseRowsOfRest_65 : decode cX3_refuseRowsOfRest 65 = .ok (.goto (-54), 3) := by decide +kernel
theorem dX3_refuseRowsOfRest_68 : decode cX3_refuseRowsOfRest 68 = .ok (.return_, 1) := by decide +kernel
set_option maxRecDepth 20000 in
theorem ggX3_refuseForeignRows_X0_covers : GoodIn wsX3_refuseForeignRows wsX0_covers := goodIn_r _ [10, 11, 12, 23, 24, 25, 26, 27, 28] (by decide +kernel) (by decide +kernel)
set_option maxRecDepth 20000 in
theorem gX3_refuseForeignRows_X0_covers : GoodIn wsX3_refuseForeignRows (wsV RX3 243 RX0 yX0_covers wsX0_covers) := goodIn_app (goodIn_of _ (by decide +kernel)) ggX3_refuseForeignRows_X0_covers
theorem dX3_refuseForeignRows_0 : decode cX3_refuseForeignRows 0 = .ok (.aload_n 0, 1) := by decide +kernel
theorem dX3_refuseForeignRows_1 : decode cX3_refuseForeignRows 1 = .ok (.getfield 24, 3) := by decide +kernel
theorem dX3_refuseForeignRows_4 : decode cX3_refuseForeignRows 4 = .ok (.astore_n 3, 1) := by decide +kernel
theorem dX3_refuseForeignRows_5 : decode cX3_refuseForeignRows 5 = .ok (.aload_n 3, 1) := by decide +kernel
theorem dX3_refuseForeignRows_6 : decode cX3_refuseForeignRows 6 = .ok (.arraylength, 1) := by decide +kernel
theorem dX3_refuseForeignRows_7 : decode cX3_refuseForeignRows 7 = .ok (.istore 4, 2) := by decide +kernel
theorem dX3_refuseForeignRows_9 : decode cX3_refuseForeignRows 9 = .ok (.iconst 0, 1) := by decide +kernel
theorem dX3_refuseForeignRows_10 : decode cX3_refuseForeignRows 10 = .ok (.istore 5, 2) := by decide +kernel
theorem dX3_refuseForeignRows_12 : decode cX3_refuseForeignRows 12 = .ok (.iload 5, 2) := by decide +kernel
theorem dX3_refuseForeignRows_14 : decode cX3_refuseForeignRows 14 = .ok (.iload 4, 2) := by decide +kernel
theorem dX3_refuseForeignRows_16 : decode cX3_refuseForeignRows 16 = .ok (.if_icmp .ge 51, 3) := by decide +kernel
theorem dX3_refuseForeignRows_19 : decode cX3_refuseForeignRows 19 = .ok (.aload_n 3, 1) := by decide +kernel
theorem dX3_refuseForeignRows_20 : decode cX3_refuseForeignRows 20 = .ok (.iload 5, 2) := by decide +kernel
theorem dX3_refuseForeignRows_22 : decode cX3_refuseForeignRows 22 = .ok (.aaload, 1) := by decide +kernel
theorem dX3_refuseForeignRows_23 : decode cX3_refuseForeignRows 23 = .ok (.astore 6, 2) := by decide +kernel
theorem dX3_refuseForeignRows_25 : decode cX3_refuseForeignRows 25 = .ok (.aload 6, 2) := by decide +kernel
theorem dX3_refuseForeignRows_27 : decode cX3_refuseForeignRows 27 = .ok (.ifnull 34, 3) := by decide +kernel
theorem dX3_refuseForeignRows_30 : decode cX3_refuseForeignRows 30 = .ok (.aload 6, 2) := by decide +kernel
theorem dX3_refuseForeignRows_32 : decode cX3_refuseForeignRows 32 = .ok (.getfield 128, 3) := by decide +kernel
theorem dX3_refuseForeignRows_35 : decode cX3_refuseForeignRows 35 = .ok (.aload_n 1, 1) := by decide +kernel
theorem dX3_refuseForeignRows_36 : decode cX3_refuseForeignRows 36 = .ok (.if_acmp .ne 25, 3) := by decide +kernel
theorem dX3_refuseForeignRows_39 : decode cX3_refuseForeignRows 39 = .ok (.aload_n 2, 1) := by decide +kernel
theorem dX3_refuseForeignRows_40 : decode cX3_refuseForeignRows 40 = .ok (.aload 6, 2) := by decide +kernel
theorem dX3_refuseForeignRows_42 : decode cX3_refuseForeignRows 42 = .ok (.getfield 135, 3) := by decide +kernel
theorem dX3_refuseForeignRows_45 : decode cX3_refuseForeignRows 45 = .ok (.invokevirtual 243, 3) := by decide +kernel
theorem dX3_refuseForeignRows_48 : decode cX3_refuseForeignRows 48 = .ok (.ifCond .ne 13, 3) := by decide +kernel
theorem dX3_refuseForeignRows_51 : decode cX3_refuseForeignRows 51 = .ok (.new 80, 3) := by decide +kernel
theorem dX3_refuseForeignRows_54 : decode cX3_refuseForeignRows 54 = .ok (.dup, 1) := by decide +kernel
theorem dX3_refuseForeignRows_55 : decode cX3_refuseForeignRows 55 = .ok (.ldc 249, 2) := by decide +kernel
theorem dX3_refuseForeignRows_57 : decode cX3_refuseForeignRows 57 = .ok (.invokespecial 84, 3) := by decide +kernel
theorem dX3_refuseForeignRows_60 : decode cX3_refuseForeignRows 60 = .ok (.athrow, 1) := by decide +kernel
theorem dX3_refuseForeignRows_61 : decode cX3_refuseForeignRows 61 = .ok (.iinc 5 1, 3) := by decide +kernel
theorem dX3_refuseForeignRows_64 : decode cX3_refuseForeignRows 64 = .ok (.goto (-52), 3) := by decide +kernel
theorem dX3_refuseForeignRows_67 : decode cX3_refuseForeignRows 67 = .ok (.return_, 1) := by decide +kernel
set_option maxRecDepth 20000 in
theorem ggX3_plannedPart_X3_checkRange : GoodIn wsX3_plannedPart wsX3_checkRange := goodIn_ca (goodIn_r _ [8, 9, 10, 11, 12, 7, 13] (by decide +kernel) (by decide +kernel)) (goodIn_sub (fun _ h => List.mem_cons_of_mem _ (List.mem_append_right _ h)) (by decide +kernel))
set_option maxRecDepth 20000 in
theorem gX3_plannedPart_X3_checkRange : GoodIn wsX3_plannedPart (va_wsS RX3 251 yX3_checkRange wsX3_checkRange) := goodIn_app (goodIn_of _ (by decide +kernel)) ggX3_plannedPart_X3_checkRange
set_option maxRecDepth 20000 in
theorem ggX3_plannedPart_X3_checkKind : GoodIn wsX3_plannedPart wsX3_checkKind := goodIn_ca (goodIn_r _ [16, 9, 10, 17, 18, 7, 19, 20, 21, 22] (by decide +kernel) (by decide +kernel)) (goodIn_sub (fun _ h => List.mem_cons_of_mem _ (List.mem_append_right _ h)) (by decide +kernel))
set_option maxRecDepth 20000 in
theorem gX3_plannedPart_X3_checkKind : GoodIn wsX3_plannedPart (va_wsS RX3 255 yX3_checkKind wsX3_checkKind) := goodIn_app (goodIn_of _ (by decide +kernel)) ggX3_plannedPart_X3_checkKind
set_option maxRecDepth 20000 in
theorem ggX3_plannedPart_X0_init : GoodIn wsX3_plannedPart wsX0_init := goodIn_r _ [25, 26, 27, 28, 29, 30, 31, 32, 33, 34, 35, 36, 37, 38, 39, 40] (by decide +kernel) (by decide +kernel)
set_option maxRecDepth 20000 in
theorem gX3_plannedPart_X0_init : GoodIn wsX3_plannedPart (wsX0_init) := ggX3_plannedPart_X0_init
theorem dX3_plannedPart_0 : decode cX3_plannedPart 0 = .ok (.iload_n 1, 1) := by decide +kernel
theorem dX3_plannedPart_1 : decode cX3_plannedPart 1 = .ok (.iload_n 2, 1) := by decide +kernel
theorem dX3_plannedPart_2 : decode cX3_plannedPart 2 = .ok (.invokestatic 251, 3) := by decide +kernel
theorem dX3_plannedPart_5 : decode cX3_plannedPart 5 = .ok (.iload_n 3, 1) := by decide +kernel
theorem dX3_plannedPart_6 : decode cX3_plannedPart 6 = .ok (.iload 4, 2) := by decide +kernel
theorem dX3_plannedPart_8 : decode cX3_plannedPart 8 = .ok (.invokestatic 255, 3) := by decide +kernel
theorem dX3_plannedPart_11 : decode cX3_plannedPart 11 = .ok (.new 7, 3) := by decide +kernel
theorem dX3_plannedPart_14 : decode cX3_plannedPart 14 = .ok (.dup, 1) := by decide +kernel
theorem dX3_plannedPart_15 : decode cX3_plannedPart 15 = .ok (.aload_n 0, 1) := by decide +kernel
theorem dX3_plannedPart_16 : decode cX3_plannedPart 16 = .ok (.getfield 144, 3) := by decide +kernel
theorem dX3_plannedPart_19 : decode cX3_plannedPart 19 = .ok (.iconst 1, 1) := by decide +kernel
theorem dX3_plannedPart_20 : decode cX3_plannedPart 20 = .ok (.iadd, 1) := by decide +kernel
theorem dX3_plannedPart_21 : decode cX3_plannedPart 21 = .ok (.iload_n 1, 1) := by decide +kernel
theorem dX3_plannedPart_22 : decode cX3_plannedPart 22 = .ok (.iload_n 2, 1) := by decide +kernel
theorem dX3_plannedPart_23 : decode cX3_plannedPart 23 = .ok (.iload_n 3, 1) := by decide +kernel
theorem dX3_plannedPart_24 : decode cX3_plannedPart 24 = .ok (.iload 4, 2) := by decide +kernel
theorem dX3_plannedPart_26 : decode cX3_plannedPart 26 = .ok (.invokespecial 11, 3) := by decide +kernel
theorem dX3_plannedPart_29 : decode cX3_plannedPart 29 = .ok (.areturn, 1) := by decide +kernel
theorem dX3_keepPart_0 : decode cX3_keepPart 0 = .ok (.aload_n 1, 1) := by decide +kernel
theorem dX3_keepPart_1 : decode cX3_keepPart 1 = .ok (.getfield 42, 3) := by decide +kernel
theorem dX3_keepPart_4 : decode cX3_keepPart 4 = .ok (.aload_n 0, 1) := by decide +kernel
theorem dX3_keepPart_5 : decode cX3_keepPart 5 = .ok (.getfield 18, 3) := by decide +kernel
theorem dX3_keepPart_8 : decode cX3_keepPart 8 = .ok (.arraylength, 1) := by decide +kernel
theorem dX3_keepPart_9 : decode cX3_keepPart 9 = .ok (.if_icmp .lt 14, 3) := by decide +kernel
theorem dX3_keepPart_12 : decode cX3_keepPart 12 = .ok (.new 80, 3) := by decide +kernel
theorem dX3_keepPart_15 : decode cX3_keepPart 15 = .ok (.dup, 1) := by decide +kernel
theorem dX3_keepPart_16 : decode cX3_keepPart 16 = .ok (.ldc_w 258, 3) := by decide +kernel
theorem dX3_keepPart_19 : decode cX3_keepPart 19 = .ok (.invokespecial 84, 3) := by decide +kernel
theorem dX3_keepPart_22 : decode cX3_keepPart 22 = .ok (.athrow, 1) := by decide +kernel
theorem dX3_keepPart_23 : decode cX3_keepPart 23 = .ok (.aload_n 0, 1) := by decide +kernel
theorem dX3_keepPart_24 : decode cX3_keepPart 24 = .ok (.getfield 18, 3) := by decide +kernel
theorem dX3_keepPart_27 : decode cX3_keepPart 27 = .ok (.aload_n 1, 1) := by decide +kernel
theorem dX3_keepPart_28 : decode cX3_keepPart 28 = .ok (.getfield 42, 3) := by decide +kernel
theorem dX3_keepPart_31 : decode cX3_keepPart 31 = .ok (.aload_n 1, 1) := by decide +kernel
theorem dX3_keepPart_32 : decode cX3_keepPart 32 = .ok (.aastore, 1) := by decide +kernel
theorem dX3_keepPart_33 : decode cX3_keepPart 33 = .ok (.aload_n 0, 1) := by decide +kernel
theorem dX3_keepPart_34 : decode cX3_keepPart 34 = .ok (.aload_n 1, 1) := by decide +kernel
theorem dX3_keepPart_35 : decode cX3_keepPart 35 = .ok (.getfield 42, 3) := by decide +kernel
theorem dX3_keepPart_38 : decode cX3_keepPart 38 = .ok (.putfield 144, 3) := by decide +kernel
theorem dX3_keepPart_41 : decode cX3_keepPart 41 = .ok (.return_, 1) := by decide +kernel
set_option maxRecDepth 20000 in
theorem ggX3_holderOf_X0_covers : GoodIn wsX3_holderOf wsX0_covers := goodIn_r _ [8, 9, 10, 17, 18, 19, 20, 21, 22] (by decide +kernel) (by decide +kernel)
set_option maxRecDepth 20000 in
theorem gX3_holderOf_X0_covers : GoodIn wsX3_holderOf (wsV RX3 243 RX0 yX0_covers wsX0_covers) := goodIn_app (goodIn_of _ (by decide +kernel)) ggX3_holderOf_X0_covers
theorem dX3_holderOf_0 : decode cX3_holderOf 0 = .ok (.aload_n 0, 1) := by decide +kernel
theorem dX3_holderOf_1 : decode cX3_holderOf 1 = .ok (.getfield 18, 3) := by decide +kernel
theorem dX3_holderOf_4 : decode cX3_holderOf 4 = .ok (.astore_n 2, 1) := by decide +kernel
theorem dX3_holderOf_5 : decode cX3_holderOf 5 = .ok (.aload_n 2, 1) := by decide +kernel
theorem dX3_holderOf_6 : decode cX3_holderOf 6 = .ok (.arraylength, 1) := by decide +kernel
theorem dX3_holderOf_7 : decode cX3_holderOf 7 = .ok (.istore_n 3, 1) := by decide +kernel
theorem dX3_holderOf_8 : decode cX3_holderOf 8 = .ok (.iconst 0, 1) := by decide +kernel
theorem dX3_holderOf_9 : decode cX3_holderOf 9 = .ok (.istore 4, 2) := by decide +kernel
theorem dX3_holderOf_11 : decode cX3_holderOf 11 = .ok (.iload 4, 2) := by decide +kernel
theorem dX3_holderOf_13 : decode cX3_holderOf 13 = .ok (.iload_n 3, 1) := by decide +kernel
theorem dX3_holderOf_14 : decode cX3_holderOf 14 = .ok (.if_icmp .ge 40, 3) := by decide +kernel
theorem dX3_holderOf_17 : decode cX3_holderOf 17 = .ok (.aload_n 2, 1) := by decide +kernel
theorem dX3_holderOf_18 : decode cX3_holderOf 18 = .ok (.iload 4, 2) := by decide +kernel
theorem dX3_holderOf_20 : decode cX3_holderOf 20 = .ok (.aaload, 1) := by decide +kernel
theorem dX3_holderOf_21 : decode cX3_holderOf 21 = .ok (.astore 5, 2) := by decide +kernel
theorem dX3_holderOf_23 : decode cX3_holderOf 23 = .ok (.aload 5, 2) := by decide +kernel
theorem dX3_holderOf_25 : decode cX3_holderOf 25 = .ok (.ifnull 23, 3) := by decide +kernel
theorem dX3_holderOf_28 : decode cX3_holderOf 28 = .ok (.aload 5, 2) := by decide +kernel
theorem dX3_holderOf_30 : decode cX3_holderOf 30 = .ok (.getfield 87, 3) := by decide +kernel
theorem dX3_holderOf_33 : decode cX3_holderOf 33 = .ok (.ifCond .ne 15, 3) := by decide +kernel
theorem dX3_holderOf_36 : decode cX3_holderOf 36 = .ok (.aload 5, 2) := by decide +kernel
theorem dX3_holderOf_38 : decode cX3_holderOf 38 = .ok (.iload_n 1, 1) := by decide +kernel
theorem dX3_holderOf_39 : decode cX3_holderOf 39 = .ok (.invokevirtual 243, 3) := by decide +kernel
theorem dX3_holderOf_42 : decode cX3_holderOf 42 = .ok (.ifCond .eq 6, 3) := by decide +kernel
theorem dX3_holderOf_45 : decode cX3_holderOf 45 = .ok (.aload 5, 2) := by decide +kernel
theorem dX3_holderOf_47 : decode cX3_holderOf 47 = .ok (.areturn, 1) := by decide +kernel
theorem dX3_holderOf_48 : decode cX3_holderOf 48 = .ok (.iinc 4 1, 3) := by decide +kernel
theorem dX3_holderOf_51 : decode cX3_holderOf 51 = .ok (.goto (-40), 3) := by decide +kernel
theorem dX3_holderOf_54 : decode cX3_holderOf 54 = .ok (.aload_n 0, 1) := by decide +kernel
theorem dX3_holderOf_55 : decode cX3_holderOf 55 = .ok (.getfield 14, 3) := by decide +kernel
theorem dX3_holderOf_58 : decode cX3_holderOf 58 = .ok (.areturn, 1) := by decide +kernel
set_option maxRecDepth 20000 in
theorem ggX3_moveRows_X0_covers : GoodIn wsX3_moveRows wsX0_covers := goodIn_r _ [8, 9, 10, 21, 22, 23, 24, 25, 26] (by decide +kernel) (by decide +kernel)
set_option maxRecDepth 20000 in
theorem gX3_moveRows_X0_covers : GoodIn wsX3_moveRows (wsV RX3 243 RX0 yX0_covers wsX0_covers) := goodIn_app (goodIn_of _ (by decide +kernel)) ggX3_moveRows_X0_covers
theorem dX3_moveRows_0 : decode cX3_moveRows 0 = .ok (.aload_n 0, 1) := by decide +kernel
theorem dX3_moveRows_1 : decode cX3_moveRows 1 = .ok (.getfield 24, 3) := by decide +kernel
theorem dX3_moveRows_4 : decode cX3_moveRows 4 = .ok (.astore_n 3, 1) := by decide +kernel
theorem dX3_moveRows_5 : decode cX3_moveRows 5 = .ok (.aload_n 3, 1) := by decide +kernel
theorem dX3_moveRows_6 : decode cX3_moveRows 6 = .ok (.arraylength, 1) := by decide +kernel
theorem dX3_moveRows_7 : decode cX3_moveRows 7 = .ok (.istore 4, 2) := by decide +kernel
theorem dX3_moveRows_9 : decode cX3_moveRows 9 = .ok (.iconst 0, 1) := by decide +kernel
theorem dX3_moveRows_10 : decode cX3_moveRows 10 = .ok (.istore 5, 2) := by decide +kernel
theorem dX3_moveRows_12 : decode cX3_moveRows 12 = .ok (.iload 5, 2) := by decide +kernel
theorem dX3_moveRows_14 : decode cX3_moveRows 14 = .ok (.iload 4, 2) := by decide +kernel
theorem dX3_moveRows_16 : decode cX3_moveRows 16 = .ok (.if_icmp .ge 47, 3) := by decide +kernel
theorem dX3_moveRows_19 : decode cX3_moveRows 19 = .ok (.aload_n 3, 1) := by decide +kernel
theorem dX3_moveRows_20 : decode cX3_moveRows 20 = .ok (.iload 5, 2) := by decide +kernel
theorem dX3_moveRows_22 : decode cX3_moveRows 22 = .ok (.aaload, 1) := by decide +kernel
theorem dX3_moveRows_23 : decode cX3_moveRows 23 = .ok (.astore 6, 2) := by decide +kernel
theorem dX3_moveRows_25 : decode cX3_moveRows 25 = .ok (.aload 6, 2) := by decide +kernel
theorem dX3_moveRows_27 : decode cX3_moveRows 27 = .ok (.ifnull 30, 3) := by decide +kernel
theorem dX3_moveRows_30 : decode cX3_moveRows 30 = .ok (.aload 6, 2) := by decide +kernel
theorem dX3_moveRows_32 : decode cX3_moveRows 32 = .ok (.getfield 128, 3) := by decide +kernel
theorem dX3_moveRows_35 : decode cX3_moveRows 35 = .ok (.aload_n 1, 1) := by decide +kernel
theorem dX3_moveRows_36 : decode cX3_moveRows 36 = .ok (.if_acmp .ne 21, 3) := by decide +kernel
theorem dX3_moveRows_39 : decode cX3_moveRows 39 = .ok (.aload_n 2, 1) := by decide +kernel
theorem dX3_moveRows_40 : decode cX3_moveRows 40 = .ok (.aload 6, 2) := by decide +kernel
theorem dX3_moveRows_42 : decode cX3_moveRows 42 = .ok (.getfield 135, 3) := by decide +kernel
theorem dX3_moveRows_45 : decode cX3_moveRows 45 = .ok (.invokevirtual 243, 3) := by decide +kernel
theorem dX3_moveRows_48 : decode cX3_moveRows 48 = .ok (.ifCond .eq 9, 3) := by decide +kernel
theorem dX3_moveRows_51 : decode cX3_moveRows 51 = .ok (.aload 6, 2) := by decide +kernel
theorem dX3_moveRows_53 : decode cX3_moveRows 53 = .ok (.aload_n 2, 1) := by decide +kernel
theorem dX3_moveRows_54 : decode cX3_moveRows 54 = .ok (.putfield 128, 3) := by decide +kernel
theorem dX3_moveRows_57 : decode cX3_moveRows 57 = .ok (.iinc 5 1, 3) := by decide +kernel
theorem dX3_moveRows_60 : decode cX3_moveRows 60 = .ok (.goto (-48), 3) := by decide +kernel
theorem dX3_moveRows_63 : decode cX3_moveRows 63 = .ok (.return_, 1) := by decide +kernel
theorem dX3_swapRows_0 : decode cX3_swapRows 0 = .ok (.aload_n 0, 1) := by decide +kernel
theorem dX3_swapRows_1 : decode cX3_swapRows 1 = .ok (.getfield 24, 3) := by decide +kernel
theorem dX3_swapRows_4 : decode cX3_swapRows 4 = .ok (.astore_n 3, 1) := by decide +kernel
theorem dX3_swapRows_5 : decode cX3_swapRows 5 = .ok (.aload_n 3, 1) := by decide +kernel
theorem dX3_swapRows_6 : decode cX3_swapRows 6 = .ok (.arraylength, 1) := by decide +kernel
theorem dX3_swapRows_7 : decode cX3_swapRows 7 = .ok (.istore 4, 2) := by decide +kernel
theorem dX3_swapRows_9 : decode cX3_swapRows 9 = .ok (.iconst 0, 1) := by decide +kernel
theorem dX3_swapRows_10 : decode cX3_swapRows 10 = .ok (.istore 5, 2) := by decide +kernel
theorem dX3_swapRows_12 : decode cX3_swapRows 12 = .ok (.iload 5, 2) := by decide +kernel
theorem dX3_swapRows_14 : decode cX3_swapRows 14 = .ok (.iload 4, 2) := by decide +kernel
theorem dX3_swapRows_16 : decode cX3_swapRows 16 = .ok (.if_icmp .ge 56, 3) := by decide +kernel
theorem dX3_swapRows_19 : decode cX3_swapRows 19 = .ok (.aload_n 3, 1) := by decide +kernel
theorem dX3_swapRows_20 : decode cX3_swapRows 20 = .ok (.iload 5, 2) := by decide +kernel
theorem dX3_swapRows_22 : decode cX3_swapRows 22 = .ok (.aaload, 1) := by decide +kernel
theorem dX3_swapRows_23 : decode cX3_swapRows 23 = .ok (.astore 6, 2) := by decide +kernel
theorem dX3_swapRows_25 : decode cX3_swapRows 25 = .ok (.aload 6, 2) := by decide +kernel
theorem dX3_swapRows_27 : decode cX3_swapRows 27 = .ok (.ifnonnull 6, 3) := by decide +kernel
theorem dX3_swapRows_30 : decode cX3_swapRows 30 = .ok (.goto 36, 3) := by decide +kernel
theorem dX3_swapRows_33 : decode cX3_swapRows 33 = .ok (.aload 6, 2) := by decide +kernel
theorem dX3_swapRows_35 : decode cX3_swapRows 35 = .ok (.getfield 128, 3) := by decide +kernel
theorem dX3_swapRows_38 : decode cX3_swapRows 38 = .ok (.aload_n 1, 1) := by decide +kernel
theorem dX3_swapRows_39 : decode cX3_swapRows 39 = .ok (.if_acmp .ne 12, 3) := by decide +kernel
theorem dX3_swapRows_42 : decode cX3_swapRows 42 = .ok (.aload 6, 2) := by decide +kernel
theorem dX3_swapRows_44 : decode cX3_swapRows 44 = .ok (.aload_n 2, 1) := by decide +kernel
theorem dX3_swapRows_45 : decode cX3_swapRows 45 = .ok (.putfield 128, 3) := by decide +kernel
theorem dX3_swapRows_48 : decode cX3_swapRows 48 = .ok (.goto 18, 3) := by decide +kernel
theorem dX3_swapRows_51 : decode cX3_swapRows 51 = .ok (.aload 6, 2) := by decide +kernel
theorem dX3_swapRows_53 : decode cX3_swapRows 53 = .ok (.getfield 128, 3) := by decide +kernel
theorem dX3_swapRows_56 : decode cX3_swapRows 56 = .ok (.aload_n 2, 1) := by decide +kernel
theorem dX3_swapRows_57 : decode cX3_swapRows 57 = .ok (.if_acmp .ne 9, 3) := by decide +kernel
theorem dX3_swapRows_60 : decode cX3_swapRows 60 = .ok (.aload 6, 2) := by decide +kernel
theorem dX3_swapRows_62 : decode cX3_swapRows 62 = .ok (.aload_n 1, 1) := by decide +kernel
theorem dX3_swapRows_63 : decode cX3_swapRows 63 = .ok (.putfield 128, 3) := by decide +kernel
theorem dX3_swapRows_66 : decode cX3_swapRows 66 = .ok (.iinc 5 1, 3) := by decide +kernel
theorem dX3_swapRows_69 : decode cX3_swapRows 69 = .ok (.goto (-57), 3) := by decide +kernel
theorem dX3_swapRows_72 : decode cX3_swapRows 72 = .ok (.return_, 1) := by decide +kernel
theorem dX3_rowsOf_0 : decode cX3_rowsOf 0 = .ok (.iconst 0, 1) := by decide +kernel
theorem dX3_rowsOf_1 : decode cX3_rowsOf 1 = .ok (.istore_n 2, 1) := by decide +kernel
theorem dX3_rowsOf_2 : decode cX3_rowsOf 2 = .ok (.aload_n 0, 1) := by decide +kernel
theorem dX3_rowsOf_3 : decode cX3_rowsOf 3 = .ok (.getfield 24, 3) := by decide +kernel
theorem dX3_rowsOf_6 : decode cX3_rowsOf 6 = .ok (.astore_n 3, 1) := by decide +kernel
theorem dX3_rowsOf_7 : decode cX3_rowsOf 7 = .ok (.aload_n 3, 1) := by decide +kernel
theorem dX3_rowsOf_8 : decode cX3_rowsOf 8 = .ok (.arraylength, 1) := by decide +kernel
theorem dX3_rowsOf_9 : decode cX3_rowsOf 9 = .ok (.istore 4, 2) := by decide +kernel
theorem dX3_rowsOf_11 : decode cX3_rowsOf 11 = .ok (.iconst 0, 1) := by decide +kernel
theorem dX3_rowsOf_12 : decode cX3_rowsOf 12 = .ok (.istore 5, 2) := by decide +kernel
theorem dX3_rowsOf_14 : decode cX3_rowsOf 14 = .ok (.iload 5, 2) := by decide +kernel
theorem dX3_rowsOf_16 : decode cX3_rowsOf 16 = .ok (.iload 4, 2) := by decide +kernel
theorem dX3_rowsOf_18 : decode cX3_rowsOf 18 = .ok (.if_icmp .ge 32, 3) := by decide +kernel
theorem dX3_rowsOf_21 : decode cX3_rowsOf 21 = .ok (.aload_n 3, 1) := by decide +kernel
theorem dX3_rowsOf_22 : decode cX3_rowsOf 22 = .ok (.iload 5, 2) := by decide +kernel
theorem dX3_rowsOf_24 : decode cX3_rowsOf 24 = .ok (.aaload, 1) := by decide +kernel
theorem dX3_rowsOf_25 : decode cX3_rowsOf 25 = .ok (.astore 6, 2) := by decide +kernel
theorem dX3_rowsOf_27 : decode cX3_rowsOf 27 = .ok (.aload 6, 2) := by decide +kernel
theorem dX3_rowsOf_29 : decode cX3_rowsOf 29 = .ok (.ifnull 15, 3) := by decide +kernel
theorem dX3_rowsOf_32 : decode cX3_rowsOf 32 = .ok (.aload 6, 2) := by decide +kernel
theorem dX3_rowsOf_34 : decode cX3_rowsOf 34 = .ok (.getfield 128, 3) := by decide +kernel
theorem dX3_rowsOf_37 : decode cX3_rowsOf 37 = .ok (.aload_n 1, 1) := by decide +kernel
theorem dX3_rowsOf_38 : decode cX3_rowsOf 38 = .ok (.if_acmp .ne 6, 3) := by decide +kernel
theorem dX3_rowsOf_41 : decode cX3_rowsOf 41 = .ok (.iinc 2 1, 3) := by decide +kernel
theorem dX3_rowsOf_44 : decode cX3_rowsOf 44 = .ok (.iinc 5 1, 3) := by decide +kernel
theorem dX3_rowsOf_47 : decode cX3_rowsOf 47 = .ok (.goto (-33), 3) := by decide +kernel
theorem dX3_rowsOf_50 : decode cX3_rowsOf 50 = .ok (.iload_n 2, 1) := by decide +kernel
theorem dX3_rowsOf_51 : decode cX3_rowsOf 51 = .ok (.ireturn, 1) := by decide +kernel
set_option maxRecDepth 20000 in
theorem ggX3_mayMatter_X3_restMayHold : GoodIn wsX3_mayMatter wsX3_restMayHold := goodIn_r _ [10, 3, 11, 12, 13, 14, 9, 15, 16, 1, 17, 18, 19, 20, 21, 22, 23, 61, 62, 63, 64, 65, 66, 52, 53, 54, 55, 56, 57] (by decide +kernel) (by decide +kernel)
set_option maxRecDepth 20000 in
theorem gX3_mayMatter_X3_restMayHold : GoodIn wsX3_mayMatter (wsV RX3 269 RX3 yX3_restMayHold wsX3_restMayHold) := goodIn_app (goodIn_of _ (by decide +kernel)) ggX3_mayMatter_X3_restMayHold
set_option maxRecDepth 20000 in
theorem ggX3_mayMatter_X0_mayHold : GoodIn wsX3_mayMatter wsX0_mayHold := goodIn_r _ [27, 22, 28, 29, 30, 31, 32, 23, 33, 34, 35, 36, 37, 38, 39, 40, 41, 20, 42, 43, 44, 45, 46, 47, 48, 49, 50, 51, 52, 53, 54, 55, 56, 57, 58, 59, 60] (by decide +kernel) (by decide +kernel)
set_option maxRecDepth 20000 in
theorem gX3_mayMatter_X0_mayHold : GoodIn wsX3_mayMatter (wsV RX3 273 RX0 yX0_mayHold wsX0_mayHold) := goodIn_app (goodIn_of _ (by decide +kernel)) ggX3_mayMatter_X0_mayHold
theorem dX3_mayMatter_0 : decode cX3_mayMatter 0 = .ok (.aload_n 1, 1) := by decide +kernel
theorem dX3_mayMatter_1 : decode cX3_mayMatter 1 = .ok (.getfield 87, 3) := by decide +kernel
theorem dX3_mayMatter_4 : decode cX3_mayMatter 4 = .ok (.ifCond .ne 10, 3) := by decide +kernel
theorem dX3_mayMatter_7 : decode cX3_mayMatter 7 = .ok (.aload_n 3, 1) := by decide +kernel
theorem dX3_mayMatter_8 : decode cX3_mayMatter 8 = .ok (.getfield 260, 3) := by decide +kernel
theorem dX3_mayMatter_11 : decode cX3_mayMatter 11 = .ok (.ifCond .ne 5, 3) := by decide +kernel
theorem dX3_mayMatter_14 : decode cX3_mayMatter 14 = .ok (.iconst 0, 1) := by decide +kernel
theorem dX3_mayMatter_15 : decode cX3_mayMatter 15 = .ok (.ireturn, 1) := by decide +kernel
theorem dX3_mayMatter_16 : decode cX3_mayMatter 16 = .ok (.aload_n 1, 1) := by decide +kernel
theorem dX3_mayMatter_17 : decode cX3_mayMatter 17 = .ok (.aload_n 0, 1) := by decide +kernel
theorem dX3_mayMatter_18 : decode cX3_mayMatter 18 = .ok (.getfield 14, 3) := by decide +kernel
theorem dX3_mayMatter_21 : decode cX3_mayMatter 21 = .ok (.if_acmp .ne 16, 3) := by decide +kernel
theorem dX3_mayMatter_24 : decode cX3_mayMatter 24 = .ok (.aload_n 0, 1) := by decide +kernel
theorem dX3_mayMatter_25 : decode cX3_mayMatter 25 = .ok (.aload_n 3, 1) := by decide +kernel
theorem dX3_mayMatter_26 : decode cX3_mayMatter 26 = .ok (.getfield 263, 3) := by decide +kernel
theorem dX3_mayMatter_29 : decode cX3_mayMatter 29 = .ok (.aload_n 3, 1) := by decide +kernel
theorem dX3_mayMatter_30 : decode cX3_mayMatter 30 = .ok (.getfield 266, 3) := by decide +kernel
theorem dX3_mayMatter_33 : decode cX3_mayMatter 33 = .ok (.invokevirtual 269, 3) := by decide +kernel
theorem dX3_mayMatter_36 : decode cX3_mayMatter 36 = .ok (.ireturn, 1) := by decide +kernel
theorem dX3_mayMatter_37 : decode cX3_mayMatter 37 = .ok (.aload_n 1, 1) := by decide +kernel
theorem dX3_mayMatter_38 : decode cX3_mayMatter 38 = .ok (.iload_n 2, 1) := by decide +kernel
theorem dX3_mayMatter_39 : decode cX3_mayMatter 39 = .ok (.aload_n 3, 1) := by decide +kernel
theorem dX3_mayMatter_40 : decode cX3_mayMatter 40 = .ok (.invokevirtual 273, 3) := by decide +kernel
theorem dX3_mayMatter_43 : decode cX3_mayMatter 43 = .ok (.ireturn, 1) := by decide +kernel
set_option maxRecDepth 20000 in
theorem ggX3_restMayHold_X3_holderOf : GoodIn wsX3_restMayHold wsX3_holderOf := goodIn_r _ [7, 8, 9, 1, 10, 11, 12, 13, 14, 15, 16, 17, 18, 19, 20, 21, 22, 23, 24, 25, 26, 27, 28] (by decide +kernel) (by decide +kernel)
set_option maxRecDepth 20000 in
theorem gX3_restMayHold_X3_holderOf : GoodIn wsX3_restMayHold (wsV RX3 118 RX3 yX3_holderOf wsX3_holderOf) := goodIn_app (goodIn_of _ (by decide +kernel)) ggX3_restMayHold_X3_holderOf
theorem dX3_restMayHold_0 : decode cX3_restMayHold 0 = .ok (.iload_n 1, 1) := by decide +kernel
theorem dX3_restMayHold_1 : decode cX3_restMayHold 1 = .ok (.istore_n 3, 1) := by decide +kernel
theorem dX3_restMayHold_2 : decode cX3_restMayHold 2 = .ok (.iconst 0, 1) := by decide +kernel
theorem dX3_restMayHold_3 : decode cX3_restMayHold 3 = .ok (.istore 4, 2) := by decide +kernel
theorem dX3_restMayHold_5 : decode cX3_restMayHold 5 = .ok (.iload 4, 2) := by decide +kernel
theorem dX3_restMayHold_7 : decode cX3_restMayHold 7 = .ok (.bipush 15, 2) := by decide +kernel
theorem dX3_restMayHold_9 : decode cX3_restMayHold 9 = .ok (.if_icmp .gt 38, 3) := by decide +kernel
theorem dX3_restMayHold_12 : decode cX3_restMayHold 12 = .ok (.iload_n 3, 1) := by decide +kernel
theorem dX3_restMayHold_13 : decode cX3_restMayHold 13 = .ok (.iload_n 2, 1) := by decide +kernel
theorem dX3_restMayHold_14 : decode cX3_restMayHold 14 = .ok (.if_icmp .gt 33, 3) := by decide +kernel
theorem dX3_restMayHold_17 : decode cX3_restMayHold 17 = .ok (.aload_n 0, 1) := by decide +kernel
theorem dX3_restMayHold_18 : decode cX3_restMayHold 18 = .ok (.iload_n 3, 1) := by decide +kernel
theorem dX3_restMayHold_19 : decode cX3_restMayHold 19 = .ok (.invokevirtual 118, 3) := by decide +kernel
theorem dX3_restMayHold_22 : decode cX3_restMayHold 22 = .ok (.astore 5, 2) := by decide +kernel
theorem dX3_restMayHold_24 : decode cX3_restMayHold 24 = .ok (.aload 5, 2) := by decide +kernel
theorem dX3_restMayHold_26 : decode cX3_restMayHold 26 = .ok (.aload_n 0, 1) := by decide +kernel
theorem dX3_restMayHold_27 : decode cX3_restMayHold 27 = .ok (.getfield 14, 3) := by decide +kernel
theorem dX3_restMayHold_30 : decode cX3_restMayHold 30 = .ok (.if_acmp .ne 5, 3) := by decide +kernel
theorem dX3_restMayHold_33 : decode cX3_restMayHold 33 = .ok (.iconst 1, 1) := by decide +kernel
theorem dX3_restMayHold_34 : decode cX3_restMayHold 34 = .ok (.ireturn, 1) := by decide +kernel
theorem dX3_restMayHold_35 : decode cX3_restMayHold 35 = .ok (.aload 5, 2) := by decide +kernel
theorem dX3_restMayHold_37 : decode cX3_restMayHold 37 = .ok (.getfield 61, 3) := by decide +kernel
theorem dX3_restMayHold_40 : decode cX3_restMayHold 40 = .ok (.istore_n 3, 1) := by decide +kernel
theorem dX3_restMayHold_41 : decode cX3_restMayHold 41 = .ok (.iinc 4 1, 3) := by decide +kernel
theorem dX3_restMayHold_44 : decode cX3_restMayHold 44 = .ok (.goto (-39), 3) := by decide +kernel
theorem dX3_restMayHold_47 : decode cX3_restMayHold 47 = .ok (.iconst 0, 1) := by decide +kernel
theorem dX3_restMayHold_48 : decode cX3_restMayHold 48 = .ok (.ireturn, 1) := by decide +kernel
set_option maxRecDepth 20000 in
theorem ggX3_leavesThatMayMatter_X0_leaves : GoodIn wsX3_leavesThatMayMatter wsX0_leaves := goodIn_r _ [5, 6, 7, 60, 61, 62, 63, 64, 65] (by decide +kernel) (by decide +kernel)
set_option maxRecDepth 20000 in
theorem gX3_leavesThatMayMatter_X0_leaves : GoodIn wsX3_leavesThatMayMatter (wsV RX3 226 RX0 yX0_leaves wsX0_leaves) := goodIn_app (goodIn_of _ (by decide +kernel)) ggX3_leavesThatMayMatter_X0_leaves
set_option maxRecDepth 20000 in
theorem ggX3_leavesThatMayMatter_X3_mayMatter : GoodIn wsX3_leavesThatMayMatter wsX3_mayMatter := goodIn_r _ [12, 13, 14, 15, 16, 17, 18, 19, 20, 11, 21, 22, 23, 24, 25, 26, 27, 28, 29, 30, 4, 31, 32, 33, 34, 35, 36, 37, 38, 39, 40, 41, 42, 43, 44, 45, 46, 6, 47, 48, 49, 50, 51, 7, 52, 53, 54, 55, 56, 57, 58, 59, 60, 61, 62, 63, 64, 65, 66, 67, 68, 69, 70, 71, 72, 73, 74] (by decide +kernel) (by decide +kernel)
set_option maxRecDepth 20000 in
theorem gX3_leavesThatMayMatter_X3_mayMatter : GoodIn wsX3_leavesThatMayMatter (wsV RX3 177 RX3 yX3_mayMatter wsX3_mayMatter) := goodIn_app (goodIn_of _ (by decide +kernel)) ggX3_leavesThatMayMatter_X3_mayMatter
theorem dX3_leavesThatMayMatter_0 : decode cX3_leavesThatMayMatter 0 = .ok (.iconst 0, 1) := by decide +kernel
theorem dX3_leavesThatMayMatter_1 : decode cX3_leavesThatMayMatter 1 = .ok (.istore_n 3, 1) := by decide +kernel
theorem dX3_leavesThatMayMatter_2 : decode cX3_leavesThatMayMatter 2 = .ok (.iconst 0, 1) := by decide +kernel
theorem dX3_leavesThatMayMatter_3 : decode cX3_leavesThatMayMatter 3 = .ok (.istore 4, 2) := by decide +kernel
theorem dX3_leavesThatMayMatter_5 : decode cX3_leavesThatMayMatter 5 = .ok (.iload 4, 2) := by decide +kernel
theorem dX3_leavesThatMayMatter_7 : decode cX3_leavesThatMayMatter 7 = .ok (.aload_n 1, 1) := by decide +kernel
theorem dX3_leavesThatMayMatter_8 : decode cX3_leavesThatMayMatter 8 = .ok (.invokevirtual 226, 3) := by decide +kernel
theorem dX3_leavesThatMayMatter_11 : decode cX3_leavesThatMayMatter 11 = .ok (.if_icmp .ge 23, 3) := by decide +kernel
theorem dX3_leavesThatMayMatter_14 : decode cX3_leavesThatMayMatter 14 = .ok (.aload_n 0, 1) := by decide +kernel
theorem dX3_leavesThatMayMatter_15 : decode cX3_leavesThatMayMatter 15 = .ok (.aload_n 1, 1) := by decide +kernel
theorem dX3_leavesThatMayMatter_16 : decode cX3_leavesThatMayMatter 16 = .ok (.iload 4, 2) := by decide +kernel
theorem dX3_leavesThatMayMatter_18 : decode cX3_leavesThatMayMatter 18 = .ok (.aload_n 2, 1) := by decide +kernel
theorem dX3_leavesThatMayMatter_19 : decode cX3_leavesThatMayMatter 19 = .ok (.invokevirtual 177, 3) := by decide +kernel
theorem dX3_leavesThatMayMatter_22 : decode cX3_leavesThatMayMatter 22 = .ok (.ifCond .eq 6, 3) := by decide +kernel
theorem dX3_leavesThatMayMatter_25 : decode cX3_leavesThatMayMatter 25 = .ok (.iinc 3 1, 3) := by decide +kernel
theorem dX3_leavesThatMayMatter_28 : decode cX3_leavesThatMayMatter 28 = .ok (.iinc 4 1, 3) := by decide +kernel
theorem dX3_leavesThatMayMatter_31 : decode cX3_leavesThatMayMatter 31 = .ok (.goto (-26), 3) := by decide +kernel
theorem dX3_leavesThatMayMatter_34 : decode cX3_leavesThatMayMatter 34 = .ok (.iload_n 3, 1) := by decide +kernel
theorem dX3_leavesThatMayMatter_35 : decode cX3_leavesThatMayMatter 35 = .ok (.ireturn, 1) := by decide +kernel
set_option maxRecDepth 20000 in
theorem ggX3_countInPart_X0_leaves : GoodIn wsX3_countInPart wsX0_leaves := goodIn_r _ [5, 6, 7, 86, 87, 88, 89, 90, 91] (by decide +kernel) (by decide +kernel)
set_option maxRecDepth 20000 in
theorem gX3_countInPart_X0_leaves : GoodIn wsX3_countInPart (wsV RX3 226 RX0 yX0_leaves wsX0_leaves) := goodIn_app (goodIn_of _ (by decide +kernel)) ggX3_countInPart_X0_leaves
set_option maxRecDepth 20000 in
theorem ggX3_countInPart_X3_mayMatter : GoodIn wsX3_countInPart wsX3_mayMatter := goodIn_r _ [12, 13, 14, 15, 16, 17, 18, 19, 20, 11, 21, 22, 23, 24, 25, 26, 27, 28, 29, 30, 4, 31, 32, 33, 34, 35, 36, 37, 38, 39, 40, 41, 42, 43, 44, 45, 46, 6, 47, 48, 49, 50, 51, 7, 52, 53, 54, 55, 56, 57, 58, 59, 86, 87, 88, 89, 90, 91, 92, 93, 94, 95, 96, 97, 98, 99, 100] (by decide +kernel) (by decide +kernel)
set_option maxRecDepth 20000 in
theorem gX3_countInPart_X3_mayMatter : GoodIn wsX3_countInPart (wsV RX3 177 RX3 yX3_mayMatter wsX3_mayMatter) := goodIn_app (goodIn_of _ (by decide +kernel)) ggX3_countInPart_X3_mayMatter
set_option maxRecDepth 20000 in
theorem ggX3_countInPart_X3_countInLeaf : GoodIn wsX3_countInPart wsX3_countInLeaf := goodIn_r _ [63, 64, 65, 66, 67, 68, 69, 70, 71, 72, 73, 74, 75, 4, 76, 6, 7, 77, 11, 78, 56, 57, 58, 59, 79, 80, 81, 82, 83, 84, 85, 95, 96, 97, 98, 99, 100, 101, 102, 103, 104, 86, 87, 88, 89, 90, 91, 92, 93, 94] (by decide +kernel) (by decide +kernel)
set_option maxRecDepth 20000 in
theorem gX3_countInPart_X3_countInLeaf : GoodIn wsX3_countInPart (wsV RX3 277 RX3 yX3_countInLeaf wsX3_countInLeaf) := goodIn_app (goodIn_of _ (by decide +kernel)) ggX3_countInPart_X3_countInLeaf
theorem dX3_countInPart_0 : decode cX3_countInPart 0 = .ok (.iconst 0, 1) := by decide +kernel
theorem dX3_countInPart_1 : decode cX3_countInPart 1 = .ok (.istore_n 3, 1) := by decide +kernel
theorem dX3_countInPart_2 : decode cX3_countInPart 2 = .ok (.iconst 0, 1) := by decide +kernel
theorem dX3_countInPart_3 : decode cX3_countInPart 3 = .ok (.istore 4, 2) := by decide +kernel
theorem dX3_countInPart_5 : decode cX3_countInPart 5 = .ok (.iload 4, 2) := by decide +kernel
theorem dX3_countInPart_7 : decode cX3_countInPart 7 = .ok (.aload_n 1, 1) := by decide +kernel
theorem dX3_countInPart_8 : decode cX3_countInPart 8 = .ok (.invokevirtual 226, 3) := by decide +kernel
theorem dX3_countInPart_11 : decode cX3_countInPart 11 = .ok (.if_icmp .ge 31, 3) := by decide +kernel
theorem dX3_countInPart_14 : decode cX3_countInPart 14 = .ok (.aload_n 0, 1) := by decide +kernel
theorem dX3_countInPart_15 : decode cX3_countInPart 15 = .ok (.aload_n 1, 1) := by decide +kernel
theorem dX3_countInPart_16 : decode cX3_countInPart 16 = .ok (.iload 4, 2) := by decide +kernel
theorem dX3_countInPart_18 : decode cX3_countInPart 18 = .ok (.aload_n 2, 1) := by decide +kernel
theorem dX3_countInPart_19 : decode cX3_countInPart 19 = .ok (.invokevirtual 177, 3) := by decide +kernel
theorem dX3_countInPart_22 : decode cX3_countInPart 22 = .ok (.ifCond .eq 14, 3) := by decide +kernel
theorem dX3_countInPart_25 : decode cX3_countInPart 25 = .ok (.iload_n 3, 1) := by decide +kernel
theorem dX3_countInPart_26 : decode cX3_countInPart 26 = .ok (.aload_n 0, 1) := by decide +kernel
theorem dX3_countInPart_27 : decode cX3_countInPart 27 = .ok (.aload_n 1, 1) := by decide +kernel
theorem dX3_countInPart_28 : decode cX3_countInPart 28 = .ok (.iload 4, 2) := by decide +kernel
theorem dX3_countInPart_30 : decode cX3_countInPart 30 = .ok (.aload_n 2, 1) := by decide +kernel
theorem dX3_countInPart_31 : decode cX3_countInPart 31 = .ok (.invokevirtual 277, 3) := by decide +kernel
theorem dX3_countInPart_34 : decode cX3_countInPart 34 = .ok (.iadd, 1) := by decide +kernel
theorem dX3_countInPart_35 : decode cX3_countInPart 35 = .ok (.istore_n 3, 1) := by decide +kernel
theorem dX3_countInPart_36 : decode cX3_countInPart 36 = .ok (.iinc 4 1, 3) := by decide +kernel
theorem dX3_countInPart_39 : decode cX3_countInPart 39 = .ok (.goto (-34), 3) := by decide +kernel
theorem dX3_countInPart_42 : decode cX3_countInPart 42 = .ok (.iload_n 3, 1) := by decide +kernel
theorem dX3_countInPart_43 : decode cX3_countInPart 43 = .ok (.ireturn, 1) := by decide +kernel
set_option maxRecDepth 20000 in
theorem ggX3_countInLeaf_X2_liesIn : GoodIn wsX3_countInLeaf wsX2_liesIn := goodIn_r _ [6, 7, 8, 9, 10, 11, 12, 13, 14, 15, 16, 17, 18, 19, 20, 21, 22, 23, 37, 38, 39, 40, 41, 42, 43, 44, 45, 46] (by decide +kernel) (by decide +kernel)
set_option maxRecDepth 20000 in
theorem gX3_countInLeaf_X2_liesIn : GoodIn wsX3_countInLeaf (wsV RX3 154 RX2 yX2_liesIn wsX2_liesIn) := goodIn_app (goodIn_of _ (by decide +kernel)) ggX3_countInLeaf_X2_liesIn
set_option maxRecDepth 20000 in
theorem ggX3_countInLeaf_X2_fits : GoodIn wsX3_countInLeaf wsX2_fits := goodIn_r _ [27, 8, 28, 29, 30, 9, 17, 18, 19, 37, 38, 39, 40, 47, 48, 49] (by decide +kernel) (by decide +kernel)
set_option maxRecDepth 20000 in
theorem gX3_countInLeaf_X2_fits : GoodIn wsX3_countInLeaf (wsV RX3 170 RX2 yX2_fits wsX2_fits) := goodIn_app (goodIn_of _ (by decide +kernel)) ggX3_countInLeaf_X2_fits
theorem dX3_countInLeaf_0 : decode cX3_countInLeaf 0 = .ok (.iconst 0, 1) := by decide +kernel
theorem dX3_countInLeaf_1 : decode cX3_countInLeaf 1 = .ok (.istore 4, 2) := by decide +kernel
theorem dX3_countInLeaf_3 : decode cX3_countInLeaf 3 = .ok (.aload_n 0, 1) := by decide +kernel
theorem dX3_countInLeaf_4 : decode cX3_countInLeaf 4 = .ok (.getfield 24, 3) := by decide +kernel
theorem dX3_countInLeaf_7 : decode cX3_countInLeaf 7 = .ok (.astore 5, 2) := by decide +kernel
theorem dX3_countInLeaf_9 : decode cX3_countInLeaf 9 = .ok (.aload 5, 2) := by decide +kernel
theorem dX3_countInLeaf_11 : decode cX3_countInLeaf 11 = .ok (.arraylength, 1) := by decide +kernel
theorem dX3_countInLeaf_12 : decode cX3_countInLeaf 12 = .ok (.istore 6, 2) := by decide +kernel
theorem dX3_countInLeaf_14 : decode cX3_countInLeaf 14 = .ok (.iconst 0, 1) := by decide +kernel
theorem dX3_countInLeaf_15 : decode cX3_countInLeaf 15 = .ok (.istore 7, 2) := by decide +kernel
theorem dX3_countInLeaf_17 : decode cX3_countInLeaf 17 = .ok (.iload 7, 2) := by decide +kernel
theorem dX3_countInLeaf_19 : decode cX3_countInLeaf 19 = .ok (.iload 6, 2) := by decide +kernel
theorem dX3_countInLeaf_21 : decode cX3_countInLeaf 21 = .ok (.if_icmp .ge 43, 3) := by decide +kernel
theorem dX3_countInLeaf_24 : decode cX3_countInLeaf 24 = .ok (.aload 5, 2) := by decide +kernel
theorem dX3_countInLeaf_26 : decode cX3_countInLeaf 26 = .ok (.iload 7, 2) := by decide +kernel
theorem dX3_countInLeaf_28 : decode cX3_countInLeaf 28 = .ok (.aaload, 1) := by decide +kernel
theorem dX3_countInLeaf_29 : decode cX3_countInLeaf 29 = .ok (.astore 8, 2) := by decide +kernel
theorem dX3_countInLeaf_31 : decode cX3_countInLeaf 31 = .ok (.aload 8, 2) := by decide +kernel
theorem dX3_countInLeaf_33 : decode cX3_countInLeaf 33 = .ok (.ifnull 25, 3) := by decide +kernel
theorem dX3_countInLeaf_36 : decode cX3_countInLeaf 36 = .ok (.aload 8, 2) := by decide +kernel
theorem dX3_countInLeaf_38 : decode cX3_countInLeaf 38 = .ok (.aload_n 1, 1) := by decide +kernel
theorem dX3_countInLeaf_39 : decode cX3_countInLeaf 39 = .ok (.iload_n 2, 1) := by decide +kernel
theorem dX3_countInLeaf_40 : decode cX3_countInLeaf 40 = .ok (.invokevirtual 154, 3) := by decide +kernel
theorem dX3_countInLeaf_43 : decode cX3_countInLeaf 43 = .ok (.ifCond .eq 15, 3) := by decide +kernel
theorem dX3_countInLeaf_46 : decode cX3_countInLeaf 46 = .ok (.aload 8, 2) := by decide +kernel
theorem dX3_countInLeaf_48 : decode cX3_countInLeaf 48 = .ok (.aload_n 3, 1) := by decide +kernel
theorem dX3_countInLeaf_49 : decode cX3_countInLeaf 49 = .ok (.invokevirtual 170, 3) := by decide +kernel
theorem dX3_countInLeaf_52 : decode cX3_countInLeaf 52 = .ok (.ifCond .eq 6, 3) := by decide +kernel
theorem dX3_countInLeaf_55 : decode cX3_countInLeaf 55 = .ok (.iinc 4 1, 3) := by decide +kernel
theorem dX3_countInLeaf_58 : decode cX3_countInLeaf 58 = .ok (.iinc 7 1, 3) := by decide +kernel
theorem dX3_countInLeaf_61 : decode cX3_countInLeaf 61 = .ok (.goto (-44), 3) := by decide +kernel
theorem dX3_countInLeaf_64 : decode cX3_countInLeaf 64 = .ok (.iload 4, 2) := by decide +kernel
theorem dX3_countInLeaf_66 : decode cX3_countInLeaf 66 = .ok (.ireturn, 1) := by decide +kernel
theorem dX3_hasSort_0 : decode cX3_hasSort 0 = .ok (.iload_n 0, 1) := by decide +kernel
theorem dX3_hasSort_1 : decode cX3_hasSort 1 = .ok (.iload_n 1, 1) := by decide +kernel
theorem dX3_hasSort_2 : decode cX3_hasSort 2 = .ok (.ishr, 1) := by decide +kernel
theorem dX3_hasSort_3 : decode cX3_hasSort 3 = .ok (.iconst 1, 1) := by decide +kernel
theorem dX3_hasSort_4 : decode cX3_hasSort 4 = .ok (.iand, 1) := by decide +kernel
theorem dX3_hasSort_5 : decode cX3_hasSort 5 = .ok (.iconst 1, 1) := by decide +kernel
theorem dX3_hasSort_6 : decode cX3_hasSort 6 = .ok (.if_icmp .ne 7, 3) := by decide +kernel
theorem dX3_hasSort_9 : decode cX3_hasSort 9 = .ok (.iconst 1, 1) := by decide +kernel
theorem dX3_hasSort_10 : decode cX3_hasSort 10 = .ok (.goto 4, 3) := by decide +kernel
theorem dX3_hasSort_13 : decode cX3_hasSort 13 = .ok (.iconst 0, 1) := by decide +kernel
theorem dX3_hasSort_14 : decode cX3_hasSort 14 = .ok (.ireturn, 1) := by decide +kernel
end
section
theorem dX4_init_0 : decode cX4_init 0 = .ok (.aload_n 0, 1) := by decide +kernel
theorem dX4_init_1 : decode cX4_init 1 = .ok (.invokespecial 1, 3) := by decide +kernel
theorem dX4_init_4 : decode cX4_init 4 = .ok (.aload_n 0, 1) := by decide +kernel
theorem dX4_init_5 : decode cX4_init 5 = .ok (.bipush 16, 2) := by decide +kernel
theorem dX4_init_7 : decode cX4_init 7 = .ok (.newarray .int, 2) := by decide +kernel
theorem dX4_init_9 : decode cX4_init 9 = .ok (.putfield 7, 3) := by decide +kernel
theorem dX4_init_12 : decode cX4_init 12 = .ok (.aload_n 0, 1) := by decide +kernel
theorem dX4_init_13 : decode cX4_init 13 = .ok (.bipush 16, 2) := by decide +kernel
theorem dX4_init_15 : decode cX4_init 15 = .ok (.newarray .int, 2) := by decide +kernel
theorem dX4_init_17 : decode cX4_init 17 = .ok (.putfield 13, 3) := by decide +kernel
theorem dX4_init_20 : decode cX4_init 20 = .ok (.aload_n 0, 1) := by decide +kernel
theorem dX4_init_21 : decode cX4_init 21 = .ok (.bipush 16, 2) := by decide +kernel
theorem dX4_init_23 : decode cX4_init 23 = .ok (.newarray .int, 2) := by decide +kernel
theorem dX4_init_25 : decode cX4_init 25 = .ok (.putfield 16, 3) := by decide +kernel
theorem dX4_init_28 : decode cX4_init 28 = .ok (.aload_n 0, 1) := by decide +kernel
theorem dX4_init_29 : decode cX4_init 29 = .ok (.bipush 16, 2) := by decide +kernel
theorem dX4_init_31 : decode cX4_init 31 = .ok (.newarray .int, 2) := by decide +kernel
theorem dX4_init_33 : decode cX4_init 33 = .ok (.putfield 19, 3) := by decide +kernel
theorem dX4_init_36 : decode cX4_init 36 = .ok (.aload_n 0, 1) := by decide +kernel
theorem dX4_init_37 : decode cX4_init 37 = .ok (.bipush 16, 2) := by decide +kernel
theorem dX4_init_39 : decode cX4_init 39 = .ok (.newarray .int, 2) := by decide +kernel
theorem dX4_init_41 : decode cX4_init 41 = .ok (.putfield 22, 3) := by decide +kernel
theorem dX4_init_44 : decode cX4_init 44 = .ok (.aload_n 0, 1) := by decide +kernel
theorem dX4_init_45 : decode cX4_init 45 = .ok (.sipush 200, 3) := by decide +kernel
theorem dX4_init_48 : decode cX4_init 48 = .ok (.newarray .int, 2) := by decide +kernel
theorem dX4_init_50 : decode cX4_init 50 = .ok (.putfield 25, 3) := by decide +kernel
theorem dX4_init_53 : decode cX4_init 53 = .ok (.aload_n 0, 1) := by decide +kernel
theorem dX4_init_54 : decode cX4_init 54 = .ok (.sipush 200, 3) := by decide +kernel
theorem dX4_init_57 : decode cX4_init 57 = .ok (.newarray .int, 2) := by decide +kernel
theorem dX4_init_59 : decode cX4_init 59 = .ok (.putfield 28, 3) := by decide +kernel
theorem dX4_init_62 : decode cX4_init 62 = .ok (.aload_n 0, 1) := by decide +kernel
theorem dX4_init_63 : decode cX4_init 63 = .ok (.sipush 200, 3) := by decide +kernel
theorem dX4_init_66 : decode cX4_init 66 = .ok (.newarray .int, 2) := by decide +kernel
theorem dX4_init_68 : decode cX4_init 68 = .ok (.putfield 31, 3) := by decide +kernel
theorem dX4_init_71 : decode cX4_init 71 = .ok (.aload_n 0, 1) := by decide +kernel
theorem dX4_init_72 : decode cX4_init 72 = .ok (.sipush 200, 3) := by decide +kernel
theorem dX4_init_75 : decode cX4_init 75 = .ok (.newarray .int, 2) := by decide +kernel
theorem dX4_init_77 : decode cX4_init 77 = .ok (.putfield 34, 3) := by decide +kernel
theorem dX4_init_80 : decode cX4_init 80 = .ok (.return_, 1) := by decide +kernel
theorem dX4_thrown_0 : decode cX4_thrown 0 = .ok (.aload_n 0, 1) := by decide +kernel
theorem dX4_thrown_1 : decode cX4_thrown 1 = .ok (.getfield 37, 3) := by decide +kernel
theorem dX4_thrown_4 : decode cX4_thrown 4 = .ok (.ireturn, 1) := by decide +kernel
theorem dX4_isFine_0 : decode cX4_isFine 0 = .ok (.aload_n 0, 1) := by decide +kernel
theorem dX4_isFine_1 : decode cX4_isFine 1 = .ok (.iload_n 1, 1) := by decide +kernel
theorem dX4_isFine_2 : decode cX4_isFine 2 = .ok (.putfield 37, 3) := by decide +kernel
theorem dX4_isFine_5 : decode cX4_isFine 5 = .ok (.iload_n 1, 1) := by decide +kernel
theorem dX4_isFine_6 : decode cX4_isFine 6 = .ok (.ifCond .ne 7, 3) := by decide +kernel
theorem dX4_isFine_9 : decode cX4_isFine 9 = .ok (.iconst 1, 1) := by decide +kernel
theorem dX4_isFine_10 : decode cX4_isFine 10 = .ok (.goto 4, 3) := by decide +kernel
theorem dX4_isFine_13 : decode cX4_isFine 13 = .ok (.iconst 0, 1) := by decide +kernel
theorem dX4_isFine_14 : decode cX4_isFine 14 = .ok (.ireturn, 1) := by decide +kernel
theorem dX4_isIn_0 : decode cX4_isIn 0 = .ok (.iload_n 0, 1) := by decide +kernel
theorem dX4_isIn_1 : decode cX4_isIn 1 = .ok (.iload_n 1, 1) := by decide +kernel
theorem dX4_isIn_2 : decode cX4_isIn 2 = .ok (.if_icmp .lt 12, 3) := by decide +kernel
theorem dX4_isIn_5 : decode cX4_isIn 5 = .ok (.iload_n 0, 1) := by decide +kernel
theorem dX4_isIn_6 : decode cX4_isIn 6 = .ok (.iload_n 2, 1) := by decide +kernel
theorem dX4_isIn_7 : decode cX4_isIn 7 = .ok (.if_icmp .gt 7, 3) := by decide +kernel
theorem dX4_isIn_10 : decode cX4_isIn 10 = .ok (.iconst 1, 1) := by decide +kernel
theorem dX4_isIn_11 : decode cX4_isIn 11 = .ok (.goto 4, 3) := by decide +kernel
theorem dX4_isIn_14 : decode cX4_isIn 14 = .ok (.iconst 0, 1) := by decide +kernel
theorem dX4_isIn_15 : decode cX4_isIn 15 = .ok (.ireturn, 1) := by decide +kernel
set_option maxRecDepth 20000 in
theorem ggX4_isKey_X4_isIn : GoodIn wsX4_isKey wsX4_isIn := goodIn_r _ [4] (by decide +kernel) (by decide +kernel)
set_option maxRecDepth 20000 in
theorem gX4_isKey_X4_isIn : GoodIn wsX4_isKey (va_wsS RX4 41 yX4_isIn wsX4_isIn) := goodIn_app (goodIn_of _ (by decide +kernel)) ggX4_isKey_X4_isIn
theorem dX4_isKey_0 : decode cX4_isKey 0 = .ok (.iload_n 0, 1) := by decide +kernel
theorem dX4_isKey_1 : decode cX4_isKey 1 = .ok (.iconst 0, 1) := by decide +kernel
theorem dX4_isKey_2 : decode cX4_isKey 2 = .ok (.sipush 999, 3) := by decide +kernel
theorem dX4_isKey_5 : decode cX4_isKey 5 = .ok (.invokestatic 41, 3) := by decide +kernel
theorem dX4_isKey_8 : decode cX4_isKey 8 = .ok (.ireturn, 1) := by decide +kernel
set_option maxRecDepth 20000 in
theorem ggX4_isPart_X4_isIn : GoodIn wsX4_isPart wsX4_isIn := goodIn_r _ [6] (by decide +kernel) (by decide +kernel)
set_option maxRecDepth 20000 in
theorem gX4_isPart_X4_isIn : GoodIn wsX4_isPart (va_wsS RX4 41 yX4_isIn wsX4_isIn) := goodIn_app (goodIn_of _ (by decide +kernel)) ggX4_isPart_X4_isIn
theorem dX4_isPart_0 : decode cX4_isPart 0 = .ok (.iload_n 1, 1) := by decide +kernel
theorem dX4_isPart_1 : decode cX4_isPart 1 = .ok (.iconst 1, 1) := by decide +kernel
theorem dX4_isPart_2 : decode cX4_isPart 2 = .ok (.aload_n 0, 1) := by decide +kernel
theorem dX4_isPart_3 : decode cX4_isPart 3 = .ok (.getfield 45, 3) := by decide +kernel
theorem dX4_isPart_6 : decode cX4_isPart 6 = .ok (.invokestatic 41, 3) := by decide +kernel
theorem dX4_isPart_9 : decode cX4_isPart 9 = .ok (.ifCond .eq 17, 3) := by decide +kernel
theorem dX4_isPart_12 : decode cX4_isPart 12 = .ok (.aload_n 0, 1) := by decide +kernel
theorem dX4_isPart_13 : decode cX4_isPart 13 = .ok (.getfield 22, 3) := by decide +kernel
theorem dX4_isPart_16 : decode cX4_isPart 16 = .ok (.iload_n 1, 1) := by decide +kernel
theorem dX4_isPart_17 : decode cX4_isPart 17 = .ok (.iaload, 1) := by decide +kernel
theorem dX4_isPart_18 : decode cX4_isPart 18 = .ok (.iconst 2, 1) := by decide +kernel
theorem dX4_isPart_19 : decode cX4_isPart 19 = .ok (.if_icmp .eq 7, 3) := by decide +kernel
theorem dX4_isPart_22 : decode cX4_isPart 22 = .ok (.iconst 1, 1) := by decide +kernel
theorem dX4_isPart_23 : decode cX4_isPart 23 = .ok (.goto 4, 3) := by decide +kernel
theorem dX4_isPart_26 : decode cX4_isPart 26 = .ok (.iconst 0, 1) := by decide +kernel
theorem dX4_isPart_27 : decode cX4_isPart 27 = .ok (.ireturn, 1) := by decide +kernel
set_option maxRecDepth 20000 in
theorem ggX4_isAny_X4_isPart : GoodIn wsX4_isAny wsX4_isPart := goodIn_r _ [5, 6, 7, 8, 9, 4, 10, 11, 12, 13, 14, 15, 16, 17, 18, 19, 20, 21, 22, 23] (by decide +kernel) (by decide +kernel)
set_option maxRecDepth 20000 in
theorem gX4_isAny_X4_isPart : GoodIn wsX4_isAny (wsV RX4 48 RX4 yX4_isPart wsX4_isPart) := goodIn_app (goodIn_of _ (by decide +kernel)) ggX4_isAny_X4_isPart
theorem dX4_isAny_0 : decode cX4_isAny 0 = .ok (.iload_n 1, 1) := by decide +kernel
theorem dX4_isAny_1 : decode cX4_isAny 1 = .ok (.ifCond .eq 11, 3) := by decide +kernel
theorem dX4_isAny_4 : decode cX4_isAny 4 = .ok (.aload_n 0, 1) := by decide +kernel
theorem dX4_isAny_5 : decode cX4_isAny 5 = .ok (.iload_n 1, 1) := by decide +kernel
theorem dX4_isAny_6 : decode cX4_isAny 6 = .ok (.invokevirtual 48, 3) := by decide +kernel
theorem dX4_isAny_9 : decode cX4_isAny 9 = .ok (.ifCond .eq 7, 3) := by decide +kernel
theorem dX4_isAny_12 : decode cX4_isAny 12 = .ok (.iconst 1, 1) := by decide +kernel
theorem dX4_isAny_13 : decode cX4_isAny 13 = .ok (.goto 4, 3) := by decide +kernel
theorem dX4_isAny_16 : decode cX4_isAny 16 = .ok (.iconst 0, 1) := by decide +kernel
theorem dX4_isAny_17 : decode cX4_isAny 17 = .ok (.ireturn, 1) := by decide +kernel
set_option maxRecDepth 20000 in
theorem ggX4_isRow_X4_isIn : GoodIn wsX4_isRow wsX4_isIn := goodIn_r _ [6] (by decide +kernel) (by decide +kernel)
set_option maxRecDepth 20000 in
theorem gX4_isRow_X4_isIn : GoodIn wsX4_isRow (va_wsS RX4 41 yX4_isIn wsX4_isIn) := goodIn_app (goodIn_of _ (by decide +kernel)) ggX4_isRow_X4_isIn
theorem dX4_isRow_0 : decode cX4_isRow 0 = .ok (.iload_n 1, 1) := by decide +kernel
theorem dX4_isRow_1 : decode cX4_isRow 1 = .ok (.iconst 0, 1) := by decide +kernel
theorem dX4_isRow_2 : decode cX4_isRow 2 = .ok (.aload_n 0, 1) := by decide +kernel
theorem dX4_isRow_3 : decode cX4_isRow 3 = .ok (.getfield 52, 3) := by decide +kernel
theorem dX4_isRow_6 : decode cX4_isRow 6 = .ok (.iconst 1, 1) := by decide +kernel
theorem dX4_isRow_7 : decode cX4_isRow 7 = .ok (.isub, 1) := by decide +kernel
theorem dX4_isRow_8 : decode cX4_isRow 8 = .ok (.invokestatic 41, 3) := by decide +kernel
theorem dX4_isRow_11 : decode cX4_isRow 11 = .ok (.ifCond .eq 17, 3) := by decide +kernel
theorem dX4_isRow_14 : decode cX4_isRow 14 = .ok (.aload_n 0, 1) := by decide +kernel
theorem dX4_isRow_15 : decode cX4_isRow 15 = .ok (.getfield 25, 3) := by decide +kernel
theorem dX4_isRow_18 : decode cX4_isRow 18 = .ok (.iload_n 1, 1) := by decide +kernel
theorem dX4_isRow_19 : decode cX4_isRow 19 = .ok (.iaload, 1) := by decide +kernel
theorem dX4_isRow_20 : decode cX4_isRow 20 = .ok (.iconst (-1), 1) := by decide +kernel
theorem dX4_isRow_21 : decode cX4_isRow 21 = .ok (.if_icmp .eq 7, 3) := by decide +kernel
theorem dX4_isRow_24 : decode cX4_isRow 24 = .ok (.iconst 1, 1) := by decide +kernel
theorem dX4_isRow_25 : decode cX4_isRow 25 = .ok (.goto 4, 3) := by decide +kernel
theorem dX4_isRow_28 : decode cX4_isRow 28 = .ok (.iconst 0, 1) := by decide +kernel
theorem dX4_isRow_29 : decode cX4_isRow 29 = .ok (.ireturn, 1) := by decide +kernel
theorem dX4_isAttached_0 : decode cX4_isAttached 0 = .ok (.iload_n 1, 1) := by decide +kernel
theorem dX4_isAttached_1 : decode cX4_isAttached 1 = .ok (.ifCond .le 16, 3) := by decide +kernel
theorem dX4_isAttached_4 : decode cX4_isAttached 4 = .ok (.aload_n 0, 1) := by decide +kernel
theorem dX4_isAttached_5 : decode cX4_isAttached 5 = .ok (.getfield 22, 3) := by decide +kernel
theorem dX4_isAttached_8 : decode cX4_isAttached 8 = .ok (.iload_n 1, 1) := by decide +kernel
theorem dX4_isAttached_9 : decode cX4_isAttached 9 = .ok (.iaload, 1) := by decide +kernel
theorem dX4_isAttached_10 : decode cX4_isAttached 10 = .ok (.ifCond .ne 7, 3) := by decide +kernel
theorem dX4_isAttached_13 : decode cX4_isAttached 13 = .ok (.iconst 1, 1) := by decide +kernel
theorem dX4_isAttached_14 : decode cX4_isAttached 14 = .ok (.goto 4, 3) := by decide +kernel
theorem dX4_isAttached_17 : decode cX4_isAttached 17 = .ok (.iconst 0, 1) := by decide +kernel
theorem dX4_isAttached_18 : decode cX4_isAttached 18 = .ok (.ireturn, 1) := by decide +kernel
set_option maxRecDepth 20000 in
theorem ggX4_hasKey_X4_isIn : GoodIn wsX4_hasKey wsX4_isIn := goodIn_r _ [6] (by decide +kernel) (by decide +kernel)
set_option maxRecDepth 20000 in
theorem gX4_hasKey_X4_isIn : GoodIn wsX4_hasKey (va_wsS RX4 41 yX4_isIn wsX4_isIn) := goodIn_app (goodIn_of _ (by decide +kernel)) ggX4_hasKey_X4_isIn
theorem dX4_hasKey_0 : decode cX4_hasKey 0 = .ok (.iload_n 2, 1) := by decide +kernel
theorem dX4_hasKey_1 : decode cX4_hasKey 1 = .ok (.aload_n 0, 1) := by decide +kernel
theorem dX4_hasKey_2 : decode cX4_hasKey 2 = .ok (.getfield 7, 3) := by decide +kernel
theorem dX4_hasKey_5 : decode cX4_hasKey 5 = .ok (.iload_n 1, 1) := by decide +kernel
theorem dX4_hasKey_6 : decode cX4_hasKey 6 = .ok (.iaload, 1) := by decide +kernel
theorem dX4_hasKey_7 : decode cX4_hasKey 7 = .ok (.aload_n 0, 1) := by decide +kernel
theorem dX4_hasKey_8 : decode cX4_hasKey 8 = .ok (.getfield 13, 3) := by decide +kernel
theorem dX4_hasKey_11 : decode cX4_hasKey 11 = .ok (.iload_n 1, 1) := by decide +kernel
theorem dX4_hasKey_12 : decode cX4_hasKey 12 = .ok (.iaload, 1) := by decide +kernel
theorem dX4_hasKey_13 : decode cX4_hasKey 13 = .ok (.iconst 1, 1) := by decide +kernel
theorem dX4_hasKey_14 : decode cX4_hasKey 14 = .ok (.isub, 1) := by decide +kernel
theorem dX4_hasKey_15 : decode cX4_hasKey 15 = .ok (.invokestatic 41, 3) := by decide +kernel
theorem dX4_hasKey_18 : decode cX4_hasKey 18 = .ok (.ireturn, 1) := by decide +kernel
set_option maxRecDepth 20000 in
theorem ggX4_partWith_X4_isAttached : GoodIn wsX4_partWith wsX4_isAttached := goodIn_r _ [6, 7, 17, 18, 19, 20, 21, 22, 23, 24, 25, 26, 27, 28, 29] (by decide +kernel) (by decide +kernel)
set_option maxRecDepth 20000 in
theorem gX4_partWith_X4_isAttached : GoodIn wsX4_partWith (wsV RX4 55 RX4 yX4_isAttached wsX4_isAttached) := goodIn_app (goodIn_of _ (by decide +kernel)) ggX4_partWith_X4_isAttached
set_option maxRecDepth 20000 in
theorem ggX4_partWith_X4_hasKey : GoodIn wsX4_partWith wsX4_hasKey := goodIn_r _ [11, 12, 13, 14, 15, 5, 16, 17, 18, 19, 20, 21, 22, 23, 24, 25, 26, 27, 28, 29] (by decide +kernel) (by decide +kernel)
set_option maxRecDepth 20000 in
theorem gX4_partWith_X4_hasKey : GoodIn wsX4_partWith (wsV RX4 58 RX4 yX4_hasKey wsX4_hasKey) := goodIn_app (goodIn_of _ (by decide +kernel)) ggX4_partWith_X4_hasKey
theorem dX4_partWith_0 : decode cX4_partWith 0 = .ok (.iconst 1, 1) := by decide +kernel
theorem dX4_partWith_1 : decode cX4_partWith 1 = .ok (.istore_n 2, 1) := by decide +kernel
theorem dX4_partWith_2 : decode cX4_partWith 2 = .ok (.iload_n 2, 1) := by decide +kernel
theorem dX4_partWith_3 : decode cX4_partWith 3 = .ok (.aload_n 0, 1) := by decide +kernel
theorem dX4_partWith_4 : decode cX4_partWith 4 = .ok (.getfield 45, 3) := by decide +kernel
theorem dX4_partWith_7 : decode cX4_partWith 7 = .ok (.if_icmp .gt 28, 3) := by decide +kernel
theorem dX4_partWith_10 : decode cX4_partWith 10 = .ok (.aload_n 0, 1) := by decide +kernel
theorem dX4_partWith_11 : decode cX4_partWith 11 = .ok (.iload_n 2, 1) := by decide +kernel
theorem dX4_partWith_12 : decode cX4_partWith 12 = .ok (.invokevirtual 55, 3) := by decide +kernel
theorem dX4_partWith_15 : decode cX4_partWith 15 = .ok (.ifCond .eq 14, 3) := by decide +kernel
theorem dX4_partWith_18 : decode cX4_partWith 18 = .ok (.aload_n 0, 1) := by decide +kernel
theorem dX4_partWith_19 : decode cX4_partWith 19 = .ok (.iload_n 2, 1) := by decide +kernel
theorem dX4_partWith_20 : decode cX4_partWith 20 = .ok (.iload_n 1, 1) := by decide +kernel
theorem dX4_partWith_21 : decode cX4_partWith 21 = .ok (.invokevirtual 58, 3) := by decide +kernel
theorem dX4_partWith_24 : decode cX4_partWith 24 = .ok (.ifCond .eq 5, 3) := by decide +kernel
theorem dX4_partWith_27 : decode cX4_partWith 27 = .ok (.iload_n 2, 1) := by decide +kernel
theorem dX4_partWith_28 : decode cX4_partWith 28 = .ok (.ireturn, 1) := by decide +kernel
theorem dX4_partWith_29 : decode cX4_partWith 29 = .ok (.iinc 2 1, 3) := by decide +kernel
theorem dX4_partWith_32 : decode cX4_partWith 32 = .ok (.goto (-30), 3) := by decide +kernel
theorem dX4_partWith_35 : decode cX4_partWith 35 = .ok (.iconst 0, 1) := by decide +kernel
theorem dX4_partWith_36 : decode cX4_partWith 36 = .ok (.ireturn, 1) := by decide +kernel
theorem dX4_leaves_0 : decode cX4_leaves 0 = .ok (.iload_n 1, 1) := by decide +kernel
theorem dX4_leaves_1 : decode cX4_leaves 1 = .ok (.ifCond .eq 12, 3) := by decide +kernel
theorem dX4_leaves_4 : decode cX4_leaves 4 = .ok (.aload_n 0, 1) := by decide +kernel
theorem dX4_leaves_5 : decode cX4_leaves 5 = .ok (.getfield 16, 3) := by decide +kernel
theorem dX4_leaves_8 : decode cX4_leaves 8 = .ok (.iload_n 1, 1) := by decide +kernel
theorem dX4_leaves_9 : decode cX4_leaves 9 = .ok (.iaload, 1) := by decide +kernel
theorem dX4_leaves_10 : decode cX4_leaves 10 = .ok (.ifCond .ne 7, 3) := by decide +kernel
theorem dX4_leaves_13 : decode cX4_leaves 13 = .ok (.iconst 1, 1) := by decide +kernel
theorem dX4_leaves_14 : decode cX4_leaves 14 = .ok (.goto 23, 3) := by decide +kernel
theorem dX4_leaves_17 : decode cX4_leaves 17 = .ok (.aload_n 0, 1) := by decide +kernel
theorem dX4_leaves_18 : decode cX4_leaves 18 = .ok (.getfield 16, 3) := by decide +kernel
theorem dX4_leaves_21 : decode cX4_leaves 21 = .ok (.iload_n 1, 1) := by decide +kernel
theorem dX4_leaves_22 : decode cX4_leaves 22 = .ok (.iaload, 1) := by decide +kernel
theorem dX4_leaves_23 : decode cX4_leaves 23 = .ok (.iconst 1, 1) := by decide +kernel
theorem dX4_leaves_24 : decode cX4_leaves 24 = .ok (.if_icmp .ne 7, 3) := by decide +kernel
theorem dX4_leaves_27 : decode cX4_leaves 27 = .ok (.iconst 2, 1) := by decide +kernel
theorem dX4_leaves_28 : decode cX4_leaves 28 = .ok (.goto 9, 3) := by decide +kernel
theorem dX4_leaves_31 : decode cX4_leaves 31 = .ok (.aload_n 0, 1) := by decide +kernel
theorem dX4_leaves_32 : decode cX4_leaves 32 = .ok (.getfield 19, 3) := by decide +kernel
theorem dX4_leaves_35 : decode cX4_leaves 35 = .ok (.iload_n 1, 1) := by decide +kernel
theorem dX4_leaves_36 : decode cX4_leaves 36 = .ok (.iaload, 1) := by decide +kernel
theorem dX4_leaves_37 : decode cX4_leaves 37 = .ok (.ireturn, 1) := by decide +kernel
theorem dX4_leaf_0 : decode cX4_leaf 0 = .ok (.iload_n 1, 1) := by decide +kernel
theorem dX4_leaf_1 : decode cX4_leaf 1 = .ok (.ifCond .eq 12, 3) := by decide +kernel
theorem dX4_leaf_4 : decode cX4_leaf 4 = .ok (.aload_n 0, 1) := by decide +kernel
theorem dX4_leaf_5 : decode cX4_leaf 5 = .ok (.getfield 16, 3) := by decide +kernel
theorem dX4_leaf_8 : decode cX4_leaf 8 = .ok (.iload_n 1, 1) := by decide +kernel
theorem dX4_leaf_9 : decode cX4_leaf 9 = .ok (.iaload, 1) := by decide +kernel
theorem dX4_leaf_10 : decode cX4_leaf 10 = .ok (.ifCond .ne 5, 3) := by decide +kernel
theorem dX4_leaf_13 : decode cX4_leaf 13 = .ok (.iconst 0, 1) := by decide +kernel
theorem dX4_leaf_14 : decode cX4_leaf 14 = .ok (.ireturn, 1) := by decide +kernel
theorem dX4_leaf_15 : decode cX4_leaf 15 = .ok (.aload_n 0, 1) := by decide +kernel
theorem dX4_leaf_16 : decode cX4_leaf 16 = .ok (.getfield 16, 3) := by decide +kernel
theorem dX4_leaf_19 : decode cX4_leaf 19 = .ok (.iload_n 1, 1) := by decide +kernel
theorem dX4_leaf_20 : decode cX4_leaf 20 = .ok (.iaload, 1) := by decide +kernel
theorem dX4_leaf_21 : decode cX4_leaf 21 = .ok (.iconst 1, 1) := by decide +kernel
theorem dX4_leaf_22 : decode cX4_leaf 22 = .ok (.if_icmp .ne 18, 3) := by decide +kernel
theorem dX4_leaf_25 : decode cX4_leaf 25 = .ok (.iconst 1, 1) := by decide +kernel
theorem dX4_leaf_26 : decode cX4_leaf 26 = .ok (.aload_n 0, 1) := by decide +kernel
theorem dX4_leaf_27 : decode cX4_leaf 27 = .ok (.getfield 19, 3) := by decide +kernel
theorem dX4_leaf_30 : decode cX4_leaf 30 = .ok (.iload_n 1, 1) := by decide +kernel
theorem dX4_leaf_31 : decode cX4_leaf 31 = .ok (.iaload, 1) := by decide +kernel
theorem dX4_leaf_32 : decode cX4_leaf 32 = .ok (.iload_n 3, 1) := by decide +kernel
theorem dX4_leaf_33 : decode cX4_leaf 33 = .ok (.ishr, 1) := by decide +kernel
theorem dX4_leaf_34 : decode cX4_leaf 34 = .ok (.iconst 1, 1) := by decide +kernel
theorem dX4_leaf_35 : decode cX4_leaf 35 = .ok (.iand, 1) := by decide +kernel
theorem dX4_leaf_36 : decode cX4_leaf 36 = .ok (.isub, 1) := by decide +kernel
theorem dX4_leaf_37 : decode cX4_leaf 37 = .ok (.goto 16, 3) := by decide +kernel
theorem dX4_leaf_40 : decode cX4_leaf 40 = .ok (.bipush 7, 2) := by decide +kernel
theorem dX4_leaf_42 : decode cX4_leaf 42 = .ok (.iload_n 2, 1) := by decide +kernel
theorem dX4_leaf_43 : decode cX4_leaf 43 = .ok (.imul, 1) := by decide +kernel
theorem dX4_leaf_44 : decode cX4_leaf 44 = .ok (.iconst 3, 1) := by decide +kernel
theorem dX4_leaf_45 : decode cX4_leaf 45 = .ok (.iadd, 1) := by decide +kernel
theorem dX4_leaf_46 : decode cX4_leaf 46 = .ok (.aload_n 0, 1) := by decide +kernel
theorem dX4_leaf_47 : decode cX4_leaf 47 = .ok (.getfield 19, 3) := by decide +kernel
theorem dX4_leaf_50 : decode cX4_leaf 50 = .ok (.iload_n 1, 1) := by decide +kernel
theorem dX4_leaf_51 : decode cX4_leaf 51 = .ok (.iaload, 1) := by decide +kernel
theorem dX4_leaf_52 : decode cX4_leaf 52 = .ok (.irem, 1) := by decide +kernel
theorem dX4_leaf_53 : decode cX4_leaf 53 = .ok (.ireturn, 1) := by decide +kernel
theorem dX4_rowsOf_0 : decode cX4_rowsOf 0 = .ok (.iconst 0, 1) := by decide +kernel
theorem dX4_rowsOf_1 : decode cX4_rowsOf 1 = .ok (.istore_n 2, 1) := by decide +kernel
theorem dX4_rowsOf_2 : decode cX4_rowsOf 2 = .ok (.iconst 0, 1) := by decide +kernel
theorem dX4_rowsOf_3 : decode cX4_rowsOf 3 = .ok (.istore_n 3, 1) := by decide +kernel
theorem dX4_rowsOf_4 : decode cX4_rowsOf 4 = .ok (.iload_n 3, 1) := by decide +kernel
theorem dX4_rowsOf_5 : decode cX4_rowsOf 5 = .ok (.aload_n 0, 1) := by decide +kernel
theorem dX4_rowsOf_6 : decode cX4_rowsOf 6 = .ok (.getfield 52, 3) := by decide +kernel
theorem dX4_rowsOf_9 : decode cX4_rowsOf 9 = .ok (.if_icmp .ge 27, 3) := by decide +kernel
theorem dX4_rowsOf_12 : decode cX4_rowsOf 12 = .ok (.iload_n 2, 1) := by decide +kernel
theorem dX4_rowsOf_13 : decode cX4_rowsOf 13 = .ok (.aload_n 0, 1) := by decide +kernel
theorem dX4_rowsOf_14 : decode cX4_rowsOf 14 = .ok (.getfield 25, 3) := by decide +kernel
theorem dX4_rowsOf_17 : decode cX4_rowsOf 17 = .ok (.iload_n 3, 1) := by decide +kernel
theorem dX4_rowsOf_18 : decode cX4_rowsOf 18 = .ok (.iaload, 1) := by decide +kernel
theorem dX4_rowsOf_19 : decode cX4_rowsOf 19 = .ok (.iload_n 1, 1) := by decide +kernel
theorem dX4_rowsOf_20 : decode cX4_rowsOf 20 = .ok (.if_icmp .ne 7, 3) := by decide +kernel
theorem dX4_rowsOf_23 : decode cX4_rowsOf 23 = .ok (.iconst 1, 1) := by decide +kernel
theorem dX4_rowsOf_24 : decode cX4_rowsOf 24 = .ok (.goto 4, 3) := by decide +kernel
theorem dX4_rowsOf_27 : decode cX4_rowsOf 27 = .ok (.iconst 0, 1) := by decide +kernel
theorem dX4_rowsOf_28 : decode cX4_rowsOf 28 = .ok (.iadd, 1) := by decide +kernel
theorem dX4_rowsOf_29 : decode cX4_rowsOf 29 = .ok (.istore_n 2, 1) := by decide +kernel
theorem dX4_rowsOf_30 : decode cX4_rowsOf 30 = .ok (.iinc 3 1, 3) := by decide +kernel
theorem dX4_rowsOf_33 : decode cX4_rowsOf 33 = .ok (.goto (-29), 3) := by decide +kernel
theorem dX4_rowsOf_36 : decode cX4_rowsOf 36 = .ok (.iload_n 2, 1) := by decide +kernel
theorem dX4_rowsOf_37 : decode cX4_rowsOf 37 = .ok (.ireturn, 1) := by decide +kernel
set_option maxRecDepth 20000 in
theorem ggX4_isInRest_X4_isIn : GoodIn wsX4_isInRest wsX4_isIn := goodIn_r _ [7] (by decide +kernel) (by decide +kernel)
set_option maxRecDepth 20000 in
theorem gX4_isInRest_X4_isIn : GoodIn wsX4_isInRest (va_wsS RX4 41 yX4_isIn wsX4_isIn) := goodIn_app (goodIn_of _ (by decide +kernel)) ggX4_isInRest_X4_isIn
theorem dX4_isInRest_0 : decode cX4_isInRest 0 = .ok (.iconst 0, 1) := by decide +kernel
theorem dX4_isInRest_1 : decode cX4_isInRest 1 = .ok (.istore_n 3, 1) := by decide +kernel
theorem dX4_isInRest_2 : decode cX4_isInRest 2 = .ok (.iconst 0, 1) := by decide +kernel
theorem dX4_isInRest_3 : decode cX4_isInRest 3 = .ok (.istore 4, 2) := by decide +kernel
theorem dX4_isInRest_5 : decode cX4_isInRest 5 = .ok (.iload 4, 2) := by decide +kernel
theorem dX4_isInRest_7 : decode cX4_isInRest 7 = .ok (.aload_n 0, 1) := by decide +kernel
theorem dX4_isInRest_8 : decode cX4_isInRest 8 = .ok (.getfield 52, 3) := by decide +kernel
theorem dX4_isInRest_11 : decode cX4_isInRest 11 = .ok (.if_icmp .ge 46, 3) := by decide +kernel
theorem dX4_isInRest_14 : decode cX4_isInRest 14 = .ok (.iload_n 3, 1) := by decide +kernel
theorem dX4_isInRest_15 : decode cX4_isInRest 15 = .ok (.ifCond .ne 30, 3) := by decide +kernel
theorem dX4_isInRest_18 : decode cX4_isInRest 18 = .ok (.aload_n 0, 1) := by decide +kernel
theorem dX4_isInRest_19 : decode cX4_isInRest 19 = .ok (.getfield 25, 3) := by decide +kernel
theorem dX4_isInRest_22 : decode cX4_isInRest 22 = .ok (.iload 4, 2) := by decide +kernel
theorem dX4_isInRest_24 : decode cX4_isInRest 24 = .ok (.iaload, 1) := by decide +kernel
theorem dX4_isInRest_25 : decode cX4_isInRest 25 = .ok (.ifCond .ne 24, 3) := by decide +kernel
theorem dX4_isInRest_28 : decode cX4_isInRest 28 = .ok (.aload_n 0, 1) := by decide +kernel
theorem dX4_isInRest_29 : decode cX4_isInRest 29 = .ok (.getfield 28, 3) := by decide +kernel
theorem dX4_isInRest_32 : decode cX4_isInRest 32 = .ok (.iload 4, 2) := by decide +kernel
theorem dX4_isInRest_34 : decode cX4_isInRest 34 = .ok (.iaload, 1) := by decide +kernel
theorem dX4_isInRest_35 : decode cX4_isInRest 35 = .ok (.iload_n 1, 1) := by decide +kernel
theorem dX4_isInRest_36 : decode cX4_isInRest 36 = .ok (.iload_n 2, 1) := by decide +kernel
theorem dX4_isInRest_37 : decode cX4_isInRest 37 = .ok (.iconst 1, 1) := by decide +kernel
theorem dX4_isInRest_38 : decode cX4_isInRest 38 = .ok (.isub, 1) := by decide +kernel
theorem dX4_isInRest_39 : decode cX4_isInRest 39 = .ok (.invokestatic 41, 3) := by decide +kernel
theorem dX4_isInRest_42 : decode cX4_isInRest 42 = .ok (.ifCond .eq 7, 3) := by decide +kernel
theorem dX4_isInRest_45 : decode cX4_isInRest 45 = .ok (.iconst 1, 1) := by decide +kernel
theorem dX4_isInRest_46 : decode cX4_isInRest 46 = .ok (.goto 4, 3) := by decide +kernel
theorem dX4_isInRest_49 : decode cX4_isInRest 49 = .ok (.iconst 0, 1) := by decide +kernel
theorem dX4_isInRest_50 : decode cX4_isInRest 50 = .ok (.istore_n 3, 1) := by decide +kernel
theorem dX4_isInRest_51 : decode cX4_isInRest 51 = .ok (.iinc 4 1, 3) := by decide +kernel
theorem dX4_isInRest_54 : decode cX4_isInRest 54 = .ok (.goto (-49), 3) := by decide +kernel
theorem dX4_isInRest_57 : decode cX4_isInRest 57 = .ok (.iload_n 3, 1) := by decide +kernel
theorem dX4_isInRest_58 : decode cX4_isInRest 58 = .ok (.ireturn, 1) := by decide +kernel
set_option maxRecDepth 20000 in
theorem ggX4_overlaps_X4_isAttached : GoodIn wsX4_overlaps wsX4_isAttached := goodIn_r _ [8, 9, 10, 11, 12, 13, 14, 15, 16, 17, 18, 19, 20, 21, 22] (by decide +kernel) (by decide +kernel)
set_option maxRecDepth 20000 in
theorem gX4_overlaps_X4_isAttached : GoodIn wsX4_overlaps (wsV RX4 55 RX4 yX4_isAttached wsX4_isAttached) := goodIn_app (goodIn_of _ (by decide +kernel)) ggX4_overlaps_X4_isAttached
theorem dX4_overlaps_0 : decode cX4_overlaps 0 = .ok (.iconst 0, 1) := by decide +kernel
theorem dX4_overlaps_1 : decode cX4_overlaps 1 = .ok (.istore_n 3, 1) := by decide +kernel
theorem dX4_overlaps_2 : decode cX4_overlaps 2 = .ok (.iconst 1, 1) := by decide +kernel
theorem dX4_overlaps_3 : decode cX4_overlaps 3 = .ok (.istore 4, 2) := by decide +kernel
theorem dX4_overlaps_5 : decode cX4_overlaps 5 = .ok (.iload 4, 2) := by decide +kernel
theorem dX4_overlaps_7 : decode cX4_overlaps 7 = .ok (.aload_n 0, 1) := by decide +kernel
theorem dX4_overlaps_8 : decode cX4_overlaps 8 = .ok (.getfield 45, 3) := by decide +kernel
theorem dX4_overlaps_11 : decode cX4_overlaps 11 = .ok (.if_icmp .gt 50, 3) := by decide +kernel
theorem dX4_overlaps_14 : decode cX4_overlaps 14 = .ok (.iload_n 3, 1) := by decide +kernel
theorem dX4_overlaps_15 : decode cX4_overlaps 15 = .ok (.ifCond .ne 34, 3) := by decide +kernel
theorem dX4_overlaps_18 : decode cX4_overlaps 18 = .ok (.aload_n 0, 1) := by decide +kernel
theorem dX4_overlaps_19 : decode cX4_overlaps 19 = .ok (.iload 4, 2) := by decide +kernel
theorem dX4_overlaps_21 : decode cX4_overlaps 21 = .ok (.invokevirtual 55, 3) := by decide +kernel
theorem dX4_overlaps_24 : decode cX4_overlaps 24 = .ok (.ifCond .eq 29, 3) := by decide +kernel
theorem dX4_overlaps_27 : decode cX4_overlaps 27 = .ok (.iload_n 1, 1) := by decide +kernel
theorem dX4_overlaps_28 : decode cX4_overlaps 28 = .ok (.aload_n 0, 1) := by decide +kernel
theorem dX4_overlaps_29 : decode cX4_overlaps 29 = .ok (.getfield 13, 3) := by decide +kernel
theorem dX4_overlaps_32 : decode cX4_overlaps 32 = .ok (.iload 4, 2) := by decide +kernel
theorem dX4_overlaps_34 : decode cX4_overlaps 34 = .ok (.iaload, 1) := by decide +kernel
theorem dX4_overlaps_35 : decode cX4_overlaps 35 = .ok (.if_icmp .ge 18, 3) := by decide +kernel
theorem dX4_overlaps_38 : decode cX4_overlaps 38 = .ok (.aload_n 0, 1) := by decide +kernel
theorem dX4_overlaps_39 : decode cX4_overlaps 39 = .ok (.getfield 7, 3) := by decide +kernel
theorem dX4_overlaps_42 : decode cX4_overlaps 42 = .ok (.iload 4, 2) := by decide +kernel
theorem dX4_overlaps_44 : decode cX4_overlaps 44 = .ok (.iaload, 1) := by decide +kernel
theorem dX4_overlaps_45 : decode cX4_overlaps 45 = .ok (.iload_n 2, 1) := by decide +kernel
theorem dX4_overlaps_46 : decode cX4_overlaps 46 = .ok (.if_icmp .ge 7, 3) := by decide +kernel
theorem dX4_overlaps_49 : decode cX4_overlaps 49 = .ok (.iconst 1, 1) := by decide +kernel
theorem dX4_overlaps_50 : decode cX4_overlaps 50 = .ok (.goto 4, 3) := by decide +kernel
theorem dX4_overlaps_53 : decode cX4_overlaps 53 = .ok (.iconst 0, 1) := by decide +kernel
theorem dX4_overlaps_54 : decode cX4_overlaps 54 = .ok (.istore_n 3, 1) := by decide +kernel
theorem dX4_overlaps_55 : decode cX4_overlaps 55 = .ok (.iinc 4 1, 3) := by decide +kernel
theorem dX4_overlaps_58 : decode cX4_overlaps 58 = .ok (.goto (-53), 3) := by decide +kernel
theorem dX4_overlaps_61 : decode cX4_overlaps 61 = .ok (.iload_n 3, 1) := by decide +kernel
theorem dX4_overlaps_62 : decode cX4_overlaps 62 = .ok (.ireturn, 1) := by decide +kernel
set_option maxRecDepth 20000 in
theorem ggX4_isShape_X4_isIn : GoodIn wsX4_isShape wsX4_isIn := goodIn_r _ [4] (by decide +kernel) (by decide +kernel)
set_option maxRecDepth 20000 in
theorem gX4_isShape_X4_isIn : GoodIn wsX4_isShape (va_wsS RX4 41 yX4_isIn wsX4_isIn) := goodIn_app (goodIn_of _ (by decide +kernel)) ggX4_isShape_X4_isIn
set_option maxRecDepth 20000 in
theorem ggX4_isShape_X4_isKey : GoodIn wsX4_isShape wsX4_isKey := goodIn_r _ [7, 1, 2, 3, 4] (by decide +kernel) (by decide +kernel)
set_option maxRecDepth 20000 in
theorem gX4_isShape_X4_isKey : GoodIn wsX4_isShape (va_wsS RX4 62 yX4_isKey wsX4_isKey) := goodIn_app (goodIn_of _ (by decide +kernel)) ggX4_isShape_X4_isKey
theorem dX4_isShape_0 : decode cX4_isShape 0 = .ok (.iload_n 2, 1) := by decide +kernel
theorem dX4_isShape_1 : decode cX4_isShape 1 = .ok (.ifCond .ne 15, 3) := by decide +kernel
theorem dX4_isShape_4 : decode cX4_isShape 4 = .ok (.iload_n 3, 1) := by decide +kernel
theorem dX4_isShape_5 : decode cX4_isShape 5 = .ok (.ifCond .ne 7, 3) := by decide +kernel
theorem dX4_isShape_8 : decode cX4_isShape 8 = .ok (.iconst 1, 1) := by decide +kernel
theorem dX4_isShape_9 : decode cX4_isShape 9 = .ok (.goto 29, 3) := by decide +kernel
theorem dX4_isShape_12 : decode cX4_isShape 12 = .ok (.iconst 0, 1) := by decide +kernel
theorem dX4_isShape_13 : decode cX4_isShape 13 = .ok (.goto 25, 3) := by decide +kernel
theorem dX4_isShape_16 : decode cX4_isShape 16 = .ok (.iload_n 2, 1) := by decide +kernel
theorem dX4_isShape_17 : decode cX4_isShape 17 = .ok (.iconst 1, 1) := by decide +kernel
theorem dX4_isShape_18 : decode cX4_isShape 18 = .ok (.if_icmp .ne 14, 3) := by decide +kernel
theorem dX4_isShape_21 : decode cX4_isShape 21 = .ok (.iload_n 3, 1) := by decide +kernel
theorem dX4_isShape_22 : decode cX4_isShape 22 = .ok (.iconst 1, 1) := by decide +kernel
theorem dX4_isShape_23 : decode cX4_isShape 23 = .ok (.sipush 1022, 3) := by decide +kernel
theorem dX4_isShape_26 : decode cX4_isShape 26 = .ok (.invokestatic 41, 3) := by decide +kernel
theorem dX4_isShape_29 : decode cX4_isShape 29 = .ok (.goto 9, 3) := by decide +kernel
theorem dX4_isShape_32 : decode cX4_isShape 32 = .ok (.iload_n 3, 1) := by decide +kernel
theorem dX4_isShape_33 : decode cX4_isShape 33 = .ok (.iconst 1, 1) := by decide +kernel
theorem dX4_isShape_34 : decode cX4_isShape 34 = .ok (.iconst 5, 1) := by decide +kernel
theorem dX4_isShape_35 : decode cX4_isShape 35 = .ok (.invokestatic 41, 3) := by decide +kernel
theorem dX4_isShape_38 : decode cX4_isShape 38 = .ok (.istore 4, 2) := by decide +kernel
theorem dX4_isShape_40 : decode cX4_isShape 40 = .ok (.iload_n 0, 1) := by decide +kernel
theorem dX4_isShape_41 : decode cX4_isShape 41 = .ok (.invokestatic 62, 3) := by decide +kernel
theorem dX4_isShape_44 : decode cX4_isShape 44 = .ok (.ifCond .eq 34, 3) := by decide +kernel
theorem dX4_isShape_47 : decode cX4_isShape 47 = .ok (.iload_n 1, 1) := by decide +kernel
theorem dX4_isShape_48 : decode cX4_isShape 48 = .ok (.iload_n 0, 1) := by decide +kernel
theorem dX4_isShape_49 : decode cX4_isShape 49 = .ok (.iconst 1, 1) := by decide +kernel
theorem dX4_isShape_50 : decode cX4_isShape 50 = .ok (.iadd, 1) := by decide +kernel
theorem dX4_isShape_51 : decode cX4_isShape 51 = .ok (.sipush 1000, 3) := by decide +kernel
theorem dX4_isShape_54 : decode cX4_isShape 54 = .ok (.invokestatic 41, 3) := by decide +kernel
theorem dX4_isShape_57 : decode cX4_isShape 57 = .ok (.ifCond .eq 21, 3) := by decide +kernel
theorem dX4_isShape_60 : decode cX4_isShape 60 = .ok (.iload_n 2, 1) := by decide +kernel
theorem dX4_isShape_61 : decode cX4_isShape 61 = .ok (.iconst 0, 1) := by decide +kernel
theorem dX4_isShape_62 : decode cX4_isShape 62 = .ok (.iconst 2, 1) := by decide +kernel
theorem dX4_isShape_63 : decode cX4_isShape 63 = .ok (.invokestatic 41, 3) := by decide +kernel
theorem dX4_isShape_66 : decode cX4_isShape 66 = .ok (.ifCond .eq 12, 3) := by decide +kernel
theorem dX4_isShape_69 : decode cX4_isShape 69 = .ok (.iload 4, 2) := by decide +kernel
theorem dX4_isShape_71 : decode cX4_isShape 71 = .ok (.ifCond .eq 7, 3) := by decide +kernel
theorem dX4_isShape_74 : decode cX4_isShape 74 = .ok (.iconst 1, 1) := by decide +kernel
theorem dX4_isShape_75 : decode cX4_isShape 75 = .ok (.goto 4, 3) := by decide +kernel
theorem dX4_isShape_78 : decode cX4_isShape 78 = .ok (.iconst 0, 1) := by decide +kernel
theorem dX4_isShape_79 : decode cX4_isShape 79 = .ok (.ireturn, 1) := by decide +kernel
theorem dX4_makes_0 : decode cX4_makes 0 = .ok (.aload_n 0, 1) := by decide +kernel
theorem dX4_makes_1 : decode cX4_makes 1 = .ok (.dup, 1) := by decide +kernel
theorem dX4_makes_2 : decode cX4_makes 2 = .ok (.getfield 45, 3) := by decide +kernel
theorem dX4_makes_5 : decode cX4_makes 5 = .ok (.iconst 1, 1) := by decide +kernel
theorem dX4_makes_6 : decode cX4_makes 6 = .ok (.iadd, 1) := by decide +kernel
theorem dX4_makes_7 : decode cX4_makes 7 = .ok (.putfield 45, 3) := by decide +kernel
theorem dX4_makes_10 : decode cX4_makes 10 = .ok (.aload_n 0, 1) := by decide +kernel
theorem dX4_makes_11 : decode cX4_makes 11 = .ok (.getfield 7, 3) := by decide +kernel
theorem dX4_makes_14 : decode cX4_makes 14 = .ok (.aload_n 0, 1) := by decide +kernel
theorem dX4_makes_15 : decode cX4_makes 15 = .ok (.getfield 45, 3) := by decide +kernel
theorem dX4_makes_18 : decode cX4_makes 18 = .ok (.iload_n 1, 1) := by decide +kernel
theorem dX4_makes_19 : decode cX4_makes 19 = .ok (.iastore, 1) := by decide +kernel
theorem dX4_makes_20 : decode cX4_makes 20 = .ok (.aload_n 0, 1) := by decide +kernel
theorem dX4_makes_21 : decode cX4_makes 21 = .ok (.getfield 13, 3) := by decide +kernel
theorem dX4_makes_24 : decode cX4_makes 24 = .ok (.aload_n 0, 1) := by decide +kernel
theorem dX4_makes_25 : decode cX4_makes 25 = .ok (.getfield 45, 3) := by decide +kernel
theorem dX4_makes_28 : decode cX4_makes 28 = .ok (.iload_n 2, 1) := by decide +kernel
theorem dX4_makes_29 : decode cX4_makes 29 = .ok (.iastore, 1) := by decide +kernel
theorem dX4_makes_30 : decode cX4_makes 30 = .ok (.aload_n 0, 1) := by decide +kernel
theorem dX4_makes_31 : decode cX4_makes 31 = .ok (.getfield 16, 3) := by decide +kernel
theorem dX4_makes_34 : decode cX4_makes 34 = .ok (.aload_n 0, 1) := by decide +kernel
theorem dX4_makes_35 : decode cX4_makes 35 = .ok (.getfield 45, 3) := by decide +kernel
theorem dX4_makes_38 : decode cX4_makes 38 = .ok (.iload_n 3, 1) := by decide +kernel
theorem dX4_makes_39 : decode cX4_makes 39 = .ok (.iastore, 1) := by decide +kernel
theorem dX4_makes_40 : decode cX4_makes 40 = .ok (.aload_n 0, 1) := by decide +kernel
theorem dX4_makes_41 : decode cX4_makes 41 = .ok (.getfield 19, 3) := by decide +kernel
theorem dX4_makes_44 : decode cX4_makes 44 = .ok (.aload_n 0, 1) := by decide +kernel
theorem dX4_makes_45 : decode cX4_makes 45 = .ok (.getfield 45, 3) := by decide +kernel
theorem dX4_makes_48 : decode cX4_makes 48 = .ok (.iload 4, 2) := by decide +kernel
theorem dX4_makes_50 : decode cX4_makes 50 = .ok (.iastore, 1) := by decide +kernel
theorem dX4_makes_51 : decode cX4_makes 51 = .ok (.aload_n 0, 1) := by decide +kernel
theorem dX4_makes_52 : decode cX4_makes 52 = .ok (.getfield 22, 3) := by decide +kernel
theorem dX4_makes_55 : decode cX4_makes 55 = .ok (.aload_n 0, 1) := by decide +kernel
theorem dX4_makes_56 : decode cX4_makes 56 = .ok (.getfield 45, 3) := by decide +kernel
theorem dX4_makes_59 : decode cX4_makes 59 = .ok (.iconst 0, 1) := by decide +kernel
theorem dX4_makes_60 : decode cX4_makes 60 = .ok (.iastore, 1) := by decide +kernel
theorem dX4_makes_61 : decode cX4_makes 61 = .ok (.aload_n 0, 1) := by decide +kernel
theorem dX4_makes_62 : decode cX4_makes 62 = .ok (.getfield 45, 3) := by decide +kernel
theorem dX4_makes_65 : decode cX4_makes 65 = .ok (.ireturn, 1) := by decide +kernel
set_option maxRecDepth 20000 in
theorem ggX4_moves_X4_hasKey : GoodIn wsX4_moves wsX4_hasKey := goodIn_r _ [8, 9, 10, 11, 12, 7, 13, 14, 15, 16, 17, 18, 19, 20, 21, 22, 23, 24, 25, 26] (by decide +kernel) (by decide +kernel)
set_option maxRecDepth 20000 in
theorem gX4_moves_X4_hasKey : GoodIn wsX4_moves (wsV RX4 58 RX4 yX4_hasKey wsX4_hasKey) := goodIn_app (goodIn_of _ (by decide +kernel)) ggX4_moves_X4_hasKey
theorem dX4_moves_0 : decode cX4_moves 0 = .ok (.iconst 0, 1) := by decide +kernel
theorem dX4_moves_1 : decode cX4_moves 1 = .ok (.istore_n 3, 1) := by decide +kernel
theorem dX4_moves_2 : decode cX4_moves 2 = .ok (.iload_n 3, 1) := by decide +kernel
theorem dX4_moves_3 : decode cX4_moves 3 = .ok (.aload_n 0, 1) := by decide +kernel
theorem dX4_moves_4 : decode cX4_moves 4 = .ok (.getfield 52, 3) := by decide +kernel
theorem dX4_moves_7 : decode cX4_moves 7 = .ok (.if_icmp .ge 49, 3) := by decide +kernel
theorem dX4_moves_10 : decode cX4_moves 10 = .ok (.aload_n 0, 1) := by decide +kernel
theorem dX4_moves_11 : decode cX4_moves 11 = .ok (.getfield 25, 3) := by decide +kernel
theorem dX4_moves_14 : decode cX4_moves 14 = .ok (.iload_n 3, 1) := by decide +kernel
theorem dX4_moves_15 : decode cX4_moves 15 = .ok (.aload_n 0, 1) := by decide +kernel
theorem dX4_moves_16 : decode cX4_moves 16 = .ok (.getfield 25, 3) := by decide +kernel
theorem dX4_moves_19 : decode cX4_moves 19 = .ok (.iload_n 3, 1) := by decide +kernel
theorem dX4_moves_20 : decode cX4_moves 20 = .ok (.iaload, 1) := by decide +kernel
theorem dX4_moves_21 : decode cX4_moves 21 = .ok (.iload_n 1, 1) := by decide +kernel
theorem dX4_moves_22 : decode cX4_moves 22 = .ok (.if_icmp .ne 21, 3) := by decide +kernel
theorem dX4_moves_25 : decode cX4_moves 25 = .ok (.aload_n 0, 1) := by decide +kernel
theorem dX4_moves_26 : decode cX4_moves 26 = .ok (.iload_n 2, 1) := by decide +kernel
theorem dX4_moves_27 : decode cX4_moves 27 = .ok (.aload_n 0, 1) := by decide +kernel
theorem dX4_moves_28 : decode cX4_moves 28 = .ok (.getfield 28, 3) := by decide +kernel
theorem dX4_moves_31 : decode cX4_moves 31 = .ok (.iload_n 3, 1) := by decide +kernel
theorem dX4_moves_32 : decode cX4_moves 32 = .ok (.iaload, 1) := by decide +kernel
theorem dX4_moves_33 : decode cX4_moves 33 = .ok (.invokevirtual 58, 3) := by decide +kernel
theorem dX4_moves_36 : decode cX4_moves 36 = .ok (.ifCond .eq 7, 3) := by decide +kernel
theorem dX4_moves_39 : decode cX4_moves 39 = .ok (.iload_n 2, 1) := by decide +kernel
theorem dX4_moves_40 : decode cX4_moves 40 = .ok (.goto 9, 3) := by decide +kernel
theorem dX4_moves_43 : decode cX4_moves 43 = .ok (.aload_n 0, 1) := by decide +kernel
theorem dX4_moves_44 : decode cX4_moves 44 = .ok (.getfield 25, 3) := by decide +kernel
theorem dX4_moves_47 : decode cX4_moves 47 = .ok (.iload_n 3, 1) := by decide +kernel
theorem dX4_moves_48 : decode cX4_moves 48 = .ok (.iaload, 1) := by decide +kernel
theorem dX4_moves_49 : decode cX4_moves 49 = .ok (.iastore, 1) := by decide +kernel
theorem dX4_moves_50 : decode cX4_moves 50 = .ok (.iinc 3 1, 3) := by decide +kernel
theorem dX4_moves_53 : decode cX4_moves 53 = .ok (.goto (-51), 3) := by decide +kernel
theorem dX4_moves_56 : decode cX4_moves 56 = .ok (.return_, 1) := by decide +kernel
set_option maxRecDepth 20000 in
theorem ggX4_makePart_X4_isShape : GoodIn wsX4_makePart wsX4_isShape := goodIn_r _ [5, 6, 7, 4, 8, 9, 10, 11] (by decide +kernel) (by decide +kernel)
set_option maxRecDepth 20000 in
theorem gX4_makePart_X4_isShape : GoodIn wsX4_makePart (va_wsS RX4 65 yX4_isShape wsX4_isShape) := goodIn_app (goodIn_of _ (by decide +kernel)) ggX4_makePart_X4_isShape
set_option maxRecDepth 20000 in
theorem ggX4_makePart_X4_overlaps : GoodIn wsX4_makePart wsX4_overlaps := goodIn_r _ [15, 1, 16, 17, 18, 19, 20, 4, 21, 22, 41, 42, 43, 44, 45, 46, 47, 48, 49, 50, 51, 52, 53] (by decide +kernel) (by decide +kernel)
set_option maxRecDepth 20000 in
theorem gX4_makePart_X4_overlaps : GoodIn wsX4_makePart (wsV RX4 69 RX4 yX4_overlaps wsX4_overlaps) := goodIn_app (goodIn_of _ (by decide +kernel)) ggX4_makePart_X4_overlaps
set_option maxRecDepth 20000 in
theorem ggX4_makePart_X4_isInRest : GoodIn wsX4_makePart wsX4_isInRest := goodIn_r _ [26, 27, 28, 29, 6, 7, 4, 8, 41, 42, 43, 44, 45, 46, 47, 48, 49, 50, 51, 52, 53] (by decide +kernel) (by decide +kernel)
set_option maxRecDepth 20000 in
theorem gX4_makePart_X4_isInRest : GoodIn wsX4_makePart (wsV RX4 72 RX4 yX4_isInRest wsX4_isInRest) := goodIn_app (goodIn_of _ (by decide +kernel)) ggX4_makePart_X4_isInRest
set_option maxRecDepth 20000 in
theorem ggX4_makePart_X4_isFine : GoodIn wsX4_makePart wsX4_isFine := goodIn_r _ [33, 34, 41, 42, 43, 44, 45, 46, 47, 48, 49, 50, 51, 52, 53] (by decide +kernel) (by decide +kernel)
set_option maxRecDepth 20000 in
theorem gX4_makePart_X4_isFine : GoodIn wsX4_makePart (wsV RX4 75 RX4 yX4_isFine wsX4_isFine) := goodIn_app (goodIn_of _ (by decide +kernel)) ggX4_makePart_X4_isFine
set_option maxRecDepth 20000 in
theorem ggX4_makePart_X4_makes : GoodIn wsX4_makePart wsX4_makes := goodIn_r _ [38, 1, 17, 16, 39, 40, 22, 41, 42, 43, 44, 45, 46, 47, 48, 49, 50, 51, 52, 53] (by decide +kernel) (by decide +kernel)
set_option maxRecDepth 20000 in
theorem gX4_makePart_X4_makes : GoodIn wsX4_makePart (wsV RX4 78 RX4 yX4_makes wsX4_makes) := goodIn_app (goodIn_of _ (by decide +kernel)) ggX4_makePart_X4_makes
theorem dX4_makePart_0 : decode cX4_makePart 0 = .ok (.iload_n 1, 1) := by decide +kernel
theorem dX4_makePart_1 : decode cX4_makePart 1 = .ok (.iload_n 2, 1) := by decide +kernel
theorem dX4_makePart_2 : decode cX4_makePart 2 = .ok (.iload_n 3, 1) := by decide +kernel
theorem dX4_makePart_3 : decode cX4_makePart 3 = .ok (.iload 4, 2) := by decide +kernel
theorem dX4_makePart_5 : decode cX4_makePart 5 = .ok (.invokestatic 65, 3) := by decide +kernel
theorem dX4_makePart_8 : decode cX4_makePart 8 = .ok (.istore 5, 2) := by decide +kernel
theorem dX4_makePart_10 : decode cX4_makePart 10 = .ok (.aload_n 0, 1) := by decide +kernel
theorem dX4_makePart_11 : decode cX4_makePart 11 = .ok (.iload 5, 2) := by decide +kernel
theorem dX4_makePart_13 : decode cX4_makePart 13 = .ok (.ifCond .ne 7, 3) := by decide +kernel
theorem dX4_makePart_16 : decode cX4_makePart 16 = .ok (.iconst 1, 1) := by decide +kernel
theorem dX4_makePart_17 : decode cX4_makePart 17 = .ok (.goto 35, 3) := by decide +kernel
theorem dX4_makePart_20 : decode cX4_makePart 20 = .ok (.aload_n 0, 1) := by decide +kernel
theorem dX4_makePart_21 : decode cX4_makePart 21 = .ok (.getfield 45, 3) := by decide +kernel
theorem dX4_makePart_24 : decode cX4_makePart 24 = .ok (.bipush 15, 2) := by decide +kernel
theorem dX4_makePart_26 : decode cX4_makePart 26 = .ok (.if_icmp .eq 21, 3) := by decide +kernel
theorem dX4_makePart_29 : decode cX4_makePart 29 = .ok (.aload_n 0, 1) := by decide +kernel
theorem dX4_makePart_30 : decode cX4_makePart 30 = .ok (.iload_n 1, 1) := by decide +kernel
theorem dX4_makePart_31 : decode cX4_makePart 31 = .ok (.iload_n 2, 1) := by decide +kernel
theorem dX4_makePart_32 : decode cX4_makePart 32 = .ok (.invokevirtual 69, 3) := by decide +kernel
theorem dX4_makePart_35 : decode cX4_makePart 35 = .ok (.ifCond .ne 12, 3) := by decide +kernel
theorem dX4_makePart_38 : decode cX4_makePart 38 = .ok (.aload_n 0, 1) := by decide +kernel
theorem dX4_makePart_39 : decode cX4_makePart 39 = .ok (.iload_n 1, 1) := by decide +kernel
theorem dX4_makePart_40 : decode cX4_makePart 40 = .ok (.iload_n 2, 1) := by decide +kernel
theorem dX4_makePart_41 : decode cX4_makePart 41 = .ok (.invokevirtual 72, 3) := by decide +kernel
theorem dX4_makePart_44 : decode cX4_makePart 44 = .ok (.ifCond .eq 7, 3) := by decide +kernel
theorem dX4_makePart_47 : decode cX4_makePart 47 = .ok (.iconst 2, 1) := by decide +kernel
theorem dX4_makePart_48 : decode cX4_makePart 48 = .ok (.goto 4, 3) := by decide +kernel
theorem dX4_makePart_51 : decode cX4_makePart 51 = .ok (.iconst 0, 1) := by decide +kernel
theorem dX4_makePart_52 : decode cX4_makePart 52 = .ok (.invokevirtual 75, 3) := by decide +kernel
theorem dX4_makePart_55 : decode cX4_makePart 55 = .ok (.ifCond .eq 15, 3) := by decide +kernel
theorem dX4_makePart_58 : decode cX4_makePart 58 = .ok (.aload_n 0, 1) := by decide +kernel
theorem dX4_makePart_59 : decode cX4_makePart 59 = .ok (.iload_n 1, 1) := by decide +kernel
theorem dX4_makePart_60 : decode cX4_makePart 60 = .ok (.iload_n 2, 1) := by decide +kernel
theorem dX4_makePart_61 : decode cX4_makePart 61 = .ok (.iload_n 3, 1) := by decide +kernel
theorem dX4_makePart_62 : decode cX4_makePart 62 = .ok (.iload 4, 2) := by decide +kernel
theorem dX4_makePart_64 : decode cX4_makePart 64 = .ok (.invokevirtual 78, 3) := by decide +kernel
theorem dX4_makePart_67 : decode cX4_makePart 67 = .ok (.goto 4, 3) := by decide +kernel
theorem dX4_makePart_70 : decode cX4_makePart 70 = .ok (.iconst 0, 1) := by decide +kernel
theorem dX4_makePart_71 : decode cX4_makePart 71 = .ok (.ireturn, 1) := by decide +kernel
set_option maxRecDepth 20000 in
theorem ggX4_carveOut_X4_isShape : GoodIn wsX4_carveOut wsX4_isShape := goodIn_r _ [5, 6, 7, 4, 8, 9, 10, 11] (by decide +kernel) (by decide +kernel)
set_option maxRecDepth 20000 in
theorem gX4_carveOut_X4_isShape : GoodIn wsX4_carveOut (va_wsS RX4 65 yX4_isShape wsX4_isShape) := goodIn_app (goodIn_of _ (by decide +kernel)) ggX4_carveOut_X4_isShape
set_option maxRecDepth 20000 in
theorem ggX4_carveOut_X4_overlaps : GoodIn wsX4_carveOut wsX4_overlaps := goodIn_r _ [15, 1, 16, 17, 18, 19, 20, 4, 21, 22, 49, 50, 51, 52, 53, 54, 55, 56, 57, 58, 59, 60, 61] (by decide +kernel) (by decide +kernel)
set_option maxRecDepth 20000 in
theorem gX4_carveOut_X4_overlaps : GoodIn wsX4_carveOut (wsV RX4 69 RX4 yX4_overlaps wsX4_overlaps) := goodIn_app (goodIn_of _ (by decide +kernel)) ggX4_carveOut_X4_overlaps
set_option maxRecDepth 20000 in
theorem ggX4_carveOut_X4_isFine : GoodIn wsX4_carveOut wsX4_isFine := goodIn_r _ [26, 27, 49, 50, 51, 52, 53, 54, 55, 56, 57, 58, 59, 60, 61] (by decide +kernel) (by decide +kernel)
set_option maxRecDepth 20000 in
theorem gX4_carveOut_X4_isFine : GoodIn wsX4_carveOut (wsV RX4 75 RX4 yX4_isFine wsX4_isFine) := goodIn_app (goodIn_of _ (by decide +kernel)) ggX4_carveOut_X4_isFine
set_option maxRecDepth 20000 in
theorem ggX4_carveOut_X4_makes : GoodIn wsX4_carveOut wsX4_makes := goodIn_r _ [31, 1, 17, 16, 32, 33, 22, 49, 50, 51, 52, 53, 54, 55, 56, 57, 58, 59, 60, 61] (by decide +kernel) (by decide +kernel)
set_option maxRecDepth 20000 in
theorem gX4_carveOut_X4_makes : GoodIn wsX4_carveOut (wsV RX4 78 RX4 yX4_makes wsX4_makes) := goodIn_app (goodIn_of _ (by decide +kernel)) ggX4_carveOut_X4_makes
set_option maxRecDepth 20000 in
theorem ggX4_carveOut_X4_moves : GoodIn wsX4_carveOut wsX4_moves := goodIn_r _ [37, 38, 39, 40, 41, 42, 43, 4, 44, 17, 16, 6, 7, 8, 49, 50, 51, 52, 53, 54, 55, 56, 57, 58, 59, 60, 61] (by decide +kernel) (by decide +kernel)
set_option maxRecDepth 20000 in
theorem gX4_carveOut_X4_moves : GoodIn wsX4_carveOut (wsV RX4 82 RX4 yX4_moves wsX4_moves) := goodIn_app (goodIn_of _ (by decide +kernel)) ggX4_carveOut_X4_moves
set_option maxRecDepth 20000 in
theorem ggX4_carveOut_X4_rowsOf : GoodIn wsX4_carveOut wsX4_rowsOf := goodIn_r _ [48, 38, 39, 49, 50, 51, 52, 53, 54, 55, 56, 57, 58, 59, 60, 61] (by decide +kernel) (by decide +kernel)
set_option maxRecDepth 20000 in
theorem gX4_carveOut_X4_rowsOf : GoodIn wsX4_carveOut (wsV RX4 86 RX4 yX4_rowsOf wsX4_rowsOf) := goodIn_app (goodIn_of _ (by decide +kernel)) ggX4_carveOut_X4_rowsOf
theorem dX4_carveOut_0 : decode cX4_carveOut 0 = .ok (.iload_n 1, 1) := by decide +kernel
theorem dX4_carveOut_1 : decode cX4_carveOut 1 = .ok (.iload_n 2, 1) := by decide +kernel
theorem dX4_carveOut_2 : decode cX4_carveOut 2 = .ok (.iload_n 3, 1) := by decide +kernel
theorem dX4_carveOut_3 : decode cX4_carveOut 3 = .ok (.iload 4, 2) := by decide +kernel
theorem dX4_carveOut_5 : decode cX4_carveOut 5 = .ok (.invokestatic 65, 3) := by decide +kernel
theorem dX4_carveOut_8 : decode cX4_carveOut 8 = .ok (.istore 5, 2) := by decide +kernel
theorem dX4_carveOut_10 : decode cX4_carveOut 10 = .ok (.aload_n 0, 1) := by decide +kernel
theorem dX4_carveOut_11 : decode cX4_carveOut 11 = .ok (.iload 5, 2) := by decide +kernel
theorem dX4_carveOut_13 : decode cX4_carveOut 13 = .ok (.ifCond .ne 7, 3) := by decide +kernel
theorem dX4_carveOut_16 : decode cX4_carveOut 16 = .ok (.iconst 1, 1) := by decide +kernel
theorem dX4_carveOut_17 : decode cX4_carveOut 17 = .ok (.goto 26, 3) := by decide +kernel
theorem dX4_carveOut_20 : decode cX4_carveOut 20 = .ok (.aload_n 0, 1) := by decide +kernel
theorem dX4_carveOut_21 : decode cX4_carveOut 21 = .ok (.getfield 45, 3) := by decide +kernel
theorem dX4_carveOut_24 : decode cX4_carveOut 24 = .ok (.bipush 15, 2) := by decide +kernel
theorem dX4_carveOut_26 : decode cX4_carveOut 26 = .ok (.if_icmp .eq 12, 3) := by decide +kernel
theorem dX4_carveOut_29 : decode cX4_carveOut 29 = .ok (.aload_n 0, 1) := by decide +kernel
theorem dX4_carveOut_30 : decode cX4_carveOut 30 = .ok (.iload_n 1, 1) := by decide +kernel
theorem dX4_carveOut_31 : decode cX4_carveOut 31 = .ok (.iload_n 2, 1) := by decide +kernel
theorem dX4_carveOut_32 : decode cX4_carveOut 32 = .ok (.invokevirtual 69, 3) := by decide +kernel
theorem dX4_carveOut_35 : decode cX4_carveOut 35 = .ok (.ifCond .eq 7, 3) := by decide +kernel
theorem dX4_carveOut_38 : decode cX4_carveOut 38 = .ok (.iconst 2, 1) := by decide +kernel
theorem dX4_carveOut_39 : decode cX4_carveOut 39 = .ok (.goto 4, 3) := by decide +kernel
theorem dX4_carveOut_42 : decode cX4_carveOut 42 = .ok (.iconst 0, 1) := by decide +kernel
theorem dX4_carveOut_43 : decode cX4_carveOut 43 = .ok (.invokevirtual 75, 3) := by decide +kernel
theorem dX4_carveOut_46 : decode cX4_carveOut 46 = .ok (.ifCond .ne 5, 3) := by decide +kernel
theorem dX4_carveOut_49 : decode cX4_carveOut 49 = .ok (.iconst 0, 1) := by decide +kernel
theorem dX4_carveOut_50 : decode cX4_carveOut 50 = .ok (.ireturn, 1) := by decide +kernel
theorem dX4_carveOut_51 : decode cX4_carveOut 51 = .ok (.aload_n 0, 1) := by decide +kernel
theorem dX4_carveOut_52 : decode cX4_carveOut 52 = .ok (.iload_n 1, 1) := by decide +kernel
theorem dX4_carveOut_53 : decode cX4_carveOut 53 = .ok (.iload_n 2, 1) := by decide +kernel
theorem dX4_carveOut_54 : decode cX4_carveOut 54 = .ok (.iload_n 3, 1) := by decide +kernel
theorem dX4_carveOut_55 : decode cX4_carveOut 55 = .ok (.iload 4, 2) := by decide +kernel
theorem dX4_carveOut_57 : decode cX4_carveOut 57 = .ok (.invokevirtual 78, 3) := by decide +kernel
theorem dX4_carveOut_60 : decode cX4_carveOut 60 = .ok (.istore 6, 2) := by decide +kernel
theorem dX4_carveOut_62 : decode cX4_carveOut 62 = .ok (.aload_n 0, 1) := by decide +kernel
theorem dX4_carveOut_63 : decode cX4_carveOut 63 = .ok (.iconst 0, 1) := by decide +kernel
theorem dX4_carveOut_64 : decode cX4_carveOut 64 = .ok (.iload 6, 2) := by decide +kernel
theorem dX4_carveOut_66 : decode cX4_carveOut 66 = .ok (.invokevirtual 82, 3) := by decide +kernel
theorem dX4_carveOut_69 : decode cX4_carveOut 69 = .ok (.aload_n 0, 1) := by decide +kernel
theorem dX4_carveOut_70 : decode cX4_carveOut 70 = .ok (.iload 6, 2) := by decide +kernel
theorem dX4_carveOut_72 : decode cX4_carveOut 72 = .ok (.invokevirtual 86, 3) := by decide +kernel
theorem dX4_carveOut_75 : decode cX4_carveOut 75 = .ok (.ireturn, 1) := by decide +kernel
set_option maxRecDepth 20000 in
theorem ggX4_split_X4_isPart : GoodIn wsX4_split wsX4_isPart := goodIn_r _ [11, 3, 4, 12, 13, 10, 14, 35, 36, 37, 38, 39, 40, 41, 42, 43, 44, 45, 46, 47] (by decide +kernel) (by decide +kernel)
set_option maxRecDepth 20000 in
theorem gX4_split_X4_isPart : GoodIn wsX4_split (wsV RX4 48 RX4 yX4_isPart wsX4_isPart) := goodIn_app (goodIn_of _ (by decide +kernel)) ggX4_split_X4_isPart
set_option maxRecDepth 20000 in
theorem ggX4_split_X4_isIn : GoodIn wsX4_split wsX4_isIn := goodIn_r _ [14] (by decide +kernel) (by decide +kernel)
set_option maxRecDepth 20000 in
theorem gX4_split_X4_isIn : GoodIn wsX4_split (va_wsS RX4 41 yX4_isIn wsX4_isIn) := goodIn_app (goodIn_of _ (by decide +kernel)) ggX4_split_X4_isIn
set_option maxRecDepth 20000 in
theorem ggX4_split_X4_isFine : GoodIn wsX4_split wsX4_isFine := goodIn_r _ [18, 19, 35, 36, 37, 38, 39, 40, 41, 42, 43, 44, 45, 46, 47] (by decide +kernel) (by decide +kernel)
set_option maxRecDepth 20000 in
theorem gX4_split_X4_isFine : GoodIn wsX4_split (wsV RX4 75 RX4 yX4_isFine wsX4_isFine) := goodIn_app (goodIn_of _ (by decide +kernel)) ggX4_split_X4_isFine
set_option maxRecDepth 20000 in
theorem ggX4_split_X4_makes : GoodIn wsX4_split wsX4_makes := goodIn_r _ [23, 3, 1, 2, 5, 6, 4, 35, 36, 37, 38, 39, 40, 41, 42, 43, 44, 45, 46, 47] (by decide +kernel) (by decide +kernel)
set_option maxRecDepth 20000 in
theorem gX4_split_X4_makes : GoodIn wsX4_split (wsV RX4 78 RX4 yX4_makes wsX4_makes) := goodIn_app (goodIn_of _ (by decide +kernel)) ggX4_split_X4_makes
set_option maxRecDepth 20000 in
theorem ggX4_split_X4_moves : GoodIn wsX4_split wsX4_moves := goodIn_r _ [27, 28, 29, 30, 31, 32, 33, 10, 34, 1, 2, 12, 13, 14, 35, 36, 37, 38, 39, 40, 41, 42, 43, 44, 45, 46, 47] (by decide +kernel) (by decide +kernel)
set_option maxRecDepth 20000 in
theorem gX4_split_X4_moves : GoodIn wsX4_split (wsV RX4 82 RX4 yX4_moves wsX4_moves) := goodIn_app (goodIn_of _ (by decide +kernel)) ggX4_split_X4_moves
theorem dX4_split_0 : decode cX4_split 0 = .ok (.aload_n 0, 1) := by decide +kernel
theorem dX4_split_1 : decode cX4_split 1 = .ok (.iload_n 1, 1) := by decide +kernel
theorem dX4_split_2 : decode cX4_split 2 = .ok (.invokevirtual 48, 3) := by decide +kernel
theorem dX4_split_5 : decode cX4_split 5 = .ok (.istore_n 3, 1) := by decide +kernel
theorem dX4_split_6 : decode cX4_split 6 = .ok (.aload_n 0, 1) := by decide +kernel
theorem dX4_split_7 : decode cX4_split 7 = .ok (.iload_n 3, 1) := by decide +kernel
theorem dX4_split_8 : decode cX4_split 8 = .ok (.ifCond .ne 7, 3) := by decide +kernel
theorem dX4_split_11 : decode cX4_split 11 = .ok (.iconst 1, 1) := by decide +kernel
theorem dX4_split_12 : decode cX4_split 12 = .ok (.goto 53, 3) := by decide +kernel
theorem dX4_split_15 : decode cX4_split 15 = .ok (.iload_n 2, 1) := by decide +kernel
theorem dX4_split_16 : decode cX4_split 16 = .ok (.aload_n 0, 1) := by decide +kernel
theorem dX4_split_17 : decode cX4_split 17 = .ok (.getfield 7, 3) := by decide +kernel
theorem dX4_split_20 : decode cX4_split 20 = .ok (.iload_n 1, 1) := by decide +kernel
theorem dX4_split_21 : decode cX4_split 21 = .ok (.iaload, 1) := by decide +kernel
theorem dX4_split_22 : decode cX4_split 22 = .ok (.iconst 1, 1) := by decide +kernel
theorem dX4_split_23 : decode cX4_split 23 = .ok (.iadd, 1) := by decide +kernel
theorem dX4_split_24 : decode cX4_split 24 = .ok (.aload_n 0, 1) := by decide +kernel
theorem dX4_split_25 : decode cX4_split 25 = .ok (.getfield 13, 3) := by decide +kernel
theorem dX4_split_28 : decode cX4_split 28 = .ok (.iload_n 1, 1) := by decide +kernel
theorem dX4_split_29 : decode cX4_split 29 = .ok (.iaload, 1) := by decide +kernel
theorem dX4_split_30 : decode cX4_split 30 = .ok (.iconst 1, 1) := by decide +kernel
theorem dX4_split_31 : decode cX4_split 31 = .ok (.isub, 1) := by decide +kernel
theorem dX4_split_32 : decode cX4_split 32 = .ok (.invokestatic 41, 3) := by decide +kernel
theorem dX4_split_35 : decode cX4_split 35 = .ok (.ifCond .ne 7, 3) := by decide +kernel
theorem dX4_split_38 : decode cX4_split 38 = .ok (.iconst 2, 1) := by decide +kernel
theorem dX4_split_39 : decode cX4_split 39 = .ok (.goto 26, 3) := by decide +kernel
theorem dX4_split_42 : decode cX4_split 42 = .ok (.aload_n 0, 1) := by decide +kernel
theorem dX4_split_43 : decode cX4_split 43 = .ok (.getfield 45, 3) := by decide +kernel
theorem dX4_split_46 : decode cX4_split 46 = .ok (.bipush 15, 2) := by decide +kernel
theorem dX4_split_48 : decode cX4_split 48 = .ok (.if_icmp .eq 12, 3) := by decide +kernel
theorem dX4_split_51 : decode cX4_split 51 = .ok (.aload_n 0, 1) := by decide +kernel
theorem dX4_split_52 : decode cX4_split 52 = .ok (.getfield 22, 3) := by decide +kernel
theorem dX4_split_55 : decode cX4_split 55 = .ok (.iload_n 1, 1) := by decide +kernel
theorem dX4_split_56 : decode cX4_split 56 = .ok (.iaload, 1) := by decide +kernel
theorem dX4_split_57 : decode cX4_split 57 = .ok (.ifCond .eq 7, 3) := by decide +kernel
theorem dX4_split_60 : decode cX4_split 60 = .ok (.iconst 3, 1) := by decide +kernel
theorem dX4_split_61 : decode cX4_split 61 = .ok (.goto 4, 3) := by decide +kernel
theorem dX4_split_64 : decode cX4_split 64 = .ok (.iconst 0, 1) := by decide +kernel
theorem dX4_split_65 : decode cX4_split 65 = .ok (.invokevirtual 75, 3) := by decide +kernel
theorem dX4_split_68 : decode cX4_split 68 = .ok (.ifCond .ne 5, 3) := by decide +kernel
theorem dX4_split_71 : decode cX4_split 71 = .ok (.iconst 0, 1) := by decide +kernel
theorem dX4_split_72 : decode cX4_split 72 = .ok (.ireturn, 1) := by decide +kernel
theorem dX4_split_73 : decode cX4_split 73 = .ok (.aload_n 0, 1) := by decide +kernel
theorem dX4_split_74 : decode cX4_split 74 = .ok (.iload_n 2, 1) := by decide +kernel
theorem dX4_split_75 : decode cX4_split 75 = .ok (.aload_n 0, 1) := by decide +kernel
theorem dX4_split_76 : decode cX4_split 76 = .ok (.getfield 13, 3) := by decide +kernel
theorem dX4_split_79 : decode cX4_split 79 = .ok (.iload_n 1, 1) := by decide +kernel
theorem dX4_split_80 : decode cX4_split 80 = .ok (.iaload, 1) := by decide +kernel
theorem dX4_split_81 : decode cX4_split 81 = .ok (.aload_n 0, 1) := by decide +kernel
theorem dX4_split_82 : decode cX4_split 82 = .ok (.getfield 16, 3) := by decide +kernel
theorem dX4_split_85 : decode cX4_split 85 = .ok (.iload_n 1, 1) := by decide +kernel
theorem dX4_split_86 : decode cX4_split 86 = .ok (.iaload, 1) := by decide +kernel
theorem dX4_split_87 : decode cX4_split 87 = .ok (.aload_n 0, 1) := by decide +kernel
theorem dX4_split_88 : decode cX4_split 88 = .ok (.getfield 19, 3) := by decide +kernel
theorem dX4_split_91 : decode cX4_split 91 = .ok (.iload_n 1, 1) := by decide +kernel
theorem dX4_split_92 : decode cX4_split 92 = .ok (.iaload, 1) := by decide +kernel
theorem dX4_split_93 : decode cX4_split 93 = .ok (.invokevirtual 78, 3) := by decide +kernel
theorem dX4_split_96 : decode cX4_split 96 = .ok (.istore 4, 2) := by decide +kernel
theorem dX4_split_98 : decode cX4_split 98 = .ok (.aload_n 0, 1) := by decide +kernel
theorem dX4_split_99 : decode cX4_split 99 = .ok (.getfield 13, 3) := by decide +kernel
theorem dX4_split_102 : decode cX4_split 102 = .ok (.iload_n 1, 1) := by decide +kernel
theorem dX4_split_103 : decode cX4_split 103 = .ok (.iload_n 2, 1) := by decide +kernel
theorem dX4_split_104 : decode cX4_split 104 = .ok (.iastore, 1) := by decide +kernel
theorem dX4_split_105 : decode cX4_split 105 = .ok (.aload_n 0, 1) := by decide +kernel
theorem dX4_split_106 : decode cX4_split 106 = .ok (.iload_n 1, 1) := by decide +kernel
theorem dX4_split_107 : decode cX4_split 107 = .ok (.iload 4, 2) := by decide +kernel
theorem dX4_split_109 : decode cX4_split 109 = .ok (.invokevirtual 82, 3) := by decide +kernel
theorem dX4_split_112 : decode cX4_split 112 = .ok (.iload 4, 2) := by decide +kernel
theorem dX4_split_114 : decode cX4_split 114 = .ok (.ireturn, 1) := by decide +kernel
set_option maxRecDepth 20000 in
theorem ggX4_merge_X4_isPart : GoodIn wsX4_merge wsX4_isPart := goodIn_r _ [10, 11, 1, 12, 13, 9, 14, 35, 36, 37, 38, 39, 40, 41, 42, 43, 44, 45, 46, 47] (by decide +kernel) (by decide +kernel)
set_option maxRecDepth 20000 in
theorem gX4_merge_X4_isPart : GoodIn wsX4_merge (wsV RX4 48 RX4 yX4_isPart wsX4_isPart) := goodIn_app (goodIn_of _ (by decide +kernel)) ggX4_merge_X4_isPart
set_option maxRecDepth 20000 in
theorem ggX4_merge_X4_isFine : GoodIn wsX4_merge wsX4_isFine := goodIn_r _ [18, 19, 35, 36, 37, 38, 39, 40, 41, 42, 43, 44, 45, 46, 47] (by decide +kernel) (by decide +kernel)
set_option maxRecDepth 20000 in
theorem gX4_merge_X4_isFine : GoodIn wsX4_merge (wsV RX4 75 RX4 yX4_isFine wsX4_isFine) := goodIn_app (goodIn_of _ (by decide +kernel)) ggX4_merge_X4_isFine
set_option maxRecDepth 20000 in
theorem ggX4_merge_X4_moves : GoodIn wsX4_merge wsX4_moves := goodIn_r _ [23, 24, 25, 26, 27, 28, 29, 9, 30, 2, 3, 12, 13, 14, 35, 36, 37, 38, 39, 40, 41, 42, 43, 44, 45, 46, 47] (by decide +kernel) (by decide +kernel)
set_option maxRecDepth 20000 in
theorem gX4_merge_X4_moves : GoodIn wsX4_merge (wsV RX4 82 RX4 yX4_moves wsX4_moves) := goodIn_app (goodIn_of _ (by decide +kernel)) ggX4_merge_X4_moves
set_option maxRecDepth 20000 in
theorem ggX4_merge_X4_rowsOf : GoodIn wsX4_merge wsX4_rowsOf := goodIn_r _ [34, 24, 25, 35, 36, 37, 38, 39, 40, 41, 42, 43, 44, 45, 46, 47] (by decide +kernel) (by decide +kernel)
set_option maxRecDepth 20000 in
theorem gX4_merge_X4_rowsOf : GoodIn wsX4_merge (wsV RX4 86 RX4 yX4_rowsOf wsX4_rowsOf) := goodIn_app (goodIn_of _ (by decide +kernel)) ggX4_merge_X4_rowsOf
theorem dX4_merge_0 : decode cX4_merge 0 = .ok (.aload_n 0, 1) := by decide +kernel
theorem dX4_merge_1 : decode cX4_merge 1 = .ok (.iload_n 1, 1) := by decide +kernel
theorem dX4_merge_2 : decode cX4_merge 2 = .ok (.invokevirtual 48, 3) := by decide +kernel
theorem dX4_merge_5 : decode cX4_merge 5 = .ok (.ifCond .eq 15, 3) := by decide +kernel
theorem dX4_merge_8 : decode cX4_merge 8 = .ok (.aload_n 0, 1) := by decide +kernel
theorem dX4_merge_9 : decode cX4_merge 9 = .ok (.iload_n 2, 1) := by decide +kernel
theorem dX4_merge_10 : decode cX4_merge 10 = .ok (.invokevirtual 48, 3) := by decide +kernel
theorem dX4_merge_13 : decode cX4_merge 13 = .ok (.ifCond .eq 7, 3) := by decide +kernel
theorem dX4_merge_16 : decode cX4_merge 16 = .ok (.iconst 1, 1) := by decide +kernel
theorem dX4_merge_17 : decode cX4_merge 17 = .ok (.goto 4, 3) := by decide +kernel
theorem dX4_merge_20 : decode cX4_merge 20 = .ok (.iconst 0, 1) := by decide +kernel
theorem dX4_merge_21 : decode cX4_merge 21 = .ok (.istore_n 3, 1) := by decide +kernel
theorem dX4_merge_22 : decode cX4_merge 22 = .ok (.iload_n 3, 1) := by decide +kernel
theorem dX4_merge_23 : decode cX4_merge 23 = .ok (.ifCond .eq 70, 3) := by decide +kernel
theorem dX4_merge_26 : decode cX4_merge 26 = .ok (.aload_n 0, 1) := by decide +kernel
theorem dX4_merge_27 : decode cX4_merge 27 = .ok (.getfield 22, 3) := by decide +kernel
theorem dX4_merge_30 : decode cX4_merge 30 = .ok (.iload_n 1, 1) := by decide +kernel
theorem dX4_merge_31 : decode cX4_merge 31 = .ok (.iaload, 1) := by decide +kernel
theorem dX4_merge_32 : decode cX4_merge 32 = .ok (.ifCond .ne 61, 3) := by decide +kernel
theorem dX4_merge_35 : decode cX4_merge 35 = .ok (.aload_n 0, 1) := by decide +kernel
theorem dX4_merge_36 : decode cX4_merge 36 = .ok (.getfield 22, 3) := by decide +kernel
theorem dX4_merge_39 : decode cX4_merge 39 = .ok (.iload_n 2, 1) := by decide +kernel
theorem dX4_merge_40 : decode cX4_merge 40 = .ok (.iaload, 1) := by decide +kernel
theorem dX4_merge_41 : decode cX4_merge 41 = .ok (.ifCond .ne 52, 3) := by decide +kernel
theorem dX4_merge_44 : decode cX4_merge 44 = .ok (.aload_n 0, 1) := by decide +kernel
theorem dX4_merge_45 : decode cX4_merge 45 = .ok (.getfield 7, 3) := by decide +kernel
theorem dX4_merge_48 : decode cX4_merge 48 = .ok (.iload_n 2, 1) := by decide +kernel
theorem dX4_merge_49 : decode cX4_merge 49 = .ok (.iaload, 1) := by decide +kernel
theorem dX4_merge_50 : decode cX4_merge 50 = .ok (.aload_n 0, 1) := by decide +kernel
theorem dX4_merge_51 : decode cX4_merge 51 = .ok (.getfield 13, 3) := by decide +kernel
theorem dX4_merge_54 : decode cX4_merge 54 = .ok (.iload_n 1, 1) := by decide +kernel
theorem dX4_merge_55 : decode cX4_merge 55 = .ok (.iaload, 1) := by decide +kernel
theorem dX4_merge_56 : decode cX4_merge 56 = .ok (.if_icmp .ne 37, 3) := by decide +kernel
theorem dX4_merge_59 : decode cX4_merge 59 = .ok (.aload_n 0, 1) := by decide +kernel
theorem dX4_merge_60 : decode cX4_merge 60 = .ok (.getfield 16, 3) := by decide +kernel
theorem dX4_merge_63 : decode cX4_merge 63 = .ok (.iload_n 1, 1) := by decide +kernel
theorem dX4_merge_64 : decode cX4_merge 64 = .ok (.iaload, 1) := by decide +kernel
theorem dX4_merge_65 : decode cX4_merge 65 = .ok (.aload_n 0, 1) := by decide +kernel
theorem dX4_merge_66 : decode cX4_merge 66 = .ok (.getfield 16, 3) := by decide +kernel
theorem dX4_merge_69 : decode cX4_merge 69 = .ok (.iload_n 2, 1) := by decide +kernel
theorem dX4_merge_70 : decode cX4_merge 70 = .ok (.iaload, 1) := by decide +kernel
theorem dX4_merge_71 : decode cX4_merge 71 = .ok (.if_icmp .ne 22, 3) := by decide +kernel
theorem dX4_merge_74 : decode cX4_merge 74 = .ok (.aload_n 0, 1) := by decide +kernel
theorem dX4_merge_75 : decode cX4_merge 75 = .ok (.getfield 19, 3) := by decide +kernel
theorem dX4_merge_78 : decode cX4_merge 78 = .ok (.iload_n 1, 1) := by decide +kernel
theorem dX4_merge_79 : decode cX4_merge 79 = .ok (.iaload, 1) := by decide +kernel
theorem dX4_merge_80 : decode cX4_merge 80 = .ok (.aload_n 0, 1) := by decide +kernel
theorem dX4_merge_81 : decode cX4_merge 81 = .ok (.getfield 19, 3) := by decide +kernel
theorem dX4_merge_84 : decode cX4_merge 84 = .ok (.iload_n 2, 1) := by decide +kernel
theorem dX4_merge_85 : decode cX4_merge 85 = .ok (.iaload, 1) := by decide +kernel
theorem dX4_merge_86 : decode cX4_merge 86 = .ok (.if_icmp .ne 7, 3) := by decide +kernel
theorem dX4_merge_89 : decode cX4_merge 89 = .ok (.iconst 1, 1) := by decide +kernel
theorem dX4_merge_90 : decode cX4_merge 90 = .ok (.goto 4, 3) := by decide +kernel
theorem dX4_merge_93 : decode cX4_merge 93 = .ok (.iconst 0, 1) := by decide +kernel
theorem dX4_merge_94 : decode cX4_merge 94 = .ok (.istore 4, 2) := by decide +kernel
theorem dX4_merge_96 : decode cX4_merge 96 = .ok (.aload_n 0, 1) := by decide +kernel
theorem dX4_merge_97 : decode cX4_merge 97 = .ok (.iload_n 3, 1) := by decide +kernel
theorem dX4_merge_98 : decode cX4_merge 98 = .ok (.ifCond .ne 7, 3) := by decide +kernel
theorem dX4_merge_101 : decode cX4_merge 101 = .ok (.iconst 1, 1) := by decide +kernel
theorem dX4_merge_102 : decode cX4_merge 102 = .ok (.goto 13, 3) := by decide +kernel
theorem dX4_merge_105 : decode cX4_merge 105 = .ok (.iload 4, 2) := by decide +kernel
theorem dX4_merge_107 : decode cX4_merge 107 = .ok (.ifCond .ne 7, 3) := by decide +kernel
theorem dX4_merge_110 : decode cX4_merge 110 = .ok (.iconst 2, 1) := by decide +kernel
theorem dX4_merge_111 : decode cX4_merge 111 = .ok (.goto 4, 3) := by decide +kernel
theorem dX4_merge_114 : decode cX4_merge 114 = .ok (.iconst 0, 1) := by decide +kernel
theorem dX4_merge_115 : decode cX4_merge 115 = .ok (.invokevirtual 75, 3) := by decide +kernel
theorem dX4_merge_118 : decode cX4_merge 118 = .ok (.ifCond .ne 5, 3) := by decide +kernel
theorem dX4_merge_121 : decode cX4_merge 121 = .ok (.iconst 0, 1) := by decide +kernel
theorem dX4_merge_122 : decode cX4_merge 122 = .ok (.ireturn, 1) := by decide +kernel
theorem dX4_merge_123 : decode cX4_merge 123 = .ok (.aload_n 0, 1) := by decide +kernel
theorem dX4_merge_124 : decode cX4_merge 124 = .ok (.getfield 13, 3) := by decide +kernel
theorem dX4_merge_127 : decode cX4_merge 127 = .ok (.iload_n 1, 1) := by decide +kernel
theorem dX4_merge_128 : decode cX4_merge 128 = .ok (.aload_n 0, 1) := by decide +kernel
theorem dX4_merge_129 : decode cX4_merge 129 = .ok (.getfield 13, 3) := by decide +kernel
theorem dX4_merge_132 : decode cX4_merge 132 = .ok (.iload_n 2, 1) := by decide +kernel
theorem dX4_merge_133 : decode cX4_merge 133 = .ok (.iaload, 1) := by decide +kernel
theorem dX4_merge_134 : decode cX4_merge 134 = .ok (.iastore, 1) := by decide +kernel
theorem dX4_merge_135 : decode cX4_merge 135 = .ok (.aload_n 0, 1) := by decide +kernel
theorem dX4_merge_136 : decode cX4_merge 136 = .ok (.getfield 22, 3) := by decide +kernel
theorem dX4_merge_139 : decode cX4_merge 139 = .ok (.iload_n 2, 1) := by decide +kernel
theorem dX4_merge_140 : decode cX4_merge 140 = .ok (.iconst 2, 1) := by decide +kernel
theorem dX4_merge_141 : decode cX4_merge 141 = .ok (.iastore, 1) := by decide +kernel
theorem dX4_merge_142 : decode cX4_merge 142 = .ok (.aload_n 0, 1) := by decide +kernel
theorem dX4_merge_143 : decode cX4_merge 143 = .ok (.iload_n 2, 1) := by decide +kernel
theorem dX4_merge_144 : decode cX4_merge 144 = .ok (.iload_n 1, 1) := by decide +kernel
theorem dX4_merge_145 : decode cX4_merge 145 = .ok (.invokevirtual 82, 3) := by decide +kernel
theorem dX4_merge_148 : decode cX4_merge 148 = .ok (.aload_n 0, 1) := by decide +kernel
theorem dX4_merge_149 : decode cX4_merge 149 = .ok (.iload_n 1, 1) := by decide +kernel
theorem dX4_merge_150 : decode cX4_merge 150 = .ok (.invokevirtual 86, 3) := by decide +kernel
theorem dX4_merge_153 : decode cX4_merge 153 = .ok (.ireturn, 1) := by decide +kernel
set_option maxRecDepth 20000 in
theorem ggX4_detach_X4_isPart : GoodIn wsX4_detach wsX4_isPart := goodIn_r _ [7, 8, 1, 9, 10, 6, 11, 23, 24, 25, 26, 27, 28, 29, 30, 31, 32, 33, 34, 35] (by decide +kernel) (by decide +kernel)
set_option maxRecDepth 20000 in
theorem gX4_detach_X4_isPart : GoodIn wsX4_detach (wsV RX4 48 RX4 yX4_isPart wsX4_isPart) := goodIn_app (goodIn_of _ (by decide +kernel)) ggX4_detach_X4_isPart
set_option maxRecDepth 20000 in
theorem ggX4_detach_X4_isFine : GoodIn wsX4_detach wsX4_isFine := goodIn_r _ [15, 16, 23, 24, 25, 26, 27, 28, 29, 30, 31, 32, 33, 34, 35] (by decide +kernel) (by decide +kernel)
set_option maxRecDepth 20000 in
theorem gX4_detach_X4_isFine : GoodIn wsX4_detach (wsV RX4 75 RX4 yX4_isFine wsX4_isFine) := goodIn_app (goodIn_of _ (by decide +kernel)) ggX4_detach_X4_isFine
set_option maxRecDepth 20000 in
theorem ggX4_detach_X4_rowsOf : GoodIn wsX4_detach wsX4_rowsOf := goodIn_r _ [20, 21, 22, 23, 24, 25, 26, 27, 28, 29, 30, 31, 32, 33, 34, 35] (by decide +kernel) (by decide +kernel)
set_option maxRecDepth 20000 in
theorem gX4_detach_X4_rowsOf : GoodIn wsX4_detach (wsV RX4 86 RX4 yX4_rowsOf wsX4_rowsOf) := goodIn_app (goodIn_of _ (by decide +kernel)) ggX4_detach_X4_rowsOf
theorem dX4_detach_0 : decode cX4_detach 0 = .ok (.aload_n 0, 1) := by decide +kernel
theorem dX4_detach_1 : decode cX4_detach 1 = .ok (.iload_n 1, 1) := by decide +kernel
theorem dX4_detach_2 : decode cX4_detach 2 = .ok (.invokevirtual 48, 3) := by decide +kernel
theorem dX4_detach_5 : decode cX4_detach 5 = .ok (.istore_n 2, 1) := by decide +kernel
theorem dX4_detach_6 : decode cX4_detach 6 = .ok (.aload_n 0, 1) := by decide +kernel
theorem dX4_detach_7 : decode cX4_detach 7 = .ok (.iload_n 2, 1) := by decide +kernel
theorem dX4_detach_8 : decode cX4_detach 8 = .ok (.ifCond .ne 7, 3) := by decide +kernel
theorem dX4_detach_11 : decode cX4_detach 11 = .ok (.iconst 1, 1) := by decide +kernel
theorem dX4_detach_12 : decode cX4_detach 12 = .ok (.goto 18, 3) := by decide +kernel
theorem dX4_detach_15 : decode cX4_detach 15 = .ok (.aload_n 0, 1) := by decide +kernel
theorem dX4_detach_16 : decode cX4_detach 16 = .ok (.getfield 22, 3) := by decide +kernel
theorem dX4_detach_19 : decode cX4_detach 19 = .ok (.iload_n 1, 1) := by decide +kernel
theorem dX4_detach_20 : decode cX4_detach 20 = .ok (.iaload, 1) := by decide +kernel
theorem dX4_detach_21 : decode cX4_detach 21 = .ok (.iconst 1, 1) := by decide +kernel
theorem dX4_detach_22 : decode cX4_detach 22 = .ok (.if_icmp .ne 7, 3) := by decide +kernel
theorem dX4_detach_25 : decode cX4_detach 25 = .ok (.iconst 2, 1) := by decide +kernel
theorem dX4_detach_26 : decode cX4_detach 26 = .ok (.goto 4, 3) := by decide +kernel
theorem dX4_detach_29 : decode cX4_detach 29 = .ok (.iconst 0, 1) := by decide +kernel
theorem dX4_detach_30 : decode cX4_detach 30 = .ok (.invokevirtual 75, 3) := by decide +kernel
theorem dX4_detach_33 : decode cX4_detach 33 = .ok (.ifCond .ne 5, 3) := by decide +kernel
theorem dX4_detach_36 : decode cX4_detach 36 = .ok (.iconst 0, 1) := by decide +kernel
theorem dX4_detach_37 : decode cX4_detach 37 = .ok (.ireturn, 1) := by decide +kernel
theorem dX4_detach_38 : decode cX4_detach 38 = .ok (.aload_n 0, 1) := by decide +kernel
theorem dX4_detach_39 : decode cX4_detach 39 = .ok (.getfield 22, 3) := by decide +kernel
theorem dX4_detach_42 : decode cX4_detach 42 = .ok (.iload_n 1, 1) := by decide +kernel
theorem dX4_detach_43 : decode cX4_detach 43 = .ok (.iconst 1, 1) := by decide +kernel
theorem dX4_detach_44 : decode cX4_detach 44 = .ok (.iastore, 1) := by decide +kernel
theorem dX4_detach_45 : decode cX4_detach 45 = .ok (.aload_n 0, 1) := by decide +kernel
theorem dX4_detach_46 : decode cX4_detach 46 = .ok (.iconst 1, 1) := by decide +kernel
theorem dX4_detach_47 : decode cX4_detach 47 = .ok (.putfield 90, 3) := by decide +kernel
theorem dX4_detach_50 : decode cX4_detach 50 = .ok (.aload_n 0, 1) := by decide +kernel
theorem dX4_detach_51 : decode cX4_detach 51 = .ok (.iload_n 1, 1) := by decide +kernel
theorem dX4_detach_52 : decode cX4_detach 52 = .ok (.invokevirtual 86, 3) := by decide +kernel
theorem dX4_detach_55 : decode cX4_detach 55 = .ok (.ireturn, 1) := by decide +kernel
set_option maxRecDepth 20000 in
theorem ggX4_attach_X4_isPart : GoodIn wsX4_attach wsX4_isPart := goodIn_r _ [9, 10, 1, 11, 12, 8, 13, 38, 39, 40, 41, 42, 43, 44, 45, 46, 47, 48, 49, 50] (by decide +kernel) (by decide +kernel)
set_option maxRecDepth 20000 in
theorem gX4_attach_X4_isPart : GoodIn wsX4_attach (wsV RX4 48 RX4 yX4_isPart wsX4_isPart) := goodIn_app (goodIn_of _ (by decide +kernel)) ggX4_attach_X4_isPart
set_option maxRecDepth 20000 in
theorem ggX4_attach_X4_overlaps : GoodIn wsX4_attach wsX4_overlaps := goodIn_r _ [17, 10, 3, 2, 18, 19, 20, 8, 21, 1, 38, 39, 40, 41, 42, 43, 44, 45, 46, 47, 48, 49, 50] (by decide +kernel) (by decide +kernel)
set_option maxRecDepth 20000 in
theorem gX4_attach_X4_overlaps : GoodIn wsX4_attach (wsV RX4 69 RX4 yX4_overlaps wsX4_overlaps) := goodIn_app (goodIn_of _ (by decide +kernel)) ggX4_attach_X4_overlaps
set_option maxRecDepth 20000 in
theorem ggX4_attach_X4_isInRest : GoodIn wsX4_attach wsX4_isInRest := goodIn_r _ [25, 26, 27, 28, 11, 12, 8, 13, 38, 39, 40, 41, 42, 43, 44, 45, 46, 47, 48, 49, 50] (by decide +kernel) (by decide +kernel)
set_option maxRecDepth 20000 in
theorem gX4_attach_X4_isInRest : GoodIn wsX4_attach (wsV RX4 72 RX4 yX4_isInRest wsX4_isInRest) := goodIn_app (goodIn_of _ (by decide +kernel)) ggX4_attach_X4_isInRest
set_option maxRecDepth 20000 in
theorem ggX4_attach_X4_isFine : GoodIn wsX4_attach wsX4_isFine := goodIn_r _ [32, 33, 38, 39, 40, 41, 42, 43, 44, 45, 46, 47, 48, 49, 50] (by decide +kernel) (by decide +kernel)
set_option maxRecDepth 20000 in
theorem gX4_attach_X4_isFine : GoodIn wsX4_attach (wsV RX4 75 RX4 yX4_isFine wsX4_isFine) := goodIn_app (goodIn_of _ (by decide +kernel)) ggX4_attach_X4_isFine
set_option maxRecDepth 20000 in
theorem ggX4_attach_X4_rowsOf : GoodIn wsX4_attach wsX4_rowsOf := goodIn_r _ [37, 26, 27, 38, 39, 40, 41, 42, 43, 44, 45, 46, 47, 48, 49, 50] (by decide +kernel) (by decide +kernel)
set_option maxRecDepth 20000 in
theorem gX4_attach_X4_rowsOf : GoodIn wsX4_attach (wsV RX4 86 RX4 yX4_rowsOf wsX4_rowsOf) := goodIn_app (goodIn_of _ (by decide +kernel)) ggX4_attach_X4_rowsOf
theorem dX4_attach_0 : decode cX4_attach 0 = .ok (.aload_n 0, 1) := by decide +kernel
theorem dX4_attach_1 : decode cX4_attach 1 = .ok (.iload_n 1, 1) := by decide +kernel
theorem dX4_attach_2 : decode cX4_attach 2 = .ok (.invokevirtual 48, 3) := by decide +kernel
theorem dX4_attach_5 : decode cX4_attach 5 = .ok (.istore_n 2, 1) := by decide +kernel
theorem dX4_attach_6 : decode cX4_attach 6 = .ok (.aload_n 0, 1) := by decide +kernel
theorem dX4_attach_7 : decode cX4_attach 7 = .ok (.iload_n 2, 1) := by decide +kernel
theorem dX4_attach_8 : decode cX4_attach 8 = .ok (.ifCond .ne 7, 3) := by decide +kernel
theorem dX4_attach_11 : decode cX4_attach 11 = .ok (.iconst 1, 1) := by decide +kernel
theorem dX4_attach_12 : decode cX4_attach 12 = .ok (.goto 55, 3) := by decide +kernel
theorem dX4_attach_15 : decode cX4_attach 15 = .ok (.aload_n 0, 1) := by decide +kernel
theorem dX4_attach_16 : decode cX4_attach 16 = .ok (.getfield 22, 3) := by decide +kernel
theorem dX4_attach_19 : decode cX4_attach 19 = .ok (.iload_n 1, 1) := by decide +kernel
theorem dX4_attach_20 : decode cX4_attach 20 = .ok (.iaload, 1) := by decide +kernel
theorem dX4_attach_21 : decode cX4_attach 21 = .ok (.ifCond .eq 41, 3) := by decide +kernel
theorem dX4_attach_24 : decode cX4_attach 24 = .ok (.aload_n 0, 1) := by decide +kernel
theorem dX4_attach_25 : decode cX4_attach 25 = .ok (.aload_n 0, 1) := by decide +kernel
theorem dX4_attach_26 : decode cX4_attach 26 = .ok (.getfield 7, 3) := by decide +kernel
theorem dX4_attach_29 : decode cX4_attach 29 = .ok (.iload_n 1, 1) := by decide +kernel
theorem dX4_attach_30 : decode cX4_attach 30 = .ok (.iaload, 1) := by decide +kernel
theorem dX4_attach_31 : decode cX4_attach 31 = .ok (.aload_n 0, 1) := by decide +kernel
theorem dX4_attach_32 : decode cX4_attach 32 = .ok (.getfield 13, 3) := by decide +kernel
theorem dX4_attach_35 : decode cX4_attach 35 = .ok (.iload_n 1, 1) := by decide +kernel
theorem dX4_attach_36 : decode cX4_attach 36 = .ok (.iaload, 1) := by decide +kernel
theorem dX4_attach_37 : decode cX4_attach 37 = .ok (.invokevirtual 69, 3) := by decide +kernel
theorem dX4_attach_40 : decode cX4_attach 40 = .ok (.ifCond .ne 22, 3) := by decide +kernel
theorem dX4_attach_43 : decode cX4_attach 43 = .ok (.aload_n 0, 1) := by decide +kernel
theorem dX4_attach_44 : decode cX4_attach 44 = .ok (.aload_n 0, 1) := by decide +kernel
theorem dX4_attach_45 : decode cX4_attach 45 = .ok (.getfield 7, 3) := by decide +kernel
theorem dX4_attach_48 : decode cX4_attach 48 = .ok (.iload_n 1, 1) := by decide +kernel
theorem dX4_attach_49 : decode cX4_attach 49 = .ok (.iaload, 1) := by decide +kernel
theorem dX4_attach_50 : decode cX4_attach 50 = .ok (.aload_n 0, 1) := by decide +kernel
theorem dX4_attach_51 : decode cX4_attach 51 = .ok (.getfield 13, 3) := by decide +kernel
theorem dX4_attach_54 : decode cX4_attach 54 = .ok (.iload_n 1, 1) := by decide +kernel
theorem dX4_attach_55 : decode cX4_attach 55 = .ok (.iaload, 1) := by decide +kernel
theorem dX4_attach_56 : decode cX4_attach 56 = .ok (.invokevirtual 72, 3) := by decide +kernel
theorem dX4_attach_59 : decode cX4_attach 59 = .ok (.ifCond .eq 7, 3) := by decide +kernel
theorem dX4_attach_62 : decode cX4_attach 62 = .ok (.iconst 2, 1) := by decide +kernel
theorem dX4_attach_63 : decode cX4_attach 63 = .ok (.goto 4, 3) := by decide +kernel
theorem dX4_attach_66 : decode cX4_attach 66 = .ok (.iconst 0, 1) := by decide +kernel
theorem dX4_attach_67 : decode cX4_attach 67 = .ok (.invokevirtual 75, 3) := by decide +kernel
theorem dX4_attach_70 : decode cX4_attach 70 = .ok (.ifCond .ne 5, 3) := by decide +kernel
theorem dX4_attach_73 : decode cX4_attach 73 = .ok (.iconst 0, 1) := by decide +kernel
theorem dX4_attach_74 : decode cX4_attach 74 = .ok (.ireturn, 1) := by decide +kernel
theorem dX4_attach_75 : decode cX4_attach 75 = .ok (.aload_n 0, 1) := by decide +kernel
theorem dX4_attach_76 : decode cX4_attach 76 = .ok (.getfield 22, 3) := by decide +kernel
theorem dX4_attach_79 : decode cX4_attach 79 = .ok (.iload_n 1, 1) := by decide +kernel
theorem dX4_attach_80 : decode cX4_attach 80 = .ok (.iconst 0, 1) := by decide +kernel
theorem dX4_attach_81 : decode cX4_attach 81 = .ok (.iastore, 1) := by decide +kernel
theorem dX4_attach_82 : decode cX4_attach 82 = .ok (.aload_n 0, 1) := by decide +kernel
theorem dX4_attach_83 : decode cX4_attach 83 = .ok (.iconst 1, 1) := by decide +kernel
theorem dX4_attach_84 : decode cX4_attach 84 = .ok (.putfield 90, 3) := by decide +kernel
theorem dX4_attach_87 : decode cX4_attach 87 = .ok (.aload_n 0, 1) := by decide +kernel
theorem dX4_attach_88 : decode cX4_attach 88 = .ok (.iload_n 1, 1) := by decide +kernel
theorem dX4_attach_89 : decode cX4_attach 89 = .ok (.invokevirtual 86, 3) := by decide +kernel
theorem dX4_attach_92 : decode cX4_attach 92 = .ok (.ireturn, 1) := by decide +kernel
set_option maxRecDepth 20000 in
theorem ggX4_fits_X4_hasKey : GoodIn wsX4_fits wsX4_hasKey := goodIn_r _ [8, 9, 10, 11, 12, 7, 13, 14, 15, 16, 17, 18, 19, 20, 21, 22, 23, 24, 25, 26] (by decide +kernel) (by decide +kernel)
set_option maxRecDepth 20000 in
theorem gX4_fits_X4_hasKey : GoodIn wsX4_fits (wsV RX4 58 RX4 yX4_hasKey wsX4_hasKey) := goodIn_app (goodIn_of _ (by decide +kernel)) ggX4_fits_X4_hasKey
theorem dX4_fits_0 : decode cX4_fits 0 = .ok (.iconst 1, 1) := by decide +kernel
theorem dX4_fits_1 : decode cX4_fits 1 = .ok (.istore_n 3, 1) := by decide +kernel
theorem dX4_fits_2 : decode cX4_fits 2 = .ok (.iconst 0, 1) := by decide +kernel
theorem dX4_fits_3 : decode cX4_fits 3 = .ok (.istore 4, 2) := by decide +kernel
theorem dX4_fits_5 : decode cX4_fits 5 = .ok (.iload 4, 2) := by decide +kernel
theorem dX4_fits_7 : decode cX4_fits 7 = .ok (.aload_n 0, 1) := by decide +kernel
theorem dX4_fits_8 : decode cX4_fits 8 = .ok (.getfield 52, 3) := by decide +kernel
theorem dX4_fits_11 : decode cX4_fits 11 = .ok (.if_icmp .ge 45, 3) := by decide +kernel
theorem dX4_fits_14 : decode cX4_fits 14 = .ok (.iload_n 3, 1) := by decide +kernel
theorem dX4_fits_15 : decode cX4_fits 15 = .ok (.ifCond .eq 33, 3) := by decide +kernel
theorem dX4_fits_18 : decode cX4_fits 18 = .ok (.aload_n 0, 1) := by decide +kernel
theorem dX4_fits_19 : decode cX4_fits 19 = .ok (.getfield 25, 3) := by decide +kernel
theorem dX4_fits_22 : decode cX4_fits 22 = .ok (.iload 4, 2) := by decide +kernel
theorem dX4_fits_24 : decode cX4_fits 24 = .ok (.iaload, 1) := by decide +kernel
theorem dX4_fits_25 : decode cX4_fits 25 = .ok (.iload_n 1, 1) := by decide +kernel
theorem dX4_fits_26 : decode cX4_fits 26 = .ok (.if_icmp .ne 18, 3) := by decide +kernel
theorem dX4_fits_29 : decode cX4_fits 29 = .ok (.aload_n 0, 1) := by decide +kernel
theorem dX4_fits_30 : decode cX4_fits 30 = .ok (.iload_n 2, 1) := by decide +kernel
theorem dX4_fits_31 : decode cX4_fits 31 = .ok (.aload_n 0, 1) := by decide +kernel
theorem dX4_fits_32 : decode cX4_fits 32 = .ok (.getfield 28, 3) := by decide +kernel
theorem dX4_fits_35 : decode cX4_fits 35 = .ok (.iload 4, 2) := by decide +kernel
theorem dX4_fits_37 : decode cX4_fits 37 = .ok (.iaload, 1) := by decide +kernel
theorem dX4_fits_38 : decode cX4_fits 38 = .ok (.invokevirtual 58, 3) := by decide +kernel
theorem dX4_fits_41 : decode cX4_fits 41 = .ok (.ifCond .eq 7, 3) := by decide +kernel
theorem dX4_fits_44 : decode cX4_fits 44 = .ok (.iconst 1, 1) := by decide +kernel
theorem dX4_fits_45 : decode cX4_fits 45 = .ok (.goto 4, 3) := by decide +kernel
theorem dX4_fits_48 : decode cX4_fits 48 = .ok (.iconst 0, 1) := by decide +kernel
theorem dX4_fits_49 : decode cX4_fits 49 = .ok (.istore_n 3, 1) := by decide +kernel
theorem dX4_fits_50 : decode cX4_fits 50 = .ok (.iinc 4 1, 3) := by decide +kernel
theorem dX4_fits_53 : decode cX4_fits 53 = .ok (.goto (-48), 3) := by decide +kernel
theorem dX4_fits_56 : decode cX4_fits 56 = .ok (.iload_n 3, 1) := by decide +kernel
theorem dX4_fits_57 : decode cX4_fits 57 = .ok (.ireturn, 1) := by decide +kernel
set_option maxRecDepth 20000 in
theorem ggX4_exchange_X4_isPart : GoodIn wsX4_exchange wsX4_isPart := goodIn_r _ [9, 10, 1, 11, 12, 8, 13, 34, 35, 36, 37, 38, 39, 40, 41, 42, 43, 44, 45, 46] (by decide +kernel) (by decide +kernel)
set_option maxRecDepth 20000 in
theorem gX4_exchange_X4_isPart : GoodIn wsX4_exchange (wsV RX4 48 RX4 yX4_isPart wsX4_isPart) := goodIn_app (goodIn_of _ (by decide +kernel)) ggX4_exchange_X4_isPart
set_option maxRecDepth 20000 in
theorem ggX4_exchange_X4_fits : GoodIn wsX4_exchange wsX4_fits := goodIn_r _ [17, 2, 3, 18, 19, 20, 21, 8, 22, 23, 24, 11, 12, 13, 34, 35, 36, 37, 38, 39, 40, 41, 42, 43, 44, 45, 46] (by decide +kernel) (by decide +kernel)
set_option maxRecDepth 20000 in
theorem gX4_exchange_X4_fits : GoodIn wsX4_exchange (wsV RX4 94 RX4 yX4_fits wsX4_fits) := goodIn_app (goodIn_of _ (by decide +kernel)) ggX4_exchange_X4_fits
set_option maxRecDepth 20000 in
theorem ggX4_exchange_X4_isFine : GoodIn wsX4_exchange wsX4_isFine := goodIn_r _ [28, 29, 34, 35, 36, 37, 38, 39, 40, 41, 42, 43, 44, 45, 46] (by decide +kernel) (by decide +kernel)
set_option maxRecDepth 20000 in
theorem gX4_exchange_X4_isFine : GoodIn wsX4_exchange (wsV RX4 75 RX4 yX4_isFine wsX4_isFine) := goodIn_app (goodIn_of _ (by decide +kernel)) ggX4_exchange_X4_isFine
set_option maxRecDepth 20000 in
theorem ggX4_exchange_X4_rowsOf : GoodIn wsX4_exchange wsX4_rowsOf := goodIn_r _ [33, 2, 3, 34, 35, 36, 37, 38, 39, 40, 41, 42, 43, 44, 45, 46] (by decide +kernel) (by decide +kernel)
set_option maxRecDepth 20000 in
theorem gX4_exchange_X4_rowsOf : GoodIn wsX4_exchange (wsV RX4 86 RX4 yX4_rowsOf wsX4_rowsOf) := goodIn_app (goodIn_of _ (by decide +kernel)) ggX4_exchange_X4_rowsOf
theorem dX4_exchange_0 : decode cX4_exchange 0 = .ok (.aload_n 0, 1) := by decide +kernel
theorem dX4_exchange_1 : decode cX4_exchange 1 = .ok (.iload_n 1, 1) := by decide +kernel
theorem dX4_exchange_2 : decode cX4_exchange 2 = .ok (.invokevirtual 48, 3) := by decide +kernel
theorem dX4_exchange_5 : decode cX4_exchange 5 = .ok (.ifCond .eq 15, 3) := by decide +kernel
theorem dX4_exchange_8 : decode cX4_exchange 8 = .ok (.aload_n 0, 1) := by decide +kernel
theorem dX4_exchange_9 : decode cX4_exchange 9 = .ok (.iload_n 2, 1) := by decide +kernel
theorem dX4_exchange_10 : decode cX4_exchange 10 = .ok (.invokevirtual 48, 3) := by decide +kernel
theorem dX4_exchange_13 : decode cX4_exchange 13 = .ok (.ifCond .eq 7, 3) := by decide +kernel
theorem dX4_exchange_16 : decode cX4_exchange 16 = .ok (.iconst 1, 1) := by decide +kernel
theorem dX4_exchange_17 : decode cX4_exchange 17 = .ok (.goto 4, 3) := by decide +kernel
theorem dX4_exchange_20 : decode cX4_exchange 20 = .ok (.iconst 0, 1) := by decide +kernel
theorem dX4_exchange_21 : decode cX4_exchange 21 = .ok (.istore_n 3, 1) := by decide +kernel
theorem dX4_exchange_22 : decode cX4_exchange 22 = .ok (.iload_n 3, 1) := by decide +kernel
theorem dX4_exchange_23 : decode cX4_exchange 23 = .ok (.ifCond .eq 44, 3) := by decide +kernel
theorem dX4_exchange_26 : decode cX4_exchange 26 = .ok (.aload_n 0, 1) := by decide +kernel
theorem dX4_exchange_27 : decode cX4_exchange 27 = .ok (.getfield 22, 3) := by decide +kernel
theorem dX4_exchange_30 : decode cX4_exchange 30 = .ok (.iload_n 1, 1) := by decide +kernel
theorem dX4_exchange_31 : decode cX4_exchange 31 = .ok (.iaload, 1) := by decide +kernel
theorem dX4_exchange_32 : decode cX4_exchange 32 = .ok (.ifCond .ne 35, 3) := by decide +kernel
theorem dX4_exchange_35 : decode cX4_exchange 35 = .ok (.aload_n 0, 1) := by decide +kernel
theorem dX4_exchange_36 : decode cX4_exchange 36 = .ok (.getfield 22, 3) := by decide +kernel
theorem dX4_exchange_39 : decode cX4_exchange 39 = .ok (.iload_n 2, 1) := by decide +kernel
theorem dX4_exchange_40 : decode cX4_exchange 40 = .ok (.iaload, 1) := by decide +kernel
theorem dX4_exchange_41 : decode cX4_exchange 41 = .ok (.iconst 1, 1) := by decide +kernel
theorem dX4_exchange_42 : decode cX4_exchange 42 = .ok (.if_icmp .ne 25, 3) := by decide +kernel
theorem dX4_exchange_45 : decode cX4_exchange 45 = .ok (.aload_n 0, 1) := by decide +kernel
theorem dX4_exchange_46 : decode cX4_exchange 46 = .ok (.iload_n 1, 1) := by decide +kernel
theorem dX4_exchange_47 : decode cX4_exchange 47 = .ok (.iload_n 2, 1) := by decide +kernel
theorem dX4_exchange_48 : decode cX4_exchange 48 = .ok (.invokevirtual 94, 3) := by decide +kernel
theorem dX4_exchange_51 : decode cX4_exchange 51 = .ok (.ifCond .eq 16, 3) := by decide +kernel
theorem dX4_exchange_54 : decode cX4_exchange 54 = .ok (.aload_n 0, 1) := by decide +kernel
theorem dX4_exchange_55 : decode cX4_exchange 55 = .ok (.iload_n 2, 1) := by decide +kernel
theorem dX4_exchange_56 : decode cX4_exchange 56 = .ok (.iload_n 1, 1) := by decide +kernel
theorem dX4_exchange_57 : decode cX4_exchange 57 = .ok (.invokevirtual 94, 3) := by decide +kernel
theorem dX4_exchange_60 : decode cX4_exchange 60 = .ok (.ifCond .eq 7, 3) := by decide +kernel
theorem dX4_exchange_63 : decode cX4_exchange 63 = .ok (.iconst 1, 1) := by decide +kernel
theorem dX4_exchange_64 : decode cX4_exchange 64 = .ok (.goto 4, 3) := by decide +kernel
theorem dX4_exchange_67 : decode cX4_exchange 67 = .ok (.iconst 0, 1) := by decide +kernel
theorem dX4_exchange_68 : decode cX4_exchange 68 = .ok (.istore 4, 2) := by decide +kernel
theorem dX4_exchange_70 : decode cX4_exchange 70 = .ok (.aload_n 0, 1) := by decide +kernel
theorem dX4_exchange_71 : decode cX4_exchange 71 = .ok (.iload_n 3, 1) := by decide +kernel
theorem dX4_exchange_72 : decode cX4_exchange 72 = .ok (.ifCond .ne 7, 3) := by decide +kernel
theorem dX4_exchange_75 : decode cX4_exchange 75 = .ok (.iconst 1, 1) := by decide +kernel
theorem dX4_exchange_76 : decode cX4_exchange 76 = .ok (.goto 13, 3) := by decide +kernel
theorem dX4_exchange_79 : decode cX4_exchange 79 = .ok (.iload 4, 2) := by decide +kernel
theorem dX4_exchange_81 : decode cX4_exchange 81 = .ok (.ifCond .ne 7, 3) := by decide +kernel
theorem dX4_exchange_84 : decode cX4_exchange 84 = .ok (.iconst 2, 1) := by decide +kernel
theorem dX4_exchange_85 : decode cX4_exchange 85 = .ok (.goto 4, 3) := by decide +kernel
theorem dX4_exchange_88 : decode cX4_exchange 88 = .ok (.iconst 0, 1) := by decide +kernel
theorem dX4_exchange_89 : decode cX4_exchange 89 = .ok (.invokevirtual 75, 3) := by decide +kernel
theorem dX4_exchange_92 : decode cX4_exchange 92 = .ok (.ifCond .ne 5, 3) := by decide +kernel
theorem dX4_exchange_95 : decode cX4_exchange 95 = .ok (.iconst 0, 1) := by decide +kernel
theorem dX4_exchange_96 : decode cX4_exchange 96 = .ok (.ireturn, 1) := by decide +kernel
theorem dX4_exchange_97 : decode cX4_exchange 97 = .ok (.iconst 0, 1) := by decide +kernel
theorem dX4_exchange_98 : decode cX4_exchange 98 = .ok (.istore 5, 2) := by decide +kernel
theorem dX4_exchange_100 : decode cX4_exchange 100 = .ok (.iload 5, 2) := by decide +kernel
theorem dX4_exchange_102 : decode cX4_exchange 102 = .ok (.aload_n 0, 1) := by decide +kernel
theorem dX4_exchange_103 : decode cX4_exchange 103 = .ok (.getfield 52, 3) := by decide +kernel
theorem dX4_exchange_106 : decode cX4_exchange 106 = .ok (.if_icmp .ge 47, 3) := by decide +kernel
theorem dX4_exchange_109 : decode cX4_exchange 109 = .ok (.aload_n 0, 1) := by decide +kernel
theorem dX4_exchange_110 : decode cX4_exchange 110 = .ok (.getfield 25, 3) := by decide +kernel
theorem dX4_exchange_113 : decode cX4_exchange 113 = .ok (.iload 5, 2) := by decide +kernel
theorem dX4_exchange_115 : decode cX4_exchange 115 = .ok (.iaload, 1) := by decide +kernel
theorem dX4_exchange_116 : decode cX4_exchange 116 = .ok (.istore 6, 2) := by decide +kernel
theorem dX4_exchange_118 : decode cX4_exchange 118 = .ok (.aload_n 0, 1) := by decide +kernel
theorem dX4_exchange_119 : decode cX4_exchange 119 = .ok (.getfield 25, 3) := by decide +kernel
theorem dX4_exchange_122 : decode cX4_exchange 122 = .ok (.iload 5, 2) := by decide +kernel
theorem dX4_exchange_124 : decode cX4_exchange 124 = .ok (.iload 6, 2) := by decide +kernel
theorem dX4_exchange_126 : decode cX4_exchange 126 = .ok (.iload_n 1, 1) := by decide +kernel
theorem dX4_exchange_127 : decode cX4_exchange 127 = .ok (.if_icmp .ne 7, 3) := by decide +kernel
theorem dX4_exchange_130 : decode cX4_exchange 130 = .ok (.iload_n 2, 1) := by decide +kernel
theorem dX4_exchange_131 : decode cX4_exchange 131 = .ok (.goto 15, 3) := by decide +kernel
theorem dX4_exchange_134 : decode cX4_exchange 134 = .ok (.iload 6, 2) := by decide +kernel
theorem dX4_exchange_136 : decode cX4_exchange 136 = .ok (.iload_n 2, 1) := by decide +kernel
theorem dX4_exchange_137 : decode cX4_exchange 137 = .ok (.if_icmp .ne 7, 3) := by decide +kernel
theorem dX4_exchange_140 : decode cX4_exchange 140 = .ok (.iload_n 1, 1) := by decide +kernel
theorem dX4_exchange_141 : decode cX4_exchange 141 = .ok (.goto 5, 3) := by decide +kernel
theorem dX4_exchange_144 : decode cX4_exchange 144 = .ok (.iload 6, 2) := by decide +kernel
theorem dX4_exchange_146 : decode cX4_exchange 146 = .ok (.iastore, 1) := by decide +kernel
theorem dX4_exchange_147 : decode cX4_exchange 147 = .ok (.iinc 5 1, 3) := by decide +kernel
theorem dX4_exchange_150 : decode cX4_exchange 150 = .ok (.goto (-50), 3) := by decide +kernel
theorem dX4_exchange_153 : decode cX4_exchange 153 = .ok (.aload_n 0, 1) := by decide +kernel
theorem dX4_exchange_154 : decode cX4_exchange 154 = .ok (.iconst 1, 1) := by decide +kernel
theorem dX4_exchange_155 : decode cX4_exchange 155 = .ok (.putfield 90, 3) := by decide +kernel
theorem dX4_exchange_158 : decode cX4_exchange 158 = .ok (.aload_n 0, 1) := by decide +kernel
theorem dX4_exchange_159 : decode cX4_exchange 159 = .ok (.iload_n 1, 1) := by decide +kernel
theorem dX4_exchange_160 : decode cX4_exchange 160 = .ok (.invokevirtual 86, 3) := by decide +kernel
theorem dX4_exchange_163 : decode cX4_exchange 163 = .ok (.ireturn, 1) := by decide +kernel
set_option maxRecDepth 20000 in
theorem ggX4_isShaped_X4_isKey : GoodIn wsX4_isShaped wsX4_isKey := goodIn_r _ [4, 5, 6, 3, 7] (by decide +kernel) (by decide +kernel)
set_option maxRecDepth 20000 in
theorem gX4_isShaped_X4_isKey : GoodIn wsX4_isShaped (va_wsS RX4 62 yX4_isKey wsX4_isKey) := goodIn_app (goodIn_of _ (by decide +kernel)) ggX4_isShaped_X4_isKey
set_option maxRecDepth 20000 in
theorem ggX4_isShaped_X4_isIn : GoodIn wsX4_isShaped wsX4_isIn := goodIn_r _ [7] (by decide +kernel) (by decide +kernel)
set_option maxRecDepth 20000 in
theorem gX4_isShaped_X4_isIn : GoodIn wsX4_isShaped (va_wsS RX4 41 yX4_isIn wsX4_isIn) := goodIn_app (goodIn_of _ (by decide +kernel)) ggX4_isShaped_X4_isIn
theorem dX4_isShaped_0 : decode cX4_isShaped 0 = .ok (.iload_n 0, 1) := by decide +kernel
theorem dX4_isShaped_1 : decode cX4_isShaped 1 = .ok (.invokestatic 62, 3) := by decide +kernel
theorem dX4_isShaped_4 : decode cX4_isShaped 4 = .ok (.ifCond .eq 17, 3) := by decide +kernel
theorem dX4_isShaped_7 : decode cX4_isShaped 7 = .ok (.iload_n 1, 1) := by decide +kernel
theorem dX4_isShaped_8 : decode cX4_isShaped 8 = .ok (.iconst 0, 1) := by decide +kernel
theorem dX4_isShaped_9 : decode cX4_isShaped 9 = .ok (.bipush 9, 2) := by decide +kernel
theorem dX4_isShaped_11 : decode cX4_isShaped 11 = .ok (.invokestatic 41, 3) := by decide +kernel
theorem dX4_isShaped_14 : decode cX4_isShaped 14 = .ok (.ifCond .eq 7, 3) := by decide +kernel
theorem dX4_isShaped_17 : decode cX4_isShaped 17 = .ok (.iconst 1, 1) := by decide +kernel
theorem dX4_isShaped_18 : decode cX4_isShaped 18 = .ok (.goto 4, 3) := by decide +kernel
theorem dX4_isShaped_21 : decode cX4_isShaped 21 = .ok (.iconst 0, 1) := by decide +kernel
theorem dX4_isShaped_22 : decode cX4_isShaped 22 = .ok (.ireturn, 1) := by decide +kernel
set_option maxRecDepth 20000 in
theorem ggX4_insert_X4_isShaped : GoodIn wsX4_insert wsX4_isShaped := goodIn_r _ [9, 10, 11, 8, 12, 13, 14, 15] (by decide +kernel) (by decide +kernel)
set_option maxRecDepth 20000 in
theorem gX4_insert_X4_isShaped : GoodIn wsX4_insert (va_wsS RX4 97 yX4_isShaped wsX4_isShaped) := goodIn_app (goodIn_of _ (by decide +kernel)) ggX4_insert_X4_isShaped
set_option maxRecDepth 20000 in
theorem ggX4_insert_X4_isIn : GoodIn wsX4_insert wsX4_isIn := goodIn_r _ [15] (by decide +kernel) (by decide +kernel)
set_option maxRecDepth 20000 in
theorem gX4_insert_X4_isIn : GoodIn wsX4_insert (va_wsS RX4 41 yX4_isIn wsX4_isIn) := goodIn_app (goodIn_of _ (by decide +kernel)) ggX4_insert_X4_isIn
set_option maxRecDepth 20000 in
theorem ggX4_insert_X4_isFine : GoodIn wsX4_insert wsX4_isFine := goodIn_r _ [19, 20, 37, 38, 39, 40, 41, 42, 43, 44, 45, 46, 47, 48, 49] (by decide +kernel) (by decide +kernel)
set_option maxRecDepth 20000 in
theorem gX4_insert_X4_isFine : GoodIn wsX4_insert (wsV RX4 75 RX4 yX4_isFine wsX4_isFine) := goodIn_app (goodIn_of _ (by decide +kernel)) ggX4_insert_X4_isFine
set_option maxRecDepth 20000 in
theorem ggX4_insert_X4_partWith : GoodIn wsX4_insert wsX4_partWith := goodIn_r _ [24, 25, 26, 27, 28, 8, 29, 30, 31, 32, 33, 34, 35, 36, 13, 14, 15, 37, 38, 39, 40, 41, 42, 43, 44, 45, 46, 47, 48, 49] (by decide +kernel) (by decide +kernel)
set_option maxRecDepth 20000 in
theorem gX4_insert_X4_partWith : GoodIn wsX4_insert (wsV RX4 100 RX4 yX4_partWith wsX4_partWith) := goodIn_app (goodIn_of _ (by decide +kernel)) ggX4_insert_X4_partWith
theorem dX4_insert_0 : decode cX4_insert 0 = .ok (.iload_n 1, 1) := by decide +kernel
theorem dX4_insert_1 : decode cX4_insert 1 = .ok (.iload_n 2, 1) := by decide +kernel
theorem dX4_insert_2 : decode cX4_insert 2 = .ok (.invokestatic 97, 3) := by decide +kernel
theorem dX4_insert_5 : decode cX4_insert 5 = .ok (.ifCond .eq 17, 3) := by decide +kernel
theorem dX4_insert_8 : decode cX4_insert 8 = .ok (.iload_n 3, 1) := by decide +kernel
theorem dX4_insert_9 : decode cX4_insert 9 = .ok (.iconst 0, 1) := by decide +kernel
theorem dX4_insert_10 : decode cX4_insert 10 = .ok (.bipush 99, 2) := by decide +kernel
theorem dX4_insert_12 : decode cX4_insert 12 = .ok (.invokestatic 41, 3) := by decide +kernel
theorem dX4_insert_15 : decode cX4_insert 15 = .ok (.ifCond .eq 7, 3) := by decide +kernel
theorem dX4_insert_18 : decode cX4_insert 18 = .ok (.iconst 1, 1) := by decide +kernel
theorem dX4_insert_19 : decode cX4_insert 19 = .ok (.goto 4, 3) := by decide +kernel
theorem dX4_insert_22 : decode cX4_insert 22 = .ok (.iconst 0, 1) := by decide +kernel
theorem dX4_insert_23 : decode cX4_insert 23 = .ok (.istore 4, 2) := by decide +kernel
theorem dX4_insert_25 : decode cX4_insert 25 = .ok (.aload_n 0, 1) := by decide +kernel
theorem dX4_insert_26 : decode cX4_insert 26 = .ok (.iload 4, 2) := by decide +kernel
theorem dX4_insert_28 : decode cX4_insert 28 = .ok (.ifCond .ne 7, 3) := by decide +kernel
theorem dX4_insert_31 : decode cX4_insert 31 = .ok (.iconst 1, 1) := by decide +kernel
theorem dX4_insert_32 : decode cX4_insert 32 = .ok (.goto 18, 3) := by decide +kernel
theorem dX4_insert_35 : decode cX4_insert 35 = .ok (.aload_n 0, 1) := by decide +kernel
theorem dX4_insert_36 : decode cX4_insert 36 = .ok (.getfield 52, 3) := by decide +kernel
theorem dX4_insert_39 : decode cX4_insert 39 = .ok (.sipush 200, 3) := by decide +kernel
theorem dX4_insert_42 : decode cX4_insert 42 = .ok (.if_icmp .ne 7, 3) := by decide +kernel
theorem dX4_insert_45 : decode cX4_insert 45 = .ok (.iconst 2, 1) := by decide +kernel
theorem dX4_insert_46 : decode cX4_insert 46 = .ok (.goto 4, 3) := by decide +kernel
theorem dX4_insert_49 : decode cX4_insert 49 = .ok (.iconst 0, 1) := by decide +kernel
theorem dX4_insert_50 : decode cX4_insert 50 = .ok (.invokevirtual 75, 3) := by decide +kernel
theorem dX4_insert_53 : decode cX4_insert 53 = .ok (.ifCond .ne 5, 3) := by decide +kernel
theorem dX4_insert_56 : decode cX4_insert 56 = .ok (.iconst 0, 1) := by decide +kernel
theorem dX4_insert_57 : decode cX4_insert 57 = .ok (.ireturn, 1) := by decide +kernel
theorem dX4_insert_58 : decode cX4_insert 58 = .ok (.aload_n 0, 1) := by decide +kernel
theorem dX4_insert_59 : decode cX4_insert 59 = .ok (.getfield 28, 3) := by decide +kernel
theorem dX4_insert_62 : decode cX4_insert 62 = .ok (.aload_n 0, 1) := by decide +kernel
theorem dX4_insert_63 : decode cX4_insert 63 = .ok (.getfield 52, 3) := by decide +kernel
theorem dX4_insert_66 : decode cX4_insert 66 = .ok (.iload_n 1, 1) := by decide +kernel
theorem dX4_insert_67 : decode cX4_insert 67 = .ok (.iastore, 1) := by decide +kernel
theorem dX4_insert_68 : decode cX4_insert 68 = .ok (.aload_n 0, 1) := by decide +kernel
theorem dX4_insert_69 : decode cX4_insert 69 = .ok (.getfield 31, 3) := by decide +kernel
theorem dX4_insert_72 : decode cX4_insert 72 = .ok (.aload_n 0, 1) := by decide +kernel
theorem dX4_insert_73 : decode cX4_insert 73 = .ok (.getfield 52, 3) := by decide +kernel
theorem dX4_insert_76 : decode cX4_insert 76 = .ok (.iload_n 2, 1) := by decide +kernel
theorem dX4_insert_77 : decode cX4_insert 77 = .ok (.iastore, 1) := by decide +kernel
theorem dX4_insert_78 : decode cX4_insert 78 = .ok (.aload_n 0, 1) := by decide +kernel
theorem dX4_insert_79 : decode cX4_insert 79 = .ok (.getfield 34, 3) := by decide +kernel
theorem dX4_insert_82 : decode cX4_insert 82 = .ok (.aload_n 0, 1) := by decide +kernel
theorem dX4_insert_83 : decode cX4_insert 83 = .ok (.getfield 52, 3) := by decide +kernel
theorem dX4_insert_86 : decode cX4_insert 86 = .ok (.iload_n 3, 1) := by decide +kernel
theorem dX4_insert_87 : decode cX4_insert 87 = .ok (.iastore, 1) := by decide +kernel
theorem dX4_insert_88 : decode cX4_insert 88 = .ok (.aload_n 0, 1) := by decide +kernel
theorem dX4_insert_89 : decode cX4_insert 89 = .ok (.getfield 25, 3) := by decide +kernel
theorem dX4_insert_92 : decode cX4_insert 92 = .ok (.aload_n 0, 1) := by decide +kernel
theorem dX4_insert_93 : decode cX4_insert 93 = .ok (.getfield 52, 3) := by decide +kernel
theorem dX4_insert_96 : decode cX4_insert 96 = .ok (.aload_n 0, 1) := by decide +kernel
theorem dX4_insert_97 : decode cX4_insert 97 = .ok (.iload_n 1, 1) := by decide +kernel
theorem dX4_insert_98 : decode cX4_insert 98 = .ok (.invokevirtual 100, 3) := by decide +kernel
theorem dX4_insert_101 : decode cX4_insert 101 = .ok (.iastore, 1) := by decide +kernel
theorem dX4_insert_102 : decode cX4_insert 102 = .ok (.aload_n 0, 1) := by decide +kernel
theorem dX4_insert_103 : decode cX4_insert 103 = .ok (.dup, 1) := by decide +kernel
theorem dX4_insert_104 : decode cX4_insert 104 = .ok (.getfield 52, 3) := by decide +kernel
theorem dX4_insert_107 : decode cX4_insert 107 = .ok (.iconst 1, 1) := by decide +kernel
theorem dX4_insert_108 : decode cX4_insert 108 = .ok (.iadd, 1) := by decide +kernel
theorem dX4_insert_109 : decode cX4_insert 109 = .ok (.putfield 52, 3) := by decide +kernel
theorem dX4_insert_112 : decode cX4_insert 112 = .ok (.aload_n 0, 1) := by decide +kernel
theorem dX4_insert_113 : decode cX4_insert 113 = .ok (.getfield 52, 3) := by decide +kernel
theorem dX4_insert_116 : decode cX4_insert 116 = .ok (.iconst 1, 1) := by decide +kernel
theorem dX4_insert_117 : decode cX4_insert 117 = .ok (.isub, 1) := by decide +kernel
theorem dX4_insert_118 : decode cX4_insert 118 = .ok (.ireturn, 1) := by decide +kernel
set_option maxRecDepth 20000 in
theorem ggX4_place_X4_leaf : GoodIn wsX4_place wsX4_leaf := goodIn_r _ [8, 9, 10, 11, 12, 13, 14, 15, 16, 17, 18, 19, 20, 21, 22, 23] (by decide +kernel) (by decide +kernel)
set_option maxRecDepth 20000 in
theorem gX4_place_X4_leaf : GoodIn wsX4_place (wsV RX4 103 RX4 yX4_leaf wsX4_leaf) := goodIn_app (goodIn_of _ (by decide +kernel)) ggX4_place_X4_leaf
theorem dX4_place_0 : decode cX4_place 0 = .ok (.bipush 10, 2) := by decide +kernel
theorem dX4_place_2 : decode cX4_place 2 = .ok (.aload_n 0, 1) := by decide +kernel
theorem dX4_place_3 : decode cX4_place 3 = .ok (.getfield 25, 3) := by decide +kernel
theorem dX4_place_6 : decode cX4_place 6 = .ok (.iload_n 1, 1) := by decide +kernel
theorem dX4_place_7 : decode cX4_place 7 = .ok (.iaload, 1) := by decide +kernel
theorem dX4_place_8 : decode cX4_place 8 = .ok (.imul, 1) := by decide +kernel
theorem dX4_place_9 : decode cX4_place 9 = .ok (.aload_n 0, 1) := by decide +kernel
theorem dX4_place_10 : decode cX4_place 10 = .ok (.aload_n 0, 1) := by decide +kernel
theorem dX4_place_11 : decode cX4_place 11 = .ok (.getfield 25, 3) := by decide +kernel
theorem dX4_place_14 : decode cX4_place 14 = .ok (.iload_n 1, 1) := by decide +kernel
theorem dX4_place_15 : decode cX4_place 15 = .ok (.iaload, 1) := by decide +kernel
theorem dX4_place_16 : decode cX4_place 16 = .ok (.aload_n 0, 1) := by decide +kernel
theorem dX4_place_17 : decode cX4_place 17 = .ok (.getfield 28, 3) := by decide +kernel
theorem dX4_place_20 : decode cX4_place 20 = .ok (.iload_n 1, 1) := by decide +kernel
theorem dX4_place_21 : decode cX4_place 21 = .ok (.iaload, 1) := by decide +kernel
theorem dX4_place_22 : decode cX4_place 22 = .ok (.aload_n 0, 1) := by decide +kernel
theorem dX4_place_23 : decode cX4_place 23 = .ok (.getfield 31, 3) := by decide +kernel
theorem dX4_place_26 : decode cX4_place 26 = .ok (.iload_n 1, 1) := by decide +kernel
theorem dX4_place_27 : decode cX4_place 27 = .ok (.iaload, 1) := by decide +kernel
theorem dX4_place_28 : decode cX4_place 28 = .ok (.invokevirtual 103, 3) := by decide +kernel
theorem dX4_place_31 : decode cX4_place 31 = .ok (.iadd, 1) := by decide +kernel
theorem dX4_place_32 : decode cX4_place 32 = .ok (.ireturn, 1) := by decide +kernel
theorem dX4_isTabled_0 : decode cX4_isTabled 0 = .ok (.aload_n 0, 1) := by decide +kernel
theorem dX4_isTabled_1 : decode cX4_isTabled 1 = .ok (.getfield 25, 3) := by decide +kernel
theorem dX4_isTabled_4 : decode cX4_isTabled 4 = .ok (.iload_n 1, 1) := by decide +kernel
theorem dX4_isTabled_5 : decode cX4_isTabled 5 = .ok (.iaload, 1) := by decide +kernel
theorem dX4_isTabled_6 : decode cX4_isTabled 6 = .ok (.ifCond .eq 26, 3) := by decide +kernel
theorem dX4_isTabled_9 : decode cX4_isTabled 9 = .ok (.aload_n 0, 1) := by decide +kernel
theorem dX4_isTabled_10 : decode cX4_isTabled 10 = .ok (.getfield 25, 3) := by decide +kernel
theorem dX4_isTabled_13 : decode cX4_isTabled 13 = .ok (.iload_n 1, 1) := by decide +kernel
theorem dX4_isTabled_14 : decode cX4_isTabled 14 = .ok (.iaload, 1) := by decide +kernel
theorem dX4_isTabled_15 : decode cX4_isTabled 15 = .ok (.ifCond .le 21, 3) := by decide +kernel
theorem dX4_isTabled_18 : decode cX4_isTabled 18 = .ok (.aload_n 0, 1) := by decide +kernel
theorem dX4_isTabled_19 : decode cX4_isTabled 19 = .ok (.getfield 22, 3) := by decide +kernel
theorem dX4_isTabled_22 : decode cX4_isTabled 22 = .ok (.aload_n 0, 1) := by decide +kernel
theorem dX4_isTabled_23 : decode cX4_isTabled 23 = .ok (.getfield 25, 3) := by decide +kernel
theorem dX4_isTabled_26 : decode cX4_isTabled 26 = .ok (.iload_n 1, 1) := by decide +kernel
theorem dX4_isTabled_27 : decode cX4_isTabled 27 = .ok (.iaload, 1) := by decide +kernel
theorem dX4_isTabled_28 : decode cX4_isTabled 28 = .ok (.iaload, 1) := by decide +kernel
theorem dX4_isTabled_29 : decode cX4_isTabled 29 = .ok (.ifCond .ne 7, 3) := by decide +kernel
theorem dX4_isTabled_32 : decode cX4_isTabled 32 = .ok (.iconst 1, 1) := by decide +kernel
theorem dX4_isTabled_33 : decode cX4_isTabled 33 = .ok (.goto 4, 3) := by decide +kernel
theorem dX4_isTabled_36 : decode cX4_isTabled 36 = .ok (.iconst 0, 1) := by decide +kernel
theorem dX4_isTabled_37 : decode cX4_isTabled 37 = .ok (.ireturn, 1) := by decide +kernel
set_option maxRecDepth 20000 in
theorem ggX4_change_X4_isRow : GoodIn wsX4_change wsX4_isRow := goodIn_r _ [8, 9, 3, 10, 11, 7, 12, 54, 55, 56, 57, 58, 59, 60, 61, 62, 63, 64, 65, 66] (by decide +kernel) (by decide +kernel)
set_option maxRecDepth 20000 in
theorem gX4_change_X4_isRow : GoodIn wsX4_change (wsV RX4 107 RX4 yX4_isRow wsX4_isRow) := goodIn_app (goodIn_of _ (by decide +kernel)) ggX4_change_X4_isRow
set_option maxRecDepth 20000 in
theorem ggX4_change_X4_isShaped : GoodIn wsX4_change wsX4_isShaped := goodIn_r _ [15, 16, 17, 7, 18, 10, 11, 12] (by decide +kernel) (by decide +kernel)
set_option maxRecDepth 20000 in
theorem gX4_change_X4_isShaped : GoodIn wsX4_change (va_wsS RX4 97 yX4_isShaped wsX4_isShaped) := goodIn_app (goodIn_of _ (by decide +kernel)) ggX4_change_X4_isShaped
set_option maxRecDepth 20000 in
theorem ggX4_change_X4_isTabled : GoodIn wsX4_change wsX4_isTabled := goodIn_r _ [22, 3, 23, 54, 55, 56, 57, 58, 59, 60, 61, 62, 63, 64, 65, 66] (by decide +kernel) (by decide +kernel)
set_option maxRecDepth 20000 in
theorem gX4_change_X4_isTabled : GoodIn wsX4_change (wsV RX4 110 RX4 yX4_isTabled wsX4_isTabled) := goodIn_app (goodIn_of _ (by decide +kernel)) ggX4_change_X4_isTabled
set_option maxRecDepth 20000 in
theorem ggX4_change_X4_isFine : GoodIn wsX4_change wsX4_isFine := goodIn_r _ [27, 28, 54, 55, 56, 57, 58, 59, 60, 61, 62, 63, 64, 65, 66] (by decide +kernel) (by decide +kernel)
set_option maxRecDepth 20000 in
theorem gX4_change_X4_isFine : GoodIn wsX4_change (wsV RX4 75 RX4 yX4_isFine wsX4_isFine) := goodIn_app (goodIn_of _ (by decide +kernel)) ggX4_change_X4_isFine
set_option maxRecDepth 20000 in
theorem ggX4_change_X4_place : GoodIn wsX4_change wsX4_place := goodIn_r _ [32, 3, 1, 2, 33, 34, 35, 7, 36, 37, 38, 54, 55, 56, 57, 58, 59, 60, 61, 62, 63, 64, 65, 66] (by decide +kernel) (by decide +kernel)
set_option maxRecDepth 20000 in
theorem gX4_change_X4_place : GoodIn wsX4_change (wsV RX4 113 RX4 yX4_place wsX4_place) := goodIn_app (goodIn_of _ (by decide +kernel)) ggX4_change_X4_place
set_option maxRecDepth 20000 in
theorem ggX4_change_X4_partWith : GoodIn wsX4_change wsX4_partWith := goodIn_r _ [42, 43, 44, 45, 46, 7, 47, 23, 48, 49, 50, 51, 52, 53, 10, 11, 12, 54, 55, 56, 57, 58, 59, 60, 61, 62, 63, 64, 65, 66] (by decide +kernel) (by decide +kernel)
set_option maxRecDepth 20000 in
theorem gX4_change_X4_partWith : GoodIn wsX4_change (wsV RX4 100 RX4 yX4_partWith wsX4_partWith) := goodIn_app (goodIn_of _ (by decide +kernel)) ggX4_change_X4_partWith
theorem dX4_change_0 : decode cX4_change 0 = .ok (.aload_n 0, 1) := by decide +kernel
theorem dX4_change_1 : decode cX4_change 1 = .ok (.iload_n 1, 1) := by decide +kernel
theorem dX4_change_2 : decode cX4_change 2 = .ok (.invokevirtual 107, 3) := by decide +kernel
theorem dX4_change_5 : decode cX4_change 5 = .ok (.istore 4, 2) := by decide +kernel
theorem dX4_change_7 : decode cX4_change 7 = .ok (.aload_n 0, 1) := by decide +kernel
theorem dX4_change_8 : decode cX4_change 8 = .ok (.iload 4, 2) := by decide +kernel
theorem dX4_change_10 : decode cX4_change 10 = .ok (.ifCond .ne 7, 3) := by decide +kernel
theorem dX4_change_13 : decode cX4_change 13 = .ok (.iconst 1, 1) := by decide +kernel
theorem dX4_change_14 : decode cX4_change 14 = .ok (.goto 28, 3) := by decide +kernel
theorem dX4_change_17 : decode cX4_change 17 = .ok (.iload_n 2, 1) := by decide +kernel
theorem dX4_change_18 : decode cX4_change 18 = .ok (.iload_n 3, 1) := by decide +kernel
theorem dX4_change_19 : decode cX4_change 19 = .ok (.invokestatic 97, 3) := by decide +kernel
theorem dX4_change_22 : decode cX4_change 22 = .ok (.ifCond .ne 7, 3) := by decide +kernel
theorem dX4_change_25 : decode cX4_change 25 = .ok (.iconst 2, 1) := by decide +kernel
theorem dX4_change_26 : decode cX4_change 26 = .ok (.goto 16, 3) := by decide +kernel
theorem dX4_change_29 : decode cX4_change 29 = .ok (.aload_n 0, 1) := by decide +kernel
theorem dX4_change_30 : decode cX4_change 30 = .ok (.iload_n 1, 1) := by decide +kernel
theorem dX4_change_31 : decode cX4_change 31 = .ok (.invokevirtual 110, 3) := by decide +kernel
theorem dX4_change_34 : decode cX4_change 34 = .ok (.ifCond .ne 7, 3) := by decide +kernel
theorem dX4_change_37 : decode cX4_change 37 = .ok (.iconst 3, 1) := by decide +kernel
theorem dX4_change_38 : decode cX4_change 38 = .ok (.goto 4, 3) := by decide +kernel
theorem dX4_change_41 : decode cX4_change 41 = .ok (.iconst 0, 1) := by decide +kernel
theorem dX4_change_42 : decode cX4_change 42 = .ok (.invokevirtual 75, 3) := by decide +kernel
theorem dX4_change_45 : decode cX4_change 45 = .ok (.ifCond .ne 5, 3) := by decide +kernel
theorem dX4_change_48 : decode cX4_change 48 = .ok (.iconst 0, 1) := by decide +kernel
theorem dX4_change_49 : decode cX4_change 49 = .ok (.ireturn, 1) := by decide +kernel
theorem dX4_change_50 : decode cX4_change 50 = .ok (.aload_n 0, 1) := by decide +kernel
theorem dX4_change_51 : decode cX4_change 51 = .ok (.iload_n 1, 1) := by decide +kernel
theorem dX4_change_52 : decode cX4_change 52 = .ok (.invokevirtual 113, 3) := by decide +kernel
theorem dX4_change_55 : decode cX4_change 55 = .ok (.istore 5, 2) := by decide +kernel
theorem dX4_change_57 : decode cX4_change 57 = .ok (.aload_n 0, 1) := by decide +kernel
theorem dX4_change_58 : decode cX4_change 58 = .ok (.getfield 28, 3) := by decide +kernel
theorem dX4_change_61 : decode cX4_change 61 = .ok (.iload_n 1, 1) := by decide +kernel
theorem dX4_change_62 : decode cX4_change 62 = .ok (.iload_n 2, 1) := by decide +kernel
theorem dX4_change_63 : decode cX4_change 63 = .ok (.iastore, 1) := by decide +kernel
theorem dX4_change_64 : decode cX4_change 64 = .ok (.aload_n 0, 1) := by decide +kernel
theorem dX4_change_65 : decode cX4_change 65 = .ok (.getfield 31, 3) := by decide +kernel
theorem dX4_change_68 : decode cX4_change 68 = .ok (.iload_n 1, 1) := by decide +kernel
theorem dX4_change_69 : decode cX4_change 69 = .ok (.iload_n 3, 1) := by decide +kernel
theorem dX4_change_70 : decode cX4_change 70 = .ok (.iastore, 1) := by decide +kernel
theorem dX4_change_71 : decode cX4_change 71 = .ok (.aload_n 0, 1) := by decide +kernel
theorem dX4_change_72 : decode cX4_change 72 = .ok (.getfield 25, 3) := by decide +kernel
theorem dX4_change_75 : decode cX4_change 75 = .ok (.iload_n 1, 1) := by decide +kernel
theorem dX4_change_76 : decode cX4_change 76 = .ok (.aload_n 0, 1) := by decide +kernel
theorem dX4_change_77 : decode cX4_change 77 = .ok (.iload_n 2, 1) := by decide +kernel
theorem dX4_change_78 : decode cX4_change 78 = .ok (.invokevirtual 100, 3) := by decide +kernel
theorem dX4_change_81 : decode cX4_change 81 = .ok (.iastore, 1) := by decide +kernel
theorem dX4_change_82 : decode cX4_change 82 = .ok (.aload_n 0, 1) := by decide +kernel
theorem dX4_change_83 : decode cX4_change 83 = .ok (.iload_n 1, 1) := by decide +kernel
theorem dX4_change_84 : decode cX4_change 84 = .ok (.invokevirtual 113, 3) := by decide +kernel
theorem dX4_change_87 : decode cX4_change 87 = .ok (.iload 5, 2) := by decide +kernel
theorem dX4_change_89 : decode cX4_change 89 = .ok (.if_icmp .eq 7, 3) := by decide +kernel
theorem dX4_change_92 : decode cX4_change 92 = .ok (.iconst 1, 1) := by decide +kernel
theorem dX4_change_93 : decode cX4_change 93 = .ok (.goto 4, 3) := by decide +kernel
theorem dX4_change_96 : decode cX4_change 96 = .ok (.iconst 0, 1) := by decide +kernel
theorem dX4_change_97 : decode cX4_change 97 = .ok (.ireturn, 1) := by decide +kernel
set_option maxRecDepth 20000 in
theorem ggX4_remove_X4_isRow : GoodIn wsX4_remove wsX4_isRow := goodIn_r _ [7, 8, 1, 9, 10, 6, 11, 17, 18, 19, 20, 21, 22, 23, 24, 25, 26, 27, 28, 29] (by decide +kernel) (by decide +kernel)
set_option maxRecDepth 20000 in
theorem gX4_remove_X4_isRow : GoodIn wsX4_remove (wsV RX4 107 RX4 yX4_isRow wsX4_isRow) := goodIn_app (goodIn_of _ (by decide +kernel)) ggX4_remove_X4_isRow
set_option maxRecDepth 20000 in
theorem ggX4_remove_X4_isFine : GoodIn wsX4_remove wsX4_isFine := goodIn_r _ [15, 16, 17, 18, 19, 20, 21, 22, 23, 24, 25, 26, 27, 28, 29] (by decide +kernel) (by decide +kernel)
set_option maxRecDepth 20000 in
theorem gX4_remove_X4_isFine : GoodIn wsX4_remove (wsV RX4 75 RX4 yX4_isFine wsX4_isFine) := goodIn_app (goodIn_of _ (by decide +kernel)) ggX4_remove_X4_isFine
theorem dX4_remove_0 : decode cX4_remove 0 = .ok (.aload_n 0, 1) := by decide +kernel
theorem dX4_remove_1 : decode cX4_remove 1 = .ok (.aload_n 0, 1) := by decide +kernel
theorem dX4_remove_2 : decode cX4_remove 2 = .ok (.iload_n 1, 1) := by decide +kernel
theorem dX4_remove_3 : decode cX4_remove 3 = .ok (.invokevirtual 107, 3) := by decide +kernel
theorem dX4_remove_6 : decode cX4_remove 6 = .ok (.ifCond .eq 7, 3) := by decide +kernel
theorem dX4_remove_9 : decode cX4_remove 9 = .ok (.iconst 0, 1) := by decide +kernel
theorem dX4_remove_10 : decode cX4_remove 10 = .ok (.goto 4, 3) := by decide +kernel
theorem dX4_remove_13 : decode cX4_remove 13 = .ok (.iconst 1, 1) := by decide +kernel
theorem dX4_remove_14 : decode cX4_remove 14 = .ok (.invokevirtual 75, 3) := by decide +kernel
theorem dX4_remove_17 : decode cX4_remove 17 = .ok (.ifCond .ne 5, 3) := by decide +kernel
theorem dX4_remove_20 : decode cX4_remove 20 = .ok (.iconst 0, 1) := by decide +kernel
theorem dX4_remove_21 : decode cX4_remove 21 = .ok (.ireturn, 1) := by decide +kernel
theorem dX4_remove_22 : decode cX4_remove 22 = .ok (.aload_n 0, 1) := by decide +kernel
theorem dX4_remove_23 : decode cX4_remove 23 = .ok (.getfield 25, 3) := by decide +kernel
theorem dX4_remove_26 : decode cX4_remove 26 = .ok (.iload_n 1, 1) := by decide +kernel
theorem dX4_remove_27 : decode cX4_remove 27 = .ok (.iconst (-1), 1) := by decide +kernel
theorem dX4_remove_28 : decode cX4_remove 28 = .ok (.iastore, 1) := by decide +kernel
theorem dX4_remove_29 : decode cX4_remove 29 = .ok (.aload_n 0, 1) := by decide +kernel
theorem dX4_remove_30 : decode cX4_remove 30 = .ok (.getfield 34, 3) := by decide +kernel
theorem dX4_remove_33 : decode cX4_remove 33 = .ok (.iload_n 1, 1) := by decide +kernel
theorem dX4_remove_34 : decode cX4_remove 34 = .ok (.iaload, 1) := by decide +kernel
theorem dX4_remove_35 : decode cX4_remove 35 = .ok (.ireturn, 1) := by decide +kernel
theorem dX4_parts_0 : decode cX4_parts 0 = .ok (.aload_n 0, 1) := by decide +kernel
theorem dX4_parts_1 : decode cX4_parts 1 = .ok (.iconst 0, 1) := by decide +kernel
theorem dX4_parts_2 : decode cX4_parts 2 = .ok (.putfield 37, 3) := by decide +kernel
theorem dX4_parts_5 : decode cX4_parts 5 = .ok (.aload_n 0, 1) := by decide +kernel
theorem dX4_parts_6 : decode cX4_parts 6 = .ok (.getfield 45, 3) := by decide +kernel
theorem dX4_parts_9 : decode cX4_parts 9 = .ok (.ireturn, 1) := by decide +kernel
set_option maxRecDepth 20000 in
theorem ggX4_stateOf_X4_isIn : GoodIn wsX4_stateOf wsX4_isIn := goodIn_r _ [6] (by decide +kernel) (by decide +kernel)
set_option maxRecDepth 20000 in
theorem gX4_stateOf_X4_isIn : GoodIn wsX4_stateOf (va_wsS RX4 41 yX4_isIn wsX4_isIn) := goodIn_app (goodIn_of _ (by decide +kernel)) ggX4_stateOf_X4_isIn
set_option maxRecDepth 20000 in
theorem ggX4_stateOf_X4_isFine : GoodIn wsX4_stateOf wsX4_isFine := goodIn_r _ [10, 11, 12, 13, 14, 15, 16, 17, 18, 19, 20, 21, 22, 23, 24] (by decide +kernel) (by decide +kernel)
set_option maxRecDepth 20000 in
theorem gX4_stateOf_X4_isFine : GoodIn wsX4_stateOf (wsV RX4 75 RX4 yX4_isFine wsX4_isFine) := goodIn_app (goodIn_of _ (by decide +kernel)) ggX4_stateOf_X4_isFine
theorem dX4_stateOf_0 : decode cX4_stateOf 0 = .ok (.aload_n 0, 1) := by decide +kernel
theorem dX4_stateOf_1 : decode cX4_stateOf 1 = .ok (.iload_n 1, 1) := by decide +kernel
theorem dX4_stateOf_2 : decode cX4_stateOf 2 = .ok (.iconst 0, 1) := by decide +kernel
theorem dX4_stateOf_3 : decode cX4_stateOf 3 = .ok (.aload_n 0, 1) := by decide +kernel
theorem dX4_stateOf_4 : decode cX4_stateOf 4 = .ok (.getfield 45, 3) := by decide +kernel
theorem dX4_stateOf_7 : decode cX4_stateOf 7 = .ok (.invokestatic 41, 3) := by decide +kernel
theorem dX4_stateOf_10 : decode cX4_stateOf 10 = .ok (.ifCond .eq 7, 3) := by decide +kernel
theorem dX4_stateOf_13 : decode cX4_stateOf 13 = .ok (.iconst 0, 1) := by decide +kernel
theorem dX4_stateOf_14 : decode cX4_stateOf 14 = .ok (.goto 4, 3) := by decide +kernel
theorem dX4_stateOf_17 : decode cX4_stateOf 17 = .ok (.iconst 1, 1) := by decide +kernel
theorem dX4_stateOf_18 : decode cX4_stateOf 18 = .ok (.invokevirtual 75, 3) := by decide +kernel
theorem dX4_stateOf_21 : decode cX4_stateOf 21 = .ok (.ifCond .eq 12, 3) := by decide +kernel
theorem dX4_stateOf_24 : decode cX4_stateOf 24 = .ok (.aload_n 0, 1) := by decide +kernel
theorem dX4_stateOf_25 : decode cX4_stateOf 25 = .ok (.getfield 22, 3) := by decide +kernel
theorem dX4_stateOf_28 : decode cX4_stateOf 28 = .ok (.iload_n 1, 1) := by decide +kernel
theorem dX4_stateOf_29 : decode cX4_stateOf 29 = .ok (.iaload, 1) := by decide +kernel
theorem dX4_stateOf_30 : decode cX4_stateOf 30 = .ok (.goto 4, 3) := by decide +kernel
theorem dX4_stateOf_33 : decode cX4_stateOf 33 = .ok (.iconst 0, 1) := by decide +kernel
theorem dX4_stateOf_34 : decode cX4_stateOf 34 = .ok (.ireturn, 1) := by decide +kernel
set_option maxRecDepth 20000 in
theorem ggX4_partOf_X4_isKey : GoodIn wsX4_partOf wsX4_isKey := goodIn_r _ [4, 5, 6, 3, 7] (by decide +kernel) (by decide +kernel)
set_option maxRecDepth 20000 in
theorem gX4_partOf_X4_isKey : GoodIn wsX4_partOf (va_wsS RX4 62 yX4_isKey wsX4_isKey) := goodIn_app (goodIn_of _ (by decide +kernel)) ggX4_partOf_X4_isKey
set_option maxRecDepth 20000 in
theorem ggX4_partOf_X4_isFine : GoodIn wsX4_partOf wsX4_isFine := goodIn_r _ [11, 12, 29, 30, 31, 32, 33, 34, 35, 36, 37, 38, 39, 40, 41] (by decide +kernel) (by decide +kernel)
set_option maxRecDepth 20000 in
theorem gX4_partOf_X4_isFine : GoodIn wsX4_partOf (wsV RX4 75 RX4 yX4_isFine wsX4_isFine) := goodIn_app (goodIn_of _ (by decide +kernel)) ggX4_partOf_X4_isFine
set_option maxRecDepth 20000 in
theorem ggX4_partOf_X4_partWith : GoodIn wsX4_partOf wsX4_partWith := goodIn_r _ [16, 17, 18, 19, 20, 3, 21, 22, 23, 24, 25, 26, 27, 28, 5, 6, 7, 29, 30, 31, 32, 33, 34, 35, 36, 37, 38, 39, 40, 41] (by decide +kernel) (by decide +kernel)
set_option maxRecDepth 20000 in
theorem gX4_partOf_X4_partWith : GoodIn wsX4_partOf (wsV RX4 100 RX4 yX4_partWith wsX4_partWith) := goodIn_app (goodIn_of _ (by decide +kernel)) ggX4_partOf_X4_partWith
theorem dX4_partOf_0 : decode cX4_partOf 0 = .ok (.aload_n 0, 1) := by decide +kernel
theorem dX4_partOf_1 : decode cX4_partOf 1 = .ok (.iload_n 1, 1) := by decide +kernel
theorem dX4_partOf_2 : decode cX4_partOf 2 = .ok (.invokestatic 62, 3) := by decide +kernel
theorem dX4_partOf_5 : decode cX4_partOf 5 = .ok (.ifCond .eq 7, 3) := by decide +kernel
theorem dX4_partOf_8 : decode cX4_partOf 8 = .ok (.iconst 0, 1) := by decide +kernel
theorem dX4_partOf_9 : decode cX4_partOf 9 = .ok (.goto 4, 3) := by decide +kernel
theorem dX4_partOf_12 : decode cX4_partOf 12 = .ok (.iconst 1, 1) := by decide +kernel
theorem dX4_partOf_13 : decode cX4_partOf 13 = .ok (.invokevirtual 75, 3) := by decide +kernel
theorem dX4_partOf_16 : decode cX4_partOf 16 = .ok (.ifCond .eq 11, 3) := by decide +kernel
theorem dX4_partOf_19 : decode cX4_partOf 19 = .ok (.aload_n 0, 1) := by decide +kernel
theorem dX4_partOf_20 : decode cX4_partOf 20 = .ok (.iload_n 1, 1) := by decide +kernel
theorem dX4_partOf_21 : decode cX4_partOf 21 = .ok (.invokevirtual 100, 3) := by decide +kernel
theorem dX4_partOf_24 : decode cX4_partOf 24 = .ok (.goto 4, 3) := by decide +kernel
theorem dX4_partOf_27 : decode cX4_partOf 27 = .ok (.iconst 0, 1) := by decide +kernel
theorem dX4_partOf_28 : decode cX4_partOf 28 = .ok (.ireturn, 1) := by decide +kernel
set_option maxRecDepth 20000 in
theorem ggX4_leafOf_X4_isRow : GoodIn wsX4_leafOf wsX4_isRow := goodIn_r _ [5, 6, 7, 8, 9, 4, 10, 28, 29, 30, 31, 32, 33, 34, 35, 36, 37, 38, 39, 40] (by decide +kernel) (by decide +kernel)
set_option maxRecDepth 20000 in
theorem gX4_leafOf_X4_isRow : GoodIn wsX4_leafOf (wsV RX4 107 RX4 yX4_isRow wsX4_isRow) := goodIn_app (goodIn_of _ (by decide +kernel)) ggX4_leafOf_X4_isRow
set_option maxRecDepth 20000 in
theorem ggX4_leafOf_X4_isFine : GoodIn wsX4_leafOf wsX4_isFine := goodIn_r _ [14, 15, 28, 29, 30, 31, 32, 33, 34, 35, 36, 37, 38, 39, 40] (by decide +kernel) (by decide +kernel)
set_option maxRecDepth 20000 in
theorem gX4_leafOf_X4_isFine : GoodIn wsX4_leafOf (wsV RX4 75 RX4 yX4_isFine wsX4_isFine) := goodIn_app (goodIn_of _ (by decide +kernel)) ggX4_leafOf_X4_isFine
set_option maxRecDepth 20000 in
theorem ggX4_leafOf_X4_place : GoodIn wsX4_leafOf wsX4_place := goodIn_r _ [19, 7, 20, 21, 22, 23, 24, 4, 25, 26, 27, 28, 29, 30, 31, 32, 33, 34, 35, 36, 37, 38, 39, 40] (by decide +kernel) (by decide +kernel)
set_option maxRecDepth 20000 in
theorem gX4_leafOf_X4_place : GoodIn wsX4_leafOf (wsV RX4 113 RX4 yX4_place wsX4_place) := goodIn_app (goodIn_of _ (by decide +kernel)) ggX4_leafOf_X4_place
theorem dX4_leafOf_0 : decode cX4_leafOf 0 = .ok (.aload_n 0, 1) := by decide +kernel
theorem dX4_leafOf_1 : decode cX4_leafOf 1 = .ok (.aload_n 0, 1) := by decide +kernel
theorem dX4_leafOf_2 : decode cX4_leafOf 2 = .ok (.iload_n 1, 1) := by decide +kernel
theorem dX4_leafOf_3 : decode cX4_leafOf 3 = .ok (.invokevirtual 107, 3) := by decide +kernel
theorem dX4_leafOf_6 : decode cX4_leafOf 6 = .ok (.ifCond .eq 7, 3) := by decide +kernel
theorem dX4_leafOf_9 : decode cX4_leafOf 9 = .ok (.iconst 0, 1) := by decide +kernel
theorem dX4_leafOf_10 : decode cX4_leafOf 10 = .ok (.goto 4, 3) := by decide +kernel
theorem dX4_leafOf_13 : decode cX4_leafOf 13 = .ok (.iconst 1, 1) := by decide +kernel
theorem dX4_leafOf_14 : decode cX4_leafOf 14 = .ok (.invokevirtual 75, 3) := by decide +kernel
theorem dX4_leafOf_17 : decode cX4_leafOf 17 = .ok (.ifCond .eq 11, 3) := by decide +kernel
theorem dX4_leafOf_20 : decode cX4_leafOf 20 = .ok (.aload_n 0, 1) := by decide +kernel
theorem dX4_leafOf_21 : decode cX4_leafOf 21 = .ok (.iload_n 1, 1) := by decide +kernel
theorem dX4_leafOf_22 : decode cX4_leafOf 22 = .ok (.invokevirtual 113, 3) := by decide +kernel
theorem dX4_leafOf_25 : decode cX4_leafOf 25 = .ok (.goto 4, 3) := by decide +kernel
theorem dX4_leafOf_28 : decode cX4_leafOf 28 = .ok (.iconst 0, 1) := by decide +kernel
theorem dX4_leafOf_29 : decode cX4_leafOf 29 = .ok (.ireturn, 1) := by decide +kernel
set_option maxRecDepth 20000 in
theorem ggX4_isLeaf_X4_isAny : GoodIn wsX4_isLeaf wsX4_isAny := goodIn_r _ [5, 6, 7, 8, 4, 9, 10, 11, 12, 13, 14, 21, 22, 23, 24, 25, 26, 27, 28, 29, 30, 31, 32, 33] (by decide +kernel) (by decide +kernel)
set_option maxRecDepth 20000 in
theorem gX4_isLeaf_X4_isAny : GoodIn wsX4_isLeaf (wsV RX4 116 RX4 yX4_isAny wsX4_isAny) := goodIn_app (goodIn_of _ (by decide +kernel)) ggX4_isLeaf_X4_isAny
set_option maxRecDepth 20000 in
theorem ggX4_isLeaf_X4_leaves : GoodIn wsX4_isLeaf wsX4_leaves := goodIn_r _ [18, 19, 20, 21, 22, 23, 24, 25, 26, 27, 28, 29, 30, 31, 32, 33] (by decide +kernel) (by decide +kernel)
set_option maxRecDepth 20000 in
theorem gX4_isLeaf_X4_leaves : GoodIn wsX4_isLeaf (wsV RX4 119 RX4 yX4_leaves wsX4_leaves) := goodIn_app (goodIn_of _ (by decide +kernel)) ggX4_isLeaf_X4_leaves
set_option maxRecDepth 20000 in
theorem ggX4_isLeaf_X4_isIn : GoodIn wsX4_isLeaf wsX4_isIn := goodIn_r _ [14] (by decide +kernel) (by decide +kernel)
set_option maxRecDepth 20000 in
theorem gX4_isLeaf_X4_isIn : GoodIn wsX4_isLeaf (va_wsS RX4 41 yX4_isIn wsX4_isIn) := goodIn_app (goodIn_of _ (by decide +kernel)) ggX4_isLeaf_X4_isIn
theorem dX4_isLeaf_0 : decode cX4_isLeaf 0 = .ok (.aload_n 0, 1) := by decide +kernel
theorem dX4_isLeaf_1 : decode cX4_isLeaf 1 = .ok (.iload_n 1, 1) := by decide +kernel
theorem dX4_isLeaf_2 : decode cX4_isLeaf 2 = .ok (.invokevirtual 116, 3) := by decide +kernel
theorem dX4_isLeaf_5 : decode cX4_isLeaf 5 = .ok (.ifCond .eq 22, 3) := by decide +kernel
theorem dX4_isLeaf_8 : decode cX4_isLeaf 8 = .ok (.iload_n 2, 1) := by decide +kernel
theorem dX4_isLeaf_9 : decode cX4_isLeaf 9 = .ok (.iconst 0, 1) := by decide +kernel
theorem dX4_isLeaf_10 : decode cX4_isLeaf 10 = .ok (.aload_n 0, 1) := by decide +kernel
theorem dX4_isLeaf_11 : decode cX4_isLeaf 11 = .ok (.iload_n 1, 1) := by decide +kernel
theorem dX4_isLeaf_12 : decode cX4_isLeaf 12 = .ok (.invokevirtual 119, 3) := by decide +kernel
theorem dX4_isLeaf_15 : decode cX4_isLeaf 15 = .ok (.iconst 1, 1) := by decide +kernel
theorem dX4_isLeaf_16 : decode cX4_isLeaf 16 = .ok (.isub, 1) := by decide +kernel
theorem dX4_isLeaf_17 : decode cX4_isLeaf 17 = .ok (.invokestatic 41, 3) := by decide +kernel
theorem dX4_isLeaf_20 : decode cX4_isLeaf 20 = .ok (.ifCond .eq 7, 3) := by decide +kernel
theorem dX4_isLeaf_23 : decode cX4_isLeaf 23 = .ok (.iconst 1, 1) := by decide +kernel
theorem dX4_isLeaf_24 : decode cX4_isLeaf 24 = .ok (.goto 4, 3) := by decide +kernel
theorem dX4_isLeaf_27 : decode cX4_isLeaf 27 = .ok (.iconst 0, 1) := by decide +kernel
theorem dX4_isLeaf_28 : decode cX4_isLeaf 28 = .ok (.ireturn, 1) := by decide +kernel
set_option maxRecDepth 20000 in
theorem ggX4_rowsIn_X4_isLeaf : GoodIn wsX4_rowsIn wsX4_isLeaf := goodIn_r _ [9, 10, 11, 12, 8, 13, 14, 15, 16, 17, 18, 19, 20, 21, 22, 23, 24, 25, 26, 27, 28, 38, 39, 40, 41, 42, 43, 44, 45, 46, 47, 48, 49, 50] (by decide +kernel) (by decide +kernel)
set_option maxRecDepth 20000 in
theorem gX4_rowsIn_X4_isLeaf : GoodIn wsX4_rowsIn (wsV RX4 122 RX4 yX4_isLeaf wsX4_isLeaf) := goodIn_app (goodIn_of _ (by decide +kernel)) ggX4_rowsIn_X4_isLeaf
set_option maxRecDepth 20000 in
theorem ggX4_rowsIn_X4_isFine : GoodIn wsX4_rowsIn wsX4_isFine := goodIn_r _ [32, 33, 38, 39, 40, 41, 42, 43, 44, 45, 46, 47, 48, 49, 50] (by decide +kernel) (by decide +kernel)
set_option maxRecDepth 20000 in
theorem gX4_rowsIn_X4_isFine : GoodIn wsX4_rowsIn (wsV RX4 75 RX4 yX4_isFine wsX4_isFine) := goodIn_app (goodIn_of _ (by decide +kernel)) ggX4_rowsIn_X4_isFine
set_option maxRecDepth 20000 in
theorem ggX4_rowsIn_X4_leaf : GoodIn wsX4_rowsIn wsX4_leaf := goodIn_r _ [37, 27, 28, 38, 39, 40, 41, 42, 43, 44, 45, 46, 47, 48, 49, 50] (by decide +kernel) (by decide +kernel)
set_option maxRecDepth 20000 in
theorem gX4_rowsIn_X4_leaf : GoodIn wsX4_rowsIn (wsV RX4 103 RX4 yX4_leaf wsX4_leaf) := goodIn_app (goodIn_of _ (by decide +kernel)) ggX4_rowsIn_X4_leaf
theorem dX4_rowsIn_0 : decode cX4_rowsIn 0 = .ok (.aload_n 0, 1) := by decide +kernel
theorem dX4_rowsIn_1 : decode cX4_rowsIn 1 = .ok (.aload_n 0, 1) := by decide +kernel
theorem dX4_rowsIn_2 : decode cX4_rowsIn 2 = .ok (.iload_n 1, 1) := by decide +kernel
theorem dX4_rowsIn_3 : decode cX4_rowsIn 3 = .ok (.iload_n 2, 1) := by decide +kernel
theorem dX4_rowsIn_4 : decode cX4_rowsIn 4 = .ok (.invokevirtual 122, 3) := by decide +kernel
theorem dX4_rowsIn_7 : decode cX4_rowsIn 7 = .ok (.ifCond .eq 7, 3) := by decide +kernel
theorem dX4_rowsIn_10 : decode cX4_rowsIn 10 = .ok (.iconst 0, 1) := by decide +kernel
theorem dX4_rowsIn_11 : decode cX4_rowsIn 11 = .ok (.goto 4, 3) := by decide +kernel
theorem dX4_rowsIn_14 : decode cX4_rowsIn 14 = .ok (.iconst 1, 1) := by decide +kernel
theorem dX4_rowsIn_15 : decode cX4_rowsIn 15 = .ok (.invokevirtual 75, 3) := by decide +kernel
theorem dX4_rowsIn_18 : decode cX4_rowsIn 18 = .ok (.ifCond .ne 5, 3) := by decide +kernel
theorem dX4_rowsIn_21 : decode cX4_rowsIn 21 = .ok (.iconst 0, 1) := by decide +kernel
theorem dX4_rowsIn_22 : decode cX4_rowsIn 22 = .ok (.ireturn, 1) := by decide +kernel
theorem dX4_rowsIn_23 : decode cX4_rowsIn 23 = .ok (.iconst 0, 1) := by decide +kernel
theorem dX4_rowsIn_24 : decode cX4_rowsIn 24 = .ok (.istore_n 3, 1) := by decide +kernel
theorem dX4_rowsIn_25 : decode cX4_rowsIn 25 = .ok (.iconst 0, 1) := by decide +kernel
theorem dX4_rowsIn_26 : decode cX4_rowsIn 26 = .ok (.istore 4, 2) := by decide +kernel
theorem dX4_rowsIn_28 : decode cX4_rowsIn 28 = .ok (.iload 4, 2) := by decide +kernel
theorem dX4_rowsIn_30 : decode cX4_rowsIn 30 = .ok (.aload_n 0, 1) := by decide +kernel
theorem dX4_rowsIn_31 : decode cX4_rowsIn 31 = .ok (.getfield 52, 3) := by decide +kernel
theorem dX4_rowsIn_34 : decode cX4_rowsIn 34 = .ok (.if_icmp .ge 51, 3) := by decide +kernel
theorem dX4_rowsIn_37 : decode cX4_rowsIn 37 = .ok (.iload_n 3, 1) := by decide +kernel
theorem dX4_rowsIn_38 : decode cX4_rowsIn 38 = .ok (.aload_n 0, 1) := by decide +kernel
theorem dX4_rowsIn_39 : decode cX4_rowsIn 39 = .ok (.getfield 25, 3) := by decide +kernel
theorem dX4_rowsIn_42 : decode cX4_rowsIn 42 = .ok (.iload 4, 2) := by decide +kernel
theorem dX4_rowsIn_44 : decode cX4_rowsIn 44 = .ok (.iaload, 1) := by decide +kernel
theorem dX4_rowsIn_45 : decode cX4_rowsIn 45 = .ok (.iload_n 1, 1) := by decide +kernel
theorem dX4_rowsIn_46 : decode cX4_rowsIn 46 = .ok (.if_icmp .ne 30, 3) := by decide +kernel
theorem dX4_rowsIn_49 : decode cX4_rowsIn 49 = .ok (.aload_n 0, 1) := by decide +kernel
theorem dX4_rowsIn_50 : decode cX4_rowsIn 50 = .ok (.iload_n 1, 1) := by decide +kernel
theorem dX4_rowsIn_51 : decode cX4_rowsIn 51 = .ok (.aload_n 0, 1) := by decide +kernel
theorem dX4_rowsIn_52 : decode cX4_rowsIn 52 = .ok (.getfield 28, 3) := by decide +kernel
theorem dX4_rowsIn_55 : decode cX4_rowsIn 55 = .ok (.iload 4, 2) := by decide +kernel
theorem dX4_rowsIn_57 : decode cX4_rowsIn 57 = .ok (.iaload, 1) := by decide +kernel
theorem dX4_rowsIn_58 : decode cX4_rowsIn 58 = .ok (.aload_n 0, 1) := by decide +kernel
theorem dX4_rowsIn_59 : decode cX4_rowsIn 59 = .ok (.getfield 31, 3) := by decide +kernel
theorem dX4_rowsIn_62 : decode cX4_rowsIn 62 = .ok (.iload 4, 2) := by decide +kernel
theorem dX4_rowsIn_64 : decode cX4_rowsIn 64 = .ok (.iaload, 1) := by decide +kernel
theorem dX4_rowsIn_65 : decode cX4_rowsIn 65 = .ok (.invokevirtual 103, 3) := by decide +kernel
theorem dX4_rowsIn_68 : decode cX4_rowsIn 68 = .ok (.iload_n 2, 1) := by decide +kernel
theorem dX4_rowsIn_69 : decode cX4_rowsIn 69 = .ok (.if_icmp .ne 7, 3) := by decide +kernel
theorem dX4_rowsIn_72 : decode cX4_rowsIn 72 = .ok (.iconst 1, 1) := by decide +kernel
theorem dX4_rowsIn_73 : decode cX4_rowsIn 73 = .ok (.goto 4, 3) := by decide +kernel
theorem dX4_rowsIn_76 : decode cX4_rowsIn 76 = .ok (.iconst 0, 1) := by decide +kernel
theorem dX4_rowsIn_77 : decode cX4_rowsIn 77 = .ok (.iadd, 1) := by decide +kernel
theorem dX4_rowsIn_78 : decode cX4_rowsIn 78 = .ok (.istore_n 3, 1) := by decide +kernel
theorem dX4_rowsIn_79 : decode cX4_rowsIn 79 = .ok (.iinc 4 1, 3) := by decide +kernel
theorem dX4_rowsIn_82 : decode cX4_rowsIn 82 = .ok (.goto (-54), 3) := by decide +kernel
theorem dX4_rowsIn_85 : decode cX4_rowsIn 85 = .ok (.iload_n 3, 1) := by decide +kernel
theorem dX4_rowsIn_86 : decode cX4_rowsIn 86 = .ok (.ireturn, 1) := by decide +kernel
set_option maxRecDepth 20000 in
theorem ggX4_rows_X4_isTabled : GoodIn wsX4_rows wsX4_isTabled := goodIn_r _ [7, 8, 9, 10, 11, 12, 13, 14, 15, 16, 17, 18, 19, 20, 21, 22] (by decide +kernel) (by decide +kernel)
set_option maxRecDepth 20000 in
theorem gX4_rows_X4_isTabled : GoodIn wsX4_rows (wsV RX4 110 RX4 yX4_isTabled wsX4_isTabled) := goodIn_app (goodIn_of _ (by decide +kernel)) ggX4_rows_X4_isTabled
theorem dX4_rows_0 : decode cX4_rows 0 = .ok (.aload_n 0, 1) := by decide +kernel
theorem dX4_rows_1 : decode cX4_rows 1 = .ok (.iconst 0, 1) := by decide +kernel
theorem dX4_rows_2 : decode cX4_rows 2 = .ok (.putfield 37, 3) := by decide +kernel
theorem dX4_rows_5 : decode cX4_rows 5 = .ok (.iconst 0, 1) := by decide +kernel
theorem dX4_rows_6 : decode cX4_rows 6 = .ok (.istore_n 1, 1) := by decide +kernel
theorem dX4_rows_7 : decode cX4_rows 7 = .ok (.iconst 0, 1) := by decide +kernel
theorem dX4_rows_8 : decode cX4_rows 8 = .ok (.istore_n 2, 1) := by decide +kernel
theorem dX4_rows_9 : decode cX4_rows 9 = .ok (.iload_n 2, 1) := by decide +kernel
theorem dX4_rows_10 : decode cX4_rows 10 = .ok (.aload_n 0, 1) := by decide +kernel
theorem dX4_rows_11 : decode cX4_rows 11 = .ok (.getfield 52, 3) := by decide +kernel
theorem dX4_rows_14 : decode cX4_rows 14 = .ok (.if_icmp .ge 25, 3) := by decide +kernel
theorem dX4_rows_17 : decode cX4_rows 17 = .ok (.iload_n 1, 1) := by decide +kernel
theorem dX4_rows_18 : decode cX4_rows 18 = .ok (.aload_n 0, 1) := by decide +kernel
theorem dX4_rows_19 : decode cX4_rows 19 = .ok (.iload_n 2, 1) := by decide +kernel
theorem dX4_rows_20 : decode cX4_rows 20 = .ok (.invokevirtual 110, 3) := by decide +kernel
theorem dX4_rows_23 : decode cX4_rows 23 = .ok (.ifCond .eq 7, 3) := by decide +kernel
theorem dX4_rows_26 : decode cX4_rows 26 = .ok (.iconst 1, 1) := by decide +kernel
theorem dX4_rows_27 : decode cX4_rows 27 = .ok (.goto 4, 3) := by decide +kernel
theorem dX4_rows_30 : decode cX4_rows 30 = .ok (.iconst 0, 1) := by decide +kernel
theorem dX4_rows_31 : decode cX4_rows 31 = .ok (.iadd, 1) := by decide +kernel
theorem dX4_rows_32 : decode cX4_rows 32 = .ok (.istore_n 1, 1) := by decide +kernel
theorem dX4_rows_33 : decode cX4_rows 33 = .ok (.iinc 2 1, 3) := by decide +kernel
theorem dX4_rows_36 : decode cX4_rows 36 = .ok (.goto (-27), 3) := by decide +kernel
theorem dX4_rows_39 : decode cX4_rows 39 = .ok (.iload_n 1, 1) := by decide +kernel
theorem dX4_rows_40 : decode cX4_rows 40 = .ok (.ireturn, 1) := by decide +kernel
set_option maxRecDepth 20000 in
theorem ggX4_isQuestion_X4_isKey : GoodIn wsX4_isQuestion wsX4_isKey := goodIn_r _ [4, 5, 6, 3, 7] (by decide +kernel) (by decide +kernel)
set_option maxRecDepth 20000 in
theorem gX4_isQuestion_X4_isKey : GoodIn wsX4_isQuestion (va_wsS RX4 62 yX4_isKey wsX4_isKey) := goodIn_app (goodIn_of _ (by decide +kernel)) ggX4_isQuestion_X4_isKey
set_option maxRecDepth 20000 in
theorem ggX4_isQuestion_X4_isIn : GoodIn wsX4_isQuestion wsX4_isIn := goodIn_r _ [7] (by decide +kernel) (by decide +kernel)
set_option maxRecDepth 20000 in
theorem gX4_isQuestion_X4_isIn : GoodIn wsX4_isQuestion (va_wsS RX4 41 yX4_isIn wsX4_isIn) := goodIn_app (goodIn_of _ (by decide +kernel)) ggX4_isQuestion_X4_isIn
theorem dX4_isQuestion_0 : decode cX4_isQuestion 0 = .ok (.iload_n 0, 1) := by decide +kernel
theorem dX4_isQuestion_1 : decode cX4_isQuestion 1 = .ok (.invokestatic 62, 3) := by decide +kernel
theorem dX4_isQuestion_4 : decode cX4_isQuestion 4 = .ok (.ifCond .eq 29, 3) := by decide +kernel
theorem dX4_isQuestion_7 : decode cX4_isQuestion 7 = .ok (.iload_n 1, 1) := by decide +kernel
theorem dX4_isQuestion_8 : decode cX4_isQuestion 8 = .ok (.iload_n 0, 1) := by decide +kernel
theorem dX4_isQuestion_9 : decode cX4_isQuestion 9 = .ok (.sipush 999, 3) := by decide +kernel
theorem dX4_isQuestion_12 : decode cX4_isQuestion 12 = .ok (.invokestatic 41, 3) := by decide +kernel
theorem dX4_isQuestion_15 : decode cX4_isQuestion 15 = .ok (.ifCond .eq 18, 3) := by decide +kernel
theorem dX4_isQuestion_18 : decode cX4_isQuestion 18 = .ok (.iload_n 2, 1) := by decide +kernel
theorem dX4_isQuestion_19 : decode cX4_isQuestion 19 = .ok (.iconst 0, 1) := by decide +kernel
theorem dX4_isQuestion_20 : decode cX4_isQuestion 20 = .ok (.sipush 1023, 3) := by decide +kernel
theorem dX4_isQuestion_23 : decode cX4_isQuestion 23 = .ok (.invokestatic 41, 3) := by decide +kernel
theorem dX4_isQuestion_26 : decode cX4_isQuestion 26 = .ok (.ifCond .eq 7, 3) := by decide +kernel
theorem dX4_isQuestion_29 : decode cX4_isQuestion 29 = .ok (.iconst 1, 1) := by decide +kernel
theorem dX4_isQuestion_30 : decode cX4_isQuestion 30 = .ok (.goto 4, 3) := by decide +kernel
theorem dX4_isQuestion_33 : decode cX4_isQuestion 33 = .ok (.iconst 0, 1) := by decide +kernel
theorem dX4_isQuestion_34 : decode cX4_isQuestion 34 = .ok (.ireturn, 1) := by decide +kernel
set_option maxRecDepth 20000 in
theorem ggX4_counted_X4_isTabled : GoodIn wsX4_counted wsX4_isTabled := goodIn_r _ [8, 9, 10, 14, 15, 16, 17, 18, 19, 20, 21, 22, 23, 24, 25, 26] (by decide +kernel) (by decide +kernel)
set_option maxRecDepth 20000 in
theorem gX4_counted_X4_isTabled : GoodIn wsX4_counted (wsV RX4 110 RX4 yX4_isTabled wsX4_isTabled) := goodIn_app (goodIn_of _ (by decide +kernel)) ggX4_counted_X4_isTabled
set_option maxRecDepth 20000 in
theorem ggX4_counted_X4_isIn : GoodIn wsX4_counted wsX4_isIn := goodIn_r _ [13] (by decide +kernel) (by decide +kernel)
set_option maxRecDepth 20000 in
theorem gX4_counted_X4_isIn : GoodIn wsX4_counted (va_wsS RX4 41 yX4_isIn wsX4_isIn) := goodIn_app (goodIn_of _ (by decide +kernel)) ggX4_counted_X4_isIn
theorem dX4_counted_0 : decode cX4_counted 0 = .ok (.iconst 0, 1) := by decide +kernel
theorem dX4_counted_1 : decode cX4_counted 1 = .ok (.istore 4, 2) := by decide +kernel
theorem dX4_counted_3 : decode cX4_counted 3 = .ok (.iconst 0, 1) := by decide +kernel
theorem dX4_counted_4 : decode cX4_counted 4 = .ok (.istore 5, 2) := by decide +kernel
theorem dX4_counted_6 : decode cX4_counted 6 = .ok (.iload 5, 2) := by decide +kernel
theorem dX4_counted_8 : decode cX4_counted 8 = .ok (.aload_n 0, 1) := by decide +kernel
theorem dX4_counted_9 : decode cX4_counted 9 = .ok (.getfield 52, 3) := by decide +kernel
theorem dX4_counted_12 : decode cX4_counted 12 = .ok (.if_icmp .ge 58, 3) := by decide +kernel
theorem dX4_counted_15 : decode cX4_counted 15 = .ok (.iload 4, 2) := by decide +kernel
theorem dX4_counted_17 : decode cX4_counted 17 = .ok (.aload_n 0, 1) := by decide +kernel
theorem dX4_counted_18 : decode cX4_counted 18 = .ok (.iload 5, 2) := by decide +kernel
theorem dX4_counted_20 : decode cX4_counted 20 = .ok (.invokevirtual 110, 3) := by decide +kernel
theorem dX4_counted_23 : decode cX4_counted 23 = .ok (.ifCond .eq 37, 3) := by decide +kernel
theorem dX4_counted_26 : decode cX4_counted 26 = .ok (.aload_n 0, 1) := by decide +kernel
theorem dX4_counted_27 : decode cX4_counted 27 = .ok (.getfield 28, 3) := by decide +kernel
theorem dX4_counted_30 : decode cX4_counted 30 = .ok (.iload 5, 2) := by decide +kernel
theorem dX4_counted_32 : decode cX4_counted 32 = .ok (.iaload, 1) := by decide +kernel
theorem dX4_counted_33 : decode cX4_counted 33 = .ok (.iload_n 1, 1) := by decide +kernel
theorem dX4_counted_34 : decode cX4_counted 34 = .ok (.iload_n 2, 1) := by decide +kernel
theorem dX4_counted_35 : decode cX4_counted 35 = .ok (.invokestatic 41, 3) := by decide +kernel
theorem dX4_counted_38 : decode cX4_counted 38 = .ok (.ifCond .eq 22, 3) := by decide +kernel
theorem dX4_counted_41 : decode cX4_counted 41 = .ok (.iload_n 3, 1) := by decide +kernel
theorem dX4_counted_42 : decode cX4_counted 42 = .ok (.aload_n 0, 1) := by decide +kernel
theorem dX4_counted_43 : decode cX4_counted 43 = .ok (.getfield 31, 3) := by decide +kernel
theorem dX4_counted_46 : decode cX4_counted 46 = .ok (.iload 5, 2) := by decide +kernel
theorem dX4_counted_48 : decode cX4_counted 48 = .ok (.iaload, 1) := by decide +kernel
theorem dX4_counted_49 : decode cX4_counted 49 = .ok (.ishr, 1) := by decide +kernel
theorem dX4_counted_50 : decode cX4_counted 50 = .ok (.iconst 1, 1) := by decide +kernel
theorem dX4_counted_51 : decode cX4_counted 51 = .ok (.iand, 1) := by decide +kernel
theorem dX4_counted_52 : decode cX4_counted 52 = .ok (.iconst 1, 1) := by decide +kernel
theorem dX4_counted_53 : decode cX4_counted 53 = .ok (.if_icmp .ne 7, 3) := by decide +kernel
theorem dX4_counted_56 : decode cX4_counted 56 = .ok (.iconst 1, 1) := by decide +kernel
theorem dX4_counted_57 : decode cX4_counted 57 = .ok (.goto 4, 3) := by decide +kernel
theorem dX4_counted_60 : decode cX4_counted 60 = .ok (.iconst 0, 1) := by decide +kernel
theorem dX4_counted_61 : decode cX4_counted 61 = .ok (.iadd, 1) := by decide +kernel
theorem dX4_counted_62 : decode cX4_counted 62 = .ok (.istore 4, 2) := by decide +kernel
theorem dX4_counted_64 : decode cX4_counted 64 = .ok (.iinc 5 1, 3) := by decide +kernel
theorem dX4_counted_67 : decode cX4_counted 67 = .ok (.goto (-61), 3) := by decide +kernel
theorem dX4_counted_70 : decode cX4_counted 70 = .ok (.iload 4, 2) := by decide +kernel
theorem dX4_counted_72 : decode cX4_counted 72 = .ok (.ireturn, 1) := by decide +kernel
set_option maxRecDepth 20000 in
theorem ggX4_count_X4_isQuestion : GoodIn wsX4_count wsX4_isQuestion := goodIn_r _ [4, 5, 6, 3, 7, 8, 9, 10] (by decide +kernel) (by decide +kernel)
set_option maxRecDepth 20000 in
theorem gX4_count_X4_isQuestion : GoodIn wsX4_count (va_wsS RX4 125 yX4_isQuestion wsX4_isQuestion) := goodIn_app (goodIn_of _ (by decide +kernel)) ggX4_count_X4_isQuestion
set_option maxRecDepth 20000 in
theorem ggX4_count_X4_isFine : GoodIn wsX4_count wsX4_isFine := goodIn_r _ [14, 15, 29, 30, 31, 32, 33, 34, 35, 36, 37, 38, 39, 40, 41] (by decide +kernel) (by decide +kernel)
set_option maxRecDepth 20000 in
theorem gX4_count_X4_isFine : GoodIn wsX4_count (wsV RX4 75 RX4 yX4_isFine wsX4_isFine) := goodIn_app (goodIn_of _ (by decide +kernel)) ggX4_count_X4_isFine
set_option maxRecDepth 20000 in
theorem ggX4_count_X4_counted : GoodIn wsX4_count wsX4_counted := goodIn_r _ [19, 20, 21, 22, 23, 24, 25, 3, 26, 27, 28, 8, 9, 10, 29, 30, 31, 32, 33, 34, 35, 36, 37, 38, 39, 40, 41] (by decide +kernel) (by decide +kernel)
set_option maxRecDepth 20000 in
theorem gX4_count_X4_counted : GoodIn wsX4_count (wsV RX4 128 RX4 yX4_counted wsX4_counted) := goodIn_app (goodIn_of _ (by decide +kernel)) ggX4_count_X4_counted
theorem dX4_count_0 : decode cX4_count 0 = .ok (.aload_n 0, 1) := by decide +kernel
theorem dX4_count_1 : decode cX4_count 1 = .ok (.iload_n 1, 1) := by decide +kernel
theorem dX4_count_2 : decode cX4_count 2 = .ok (.iload_n 2, 1) := by decide +kernel
theorem dX4_count_3 : decode cX4_count 3 = .ok (.iload_n 3, 1) := by decide +kernel
theorem dX4_count_4 : decode cX4_count 4 = .ok (.invokestatic 125, 3) := by decide +kernel
theorem dX4_count_7 : decode cX4_count 7 = .ok (.ifCond .eq 7, 3) := by decide +kernel
theorem dX4_count_10 : decode cX4_count 10 = .ok (.iconst 0, 1) := by decide +kernel
theorem dX4_count_11 : decode cX4_count 11 = .ok (.goto 4, 3) := by decide +kernel
theorem dX4_count_14 : decode cX4_count 14 = .ok (.iconst 1, 1) := by decide +kernel
theorem dX4_count_15 : decode cX4_count 15 = .ok (.invokevirtual 75, 3) := by decide +kernel
theorem dX4_count_18 : decode cX4_count 18 = .ok (.ifCond .eq 13, 3) := by decide +kernel
theorem dX4_count_21 : decode cX4_count 21 = .ok (.aload_n 0, 1) := by decide +kernel
theorem dX4_count_22 : decode cX4_count 22 = .ok (.iload_n 1, 1) := by decide +kernel
theorem dX4_count_23 : decode cX4_count 23 = .ok (.iload_n 2, 1) := by decide +kernel
theorem dX4_count_24 : decode cX4_count 24 = .ok (.iload_n 3, 1) := by decide +kernel
theorem dX4_count_25 : decode cX4_count 25 = .ok (.invokevirtual 128, 3) := by decide +kernel
theorem dX4_count_28 : decode cX4_count 28 = .ok (.goto 4, 3) := by decide +kernel
theorem dX4_count_31 : decode cX4_count 31 = .ok (.iconst 0, 1) := by decide +kernel
theorem dX4_count_32 : decode cX4_count 32 = .ok (.ireturn, 1) := by decide +kernel
set_option maxRecDepth 20000 in
theorem ggX4_countPlain_X4_isQuestion : GoodIn wsX4_countPlain wsX4_isQuestion := goodIn_r _ [4, 5, 6, 3, 7, 8, 9, 10] (by decide +kernel) (by decide +kernel)
set_option maxRecDepth 20000 in
theorem gX4_countPlain_X4_isQuestion : GoodIn wsX4_countPlain (va_wsS RX4 125 yX4_isQuestion wsX4_isQuestion) := goodIn_app (goodIn_of _ (by decide +kernel)) ggX4_countPlain_X4_isQuestion
set_option maxRecDepth 20000 in
theorem ggX4_countPlain_X4_isFine : GoodIn wsX4_countPlain wsX4_isFine := goodIn_r _ [14, 15, 29, 30, 31, 32, 33, 34, 35, 36, 37, 38, 39, 40, 41] (by decide +kernel) (by decide +kernel)
set_option maxRecDepth 20000 in
theorem gX4_countPlain_X4_isFine : GoodIn wsX4_countPlain (wsV RX4 75 RX4 yX4_isFine wsX4_isFine) := goodIn_app (goodIn_of _ (by decide +kernel)) ggX4_countPlain_X4_isFine
set_option maxRecDepth 20000 in
theorem ggX4_countPlain_X4_counted : GoodIn wsX4_countPlain wsX4_counted := goodIn_r _ [19, 20, 21, 22, 23, 24, 25, 3, 26, 27, 28, 8, 9, 10, 29, 30, 31, 32, 33, 34, 35, 36, 37, 38, 39, 40, 41] (by decide +kernel) (by decide +kernel)
set_option maxRecDepth 20000 in
theorem gX4_countPlain_X4_counted : GoodIn wsX4_countPlain (wsV RX4 128 RX4 yX4_counted wsX4_counted) := goodIn_app (goodIn_of _ (by decide +kernel)) ggX4_countPlain_X4_counted
theorem dX4_countPlain_0 : decode cX4_countPlain 0 = .ok (.aload_n 0, 1) := by decide +kernel
theorem dX4_countPlain_1 : decode cX4_countPlain 1 = .ok (.iload_n 1, 1) := by decide +kernel
theorem dX4_countPlain_2 : decode cX4_countPlain 2 = .ok (.iload_n 2, 1) := by decide +kernel
theorem dX4_countPlain_3 : decode cX4_countPlain 3 = .ok (.iload_n 3, 1) := by decide +kernel
theorem dX4_countPlain_4 : decode cX4_countPlain 4 = .ok (.invokestatic 125, 3) := by decide +kernel
theorem dX4_countPlain_7 : decode cX4_countPlain 7 = .ok (.ifCond .eq 7, 3) := by decide +kernel
theorem dX4_countPlain_10 : decode cX4_countPlain 10 = .ok (.iconst 0, 1) := by decide +kernel
theorem dX4_countPlain_11 : decode cX4_countPlain 11 = .ok (.goto 4, 3) := by decide +kernel
theorem dX4_countPlain_14 : decode cX4_countPlain 14 = .ok (.iconst 1, 1) := by decide +kernel
theorem dX4_countPlain_15 : decode cX4_countPlain 15 = .ok (.invokevirtual 75, 3) := by decide +kernel
theorem dX4_countPlain_18 : decode cX4_countPlain 18 = .ok (.ifCond .eq 13, 3) := by decide +kernel
theorem dX4_countPlain_21 : decode cX4_countPlain 21 = .ok (.aload_n 0, 1) := by decide +kernel
theorem dX4_countPlain_22 : decode cX4_countPlain 22 = .ok (.iload_n 1, 1) := by decide +kernel
theorem dX4_countPlain_23 : decode cX4_countPlain 23 = .ok (.iload_n 2, 1) := by decide +kernel
theorem dX4_countPlain_24 : decode cX4_countPlain 24 = .ok (.iload_n 3, 1) := by decide +kernel
theorem dX4_countPlain_25 : decode cX4_countPlain 25 = .ok (.invokevirtual 128, 3) := by decide +kernel
theorem dX4_countPlain_28 : decode cX4_countPlain 28 = .ok (.goto 4, 3) := by decide +kernel
theorem dX4_countPlain_31 : decode cX4_countPlain 31 = .ok (.iconst 0, 1) := by decide +kernel
theorem dX4_countPlain_32 : decode cX4_countPlain 32 = .ok (.ireturn, 1) := by decide +kernel
set_option maxRecDepth 20000 in
theorem ggX4_isMatter_X4_partWith : GoodIn wsX4_isMatter wsX4_partWith := goodIn_r _ [6, 7, 8, 9, 10, 5, 11, 1, 12, 13, 14, 15, 16, 17, 18, 19, 20, 27, 28, 29, 30, 31, 32, 33, 34, 35, 36, 37, 38, 39] (by decide +kernel) (by decide +kernel)
set_option maxRecDepth 20000 in
theorem gX4_isMatter_X4_partWith : GoodIn wsX4_isMatter (wsV RX4 100 RX4 yX4_partWith wsX4_partWith) := goodIn_app (goodIn_of _ (by decide +kernel)) ggX4_isMatter_X4_partWith
set_option maxRecDepth 20000 in
theorem ggX4_isMatter_X4_hasKey : GoodIn wsX4_isMatter wsX4_hasKey := goodIn_r _ [15, 16, 17, 18, 19, 5, 20, 27, 28, 29, 30, 31, 32, 33, 34, 35, 36, 37, 38, 39] (by decide +kernel) (by decide +kernel)
set_option maxRecDepth 20000 in
theorem gX4_isMatter_X4_hasKey : GoodIn wsX4_isMatter (wsV RX4 58 RX4 yX4_hasKey wsX4_hasKey) := goodIn_app (goodIn_of _ (by decide +kernel)) ggX4_isMatter_X4_hasKey
set_option maxRecDepth 20000 in
theorem ggX4_isMatter_X4_leaf : GoodIn wsX4_isMatter wsX4_leaf := goodIn_r _ [24, 25, 26, 27, 28, 29, 30, 31, 32, 33, 34, 35, 36, 37, 38, 39] (by decide +kernel) (by decide +kernel)
set_option maxRecDepth 20000 in
theorem gX4_isMatter_X4_leaf : GoodIn wsX4_isMatter (wsV RX4 103 RX4 yX4_leaf wsX4_leaf) := goodIn_app (goodIn_of _ (by decide +kernel)) ggX4_isMatter_X4_leaf
theorem dX4_isMatter_0 : decode cX4_isMatter 0 = .ok (.iload_n 1, 1) := by decide +kernel
theorem dX4_isMatter_1 : decode cX4_isMatter 1 = .ok (.ifCond .le 12, 3) := by decide +kernel
theorem dX4_isMatter_4 : decode cX4_isMatter 4 = .ok (.aload_n 0, 1) := by decide +kernel
theorem dX4_isMatter_5 : decode cX4_isMatter 5 = .ok (.getfield 22, 3) := by decide +kernel
theorem dX4_isMatter_8 : decode cX4_isMatter 8 = .ok (.iload_n 1, 1) := by decide +kernel
theorem dX4_isMatter_9 : decode cX4_isMatter 9 = .ok (.iaload, 1) := by decide +kernel
theorem dX4_isMatter_10 : decode cX4_isMatter 10 = .ok (.ifCond .ne 8, 3) := by decide +kernel
theorem dX4_isMatter_13 : decode cX4_isMatter 13 = .ok (.iload 5, 2) := by decide +kernel
theorem dX4_isMatter_15 : decode cX4_isMatter 15 = .ok (.ifCond .ne 5, 3) := by decide +kernel
theorem dX4_isMatter_18 : decode cX4_isMatter 18 = .ok (.iconst 0, 1) := by decide +kernel
theorem dX4_isMatter_19 : decode cX4_isMatter 19 = .ok (.ireturn, 1) := by decide +kernel
theorem dX4_isMatter_20 : decode cX4_isMatter 20 = .ok (.iconst 0, 1) := by decide +kernel
theorem dX4_isMatter_21 : decode cX4_isMatter 21 = .ok (.istore 6, 2) := by decide +kernel
theorem dX4_isMatter_23 : decode cX4_isMatter 23 = .ok (.iload_n 3, 1) := by decide +kernel
theorem dX4_isMatter_24 : decode cX4_isMatter 24 = .ok (.istore 7, 2) := by decide +kernel
theorem dX4_isMatter_26 : decode cX4_isMatter 26 = .ok (.iload 7, 2) := by decide +kernel
theorem dX4_isMatter_28 : decode cX4_isMatter 28 = .ok (.iload 4, 2) := by decide +kernel
theorem dX4_isMatter_30 : decode cX4_isMatter 30 = .ok (.if_icmp .gt 101, 3) := by decide +kernel
theorem dX4_isMatter_33 : decode cX4_isMatter 33 = .ok (.iload 6, 2) := by decide +kernel
theorem dX4_isMatter_35 : decode cX4_isMatter 35 = .ok (.ifCond .ne 96, 3) := by decide +kernel
theorem dX4_isMatter_38 : decode cX4_isMatter 38 = .ok (.iload_n 1, 1) := by decide +kernel
theorem dX4_isMatter_39 : decode cX4_isMatter 39 = .ok (.ifCond .ne 20, 3) := by decide +kernel
theorem dX4_isMatter_42 : decode cX4_isMatter 42 = .ok (.aload_n 0, 1) := by decide +kernel
theorem dX4_isMatter_43 : decode cX4_isMatter 43 = .ok (.iload 7, 2) := by decide +kernel
theorem dX4_isMatter_45 : decode cX4_isMatter 45 = .ok (.invokevirtual 100, 3) := by decide +kernel
theorem dX4_isMatter_48 : decode cX4_isMatter 48 = .ok (.ifCond .ne 7, 3) := by decide +kernel
theorem dX4_isMatter_51 : decode cX4_isMatter 51 = .ok (.iconst 1, 1) := by decide +kernel
theorem dX4_isMatter_52 : decode cX4_isMatter 52 = .ok (.goto 14, 3) := by decide +kernel
theorem dX4_isMatter_55 : decode cX4_isMatter 55 = .ok (.iconst 0, 1) := by decide +kernel
theorem dX4_isMatter_56 : decode cX4_isMatter 56 = .ok (.goto 10, 3) := by decide +kernel
theorem dX4_isMatter_59 : decode cX4_isMatter 59 = .ok (.aload_n 0, 1) := by decide +kernel
theorem dX4_isMatter_60 : decode cX4_isMatter 60 = .ok (.iload_n 1, 1) := by decide +kernel
theorem dX4_isMatter_61 : decode cX4_isMatter 61 = .ok (.iload 7, 2) := by decide +kernel
theorem dX4_isMatter_63 : decode cX4_isMatter 63 = .ok (.invokevirtual 58, 3) := by decide +kernel
theorem dX4_isMatter_66 : decode cX4_isMatter 66 = .ok (.istore 8, 2) := by decide +kernel
theorem dX4_isMatter_68 : decode cX4_isMatter 68 = .ok (.iconst 0, 1) := by decide +kernel
theorem dX4_isMatter_69 : decode cX4_isMatter 69 = .ok (.istore 9, 2) := by decide +kernel
theorem dX4_isMatter_71 : decode cX4_isMatter 71 = .ok (.iload 9, 2) := by decide +kernel
theorem dX4_isMatter_73 : decode cX4_isMatter 73 = .ok (.bipush 10, 2) := by decide +kernel
theorem dX4_isMatter_75 : decode cX4_isMatter 75 = .ok (.if_icmp .ge 50, 3) := by decide +kernel
theorem dX4_isMatter_78 : decode cX4_isMatter 78 = .ok (.iload 8, 2) := by decide +kernel
theorem dX4_isMatter_80 : decode cX4_isMatter 80 = .ok (.ifCond .eq 45, 3) := by decide +kernel
theorem dX4_isMatter_83 : decode cX4_isMatter 83 = .ok (.iload 6, 2) := by decide +kernel
theorem dX4_isMatter_85 : decode cX4_isMatter 85 = .ok (.ifCond .ne 40, 3) := by decide +kernel
theorem dX4_isMatter_88 : decode cX4_isMatter 88 = .ok (.iload 5, 2) := by decide +kernel
theorem dX4_isMatter_90 : decode cX4_isMatter 90 = .ok (.iload 9, 2) := by decide +kernel
theorem dX4_isMatter_92 : decode cX4_isMatter 92 = .ok (.ishr, 1) := by decide +kernel
theorem dX4_isMatter_93 : decode cX4_isMatter 93 = .ok (.iconst 1, 1) := by decide +kernel
theorem dX4_isMatter_94 : decode cX4_isMatter 94 = .ok (.iand, 1) := by decide +kernel
theorem dX4_isMatter_95 : decode cX4_isMatter 95 = .ok (.iconst 1, 1) := by decide +kernel
theorem dX4_isMatter_96 : decode cX4_isMatter 96 = .ok (.if_icmp .ne 20, 3) := by decide +kernel
theorem dX4_isMatter_99 : decode cX4_isMatter 99 = .ok (.aload_n 0, 1) := by decide +kernel
theorem dX4_isMatter_100 : decode cX4_isMatter 100 = .ok (.iload_n 1, 1) := by decide +kernel
theorem dX4_isMatter_101 : decode cX4_isMatter 101 = .ok (.iload 7, 2) := by decide +kernel
theorem dX4_isMatter_103 : decode cX4_isMatter 103 = .ok (.iload 9, 2) := by decide +kernel
theorem dX4_isMatter_105 : decode cX4_isMatter 105 = .ok (.invokevirtual 103, 3) := by decide +kernel
theorem dX4_isMatter_108 : decode cX4_isMatter 108 = .ok (.iload_n 2, 1) := by decide +kernel
theorem dX4_isMatter_109 : decode cX4_isMatter 109 = .ok (.if_icmp .ne 7, 3) := by decide +kernel
theorem dX4_isMatter_112 : decode cX4_isMatter 112 = .ok (.iconst 1, 1) := by decide +kernel
theorem dX4_isMatter_113 : decode cX4_isMatter 113 = .ok (.goto 4, 3) := by decide +kernel
theorem dX4_isMatter_116 : decode cX4_isMatter 116 = .ok (.iconst 0, 1) := by decide +kernel
theorem dX4_isMatter_117 : decode cX4_isMatter 117 = .ok (.istore 6, 2) := by decide +kernel
theorem dX4_isMatter_119 : decode cX4_isMatter 119 = .ok (.iinc 9 1, 3) := by decide +kernel
theorem dX4_isMatter_122 : decode cX4_isMatter 122 = .ok (.goto (-51), 3) := by decide +kernel
theorem dX4_isMatter_125 : decode cX4_isMatter 125 = .ok (.iinc 7 1, 3) := by decide +kernel
theorem dX4_isMatter_128 : decode cX4_isMatter 128 = .ok (.goto (-102), 3) := by decide +kernel
theorem dX4_isMatter_131 : decode cX4_isMatter 131 = .ok (.iload 6, 2) := by decide +kernel
theorem dX4_isMatter_133 : decode cX4_isMatter 133 = .ok (.ireturn, 1) := by decide +kernel
set_option maxRecDepth 20000 in
theorem ggX4_read_X4_isQuestion : GoodIn wsX4_read wsX4_isQuestion := goodIn_r _ [5, 6, 7, 4, 8, 9, 10, 11] (by decide +kernel) (by decide +kernel)
set_option maxRecDepth 20000 in
theorem gX4_read_X4_isQuestion : GoodIn wsX4_read (va_wsS RX4 125 yX4_isQuestion wsX4_isQuestion) := goodIn_app (goodIn_of _ (by decide +kernel)) ggX4_read_X4_isQuestion
set_option maxRecDepth 20000 in
theorem ggX4_read_X4_isFine : GoodIn wsX4_read wsX4_isFine := goodIn_r _ [15, 16, 46, 47, 48, 49, 50, 51, 52, 53, 54, 55, 56, 57, 58] (by decide +kernel) (by decide +kernel)
set_option maxRecDepth 20000 in
theorem gX4_read_X4_isFine : GoodIn wsX4_read (wsV RX4 75 RX4 yX4_isFine wsX4_isFine) := goodIn_app (goodIn_of _ (by decide +kernel)) ggX4_read_X4_isFine
set_option maxRecDepth 20000 in
theorem ggX4_read_X4_leaves : GoodIn wsX4_read wsX4_leaves := goodIn_r _ [20, 21, 22, 46, 47, 48, 49, 50, 51, 52, 53, 54, 55, 56, 57, 58] (by decide +kernel) (by decide +kernel)
set_option maxRecDepth 20000 in
theorem gX4_read_X4_leaves : GoodIn wsX4_read (wsV RX4 119 RX4 yX4_leaves wsX4_leaves) := goodIn_app (goodIn_of _ (by decide +kernel)) ggX4_read_X4_leaves
set_option maxRecDepth 20000 in
theorem ggX4_read_X4_isMatter : GoodIn wsX4_read wsX4_isMatter := goodIn_r _ [26, 27, 28, 29, 30, 4, 31, 1, 32, 33, 34, 35, 36, 37, 38, 39, 40, 41, 9, 10, 11, 42, 43, 44, 45, 21, 22, 46, 47, 48, 49, 50, 51, 52, 53, 54, 55, 56, 57, 58] (by decide +kernel) (by decide +kernel)
set_option maxRecDepth 20000 in
theorem gX4_read_X4_isMatter : GoodIn wsX4_read (wsV RX4 131 RX4 yX4_isMatter wsX4_isMatter) := goodIn_app (goodIn_of _ (by decide +kernel)) ggX4_read_X4_isMatter
theorem dX4_read_0 : decode cX4_read 0 = .ok (.aload_n 0, 1) := by decide +kernel
theorem dX4_read_1 : decode cX4_read 1 = .ok (.iload_n 1, 1) := by decide +kernel
theorem dX4_read_2 : decode cX4_read 2 = .ok (.iload_n 2, 1) := by decide +kernel
theorem dX4_read_3 : decode cX4_read 3 = .ok (.iload_n 3, 1) := by decide +kernel
theorem dX4_read_4 : decode cX4_read 4 = .ok (.invokestatic 125, 3) := by decide +kernel
theorem dX4_read_7 : decode cX4_read 7 = .ok (.ifCond .eq 7, 3) := by decide +kernel
theorem dX4_read_10 : decode cX4_read 10 = .ok (.iconst 0, 1) := by decide +kernel
theorem dX4_read_11 : decode cX4_read 11 = .ok (.goto 4, 3) := by decide +kernel
theorem dX4_read_14 : decode cX4_read 14 = .ok (.iconst 1, 1) := by decide +kernel
theorem dX4_read_15 : decode cX4_read 15 = .ok (.invokevirtual 75, 3) := by decide +kernel
theorem dX4_read_18 : decode cX4_read 18 = .ok (.ifCond .ne 5, 3) := by decide +kernel
theorem dX4_read_21 : decode cX4_read 21 = .ok (.iconst 0, 1) := by decide +kernel
theorem dX4_read_22 : decode cX4_read 22 = .ok (.ireturn, 1) := by decide +kernel
theorem dX4_read_23 : decode cX4_read 23 = .ok (.iconst 0, 1) := by decide +kernel
theorem dX4_read_24 : decode cX4_read 24 = .ok (.istore 4, 2) := by decide +kernel
theorem dX4_read_26 : decode cX4_read 26 = .ok (.iconst 0, 1) := by decide +kernel
theorem dX4_read_27 : decode cX4_read 27 = .ok (.istore 5, 2) := by decide +kernel
theorem dX4_read_29 : decode cX4_read 29 = .ok (.iload 5, 2) := by decide +kernel
theorem dX4_read_31 : decode cX4_read 31 = .ok (.aload_n 0, 1) := by decide +kernel
theorem dX4_read_32 : decode cX4_read 32 = .ok (.getfield 45, 3) := by decide +kernel
theorem dX4_read_35 : decode cX4_read 35 = .ok (.if_icmp .gt 53, 3) := by decide +kernel
theorem dX4_read_38 : decode cX4_read 38 = .ok (.iconst 0, 1) := by decide +kernel
theorem dX4_read_39 : decode cX4_read 39 = .ok (.istore 6, 2) := by decide +kernel
theorem dX4_read_41 : decode cX4_read 41 = .ok (.iload 6, 2) := by decide +kernel
theorem dX4_read_43 : decode cX4_read 43 = .ok (.aload_n 0, 1) := by decide +kernel
theorem dX4_read_44 : decode cX4_read 44 = .ok (.iload 5, 2) := by decide +kernel
theorem dX4_read_46 : decode cX4_read 46 = .ok (.invokevirtual 119, 3) := by decide +kernel
theorem dX4_read_49 : decode cX4_read 49 = .ok (.if_icmp .ge 33, 3) := by decide +kernel
theorem dX4_read_52 : decode cX4_read 52 = .ok (.iload 4, 2) := by decide +kernel
theorem dX4_read_54 : decode cX4_read 54 = .ok (.aload_n 0, 1) := by decide +kernel
theorem dX4_read_55 : decode cX4_read 55 = .ok (.iload 5, 2) := by decide +kernel
theorem dX4_read_57 : decode cX4_read 57 = .ok (.iload 6, 2) := by decide +kernel
theorem dX4_read_59 : decode cX4_read 59 = .ok (.iload_n 1, 1) := by decide +kernel
theorem dX4_read_60 : decode cX4_read 60 = .ok (.iload_n 2, 1) := by decide +kernel
theorem dX4_read_61 : decode cX4_read 61 = .ok (.iload_n 3, 1) := by decide +kernel
theorem dX4_read_62 : decode cX4_read 62 = .ok (.invokevirtual 131, 3) := by decide +kernel
theorem dX4_read_65 : decode cX4_read 65 = .ok (.ifCond .eq 7, 3) := by decide +kernel
theorem dX4_read_68 : decode cX4_read 68 = .ok (.iconst 1, 1) := by decide +kernel
theorem dX4_read_69 : decode cX4_read 69 = .ok (.goto 4, 3) := by decide +kernel
theorem dX4_read_72 : decode cX4_read 72 = .ok (.iconst 0, 1) := by decide +kernel
theorem dX4_read_73 : decode cX4_read 73 = .ok (.iadd, 1) := by decide +kernel
theorem dX4_read_74 : decode cX4_read 74 = .ok (.istore 4, 2) := by decide +kernel
theorem dX4_read_76 : decode cX4_read 76 = .ok (.iinc 6 1, 3) := by decide +kernel
theorem dX4_read_79 : decode cX4_read 79 = .ok (.goto (-38), 3) := by decide +kernel
theorem dX4_read_82 : decode cX4_read 82 = .ok (.iinc 5 1, 3) := by decide +kernel
theorem dX4_read_85 : decode cX4_read 85 = .ok (.goto (-56), 3) := by decide +kernel
theorem dX4_read_88 : decode cX4_read 88 = .ok (.iload 4, 2) := by decide +kernel
theorem dX4_read_90 : decode cX4_read 90 = .ok (.ireturn, 1) := by decide +kernel
set_option maxRecDepth 20000 in
theorem ggX4_matters_X4_isLeaf : GoodIn wsX4_matters wsX4_isLeaf := goodIn_r _ [5, 6, 7, 8, 4, 9, 10, 11, 12, 13, 14, 15, 16, 17, 18, 19, 20, 21, 22, 23, 24, 58, 59, 60, 61, 62, 63, 64, 65, 66, 67, 68, 69, 70] (by decide +kernel) (by decide +kernel)
set_option maxRecDepth 20000 in
theorem gX4_matters_X4_isLeaf : GoodIn wsX4_matters (wsV RX4 122 RX4 yX4_isLeaf wsX4_isLeaf) := goodIn_app (goodIn_of _ (by decide +kernel)) ggX4_matters_X4_isLeaf
set_option maxRecDepth 20000 in
theorem ggX4_matters_X4_isQuestion : GoodIn wsX4_matters wsX4_isQuestion := goodIn_r _ [27, 28, 29, 4, 30, 16, 17, 18] (by decide +kernel) (by decide +kernel)
set_option maxRecDepth 20000 in
theorem gX4_matters_X4_isQuestion : GoodIn wsX4_matters (va_wsS RX4 125 yX4_isQuestion wsX4_isQuestion) := goodIn_app (goodIn_of _ (by decide +kernel)) ggX4_matters_X4_isQuestion
set_option maxRecDepth 20000 in
theorem ggX4_matters_X4_isFine : GoodIn wsX4_matters wsX4_isFine := goodIn_r _ [34, 35, 58, 59, 60, 61, 62, 63, 64, 65, 66, 67, 68, 69, 70] (by decide +kernel) (by decide +kernel)
set_option maxRecDepth 20000 in
theorem gX4_matters_X4_isFine : GoodIn wsX4_matters (wsV RX4 75 RX4 yX4_isFine wsX4_isFine) := goodIn_app (goodIn_of _ (by decide +kernel)) ggX4_matters_X4_isFine
set_option maxRecDepth 20000 in
theorem ggX4_matters_X4_isMatter : GoodIn wsX4_matters wsX4_isMatter := goodIn_r _ [39, 15, 40, 41, 42, 4, 43, 14, 44, 45, 46, 47, 48, 49, 50, 51, 52, 53, 16, 17, 18, 54, 55, 56, 57, 23, 24, 58, 59, 60, 61, 62, 63, 64, 65, 66, 67, 68, 69, 70] (by decide +kernel) (by decide +kernel)
set_option maxRecDepth 20000 in
theorem gX4_matters_X4_isMatter : GoodIn wsX4_matters (wsV RX4 131 RX4 yX4_isMatter wsX4_isMatter) := goodIn_app (goodIn_of _ (by decide +kernel)) ggX4_matters_X4_isMatter
theorem dX4_matters_0 : decode cX4_matters 0 = .ok (.aload_n 0, 1) := by decide +kernel
theorem dX4_matters_1 : decode cX4_matters 1 = .ok (.aload_n 0, 1) := by decide +kernel
theorem dX4_matters_2 : decode cX4_matters 2 = .ok (.iload_n 1, 1) := by decide +kernel
theorem dX4_matters_3 : decode cX4_matters 3 = .ok (.iload_n 2, 1) := by decide +kernel
theorem dX4_matters_4 : decode cX4_matters 4 = .ok (.invokevirtual 122, 3) := by decide +kernel
theorem dX4_matters_7 : decode cX4_matters 7 = .ok (.ifCond .ne 7, 3) := by decide +kernel
theorem dX4_matters_10 : decode cX4_matters 10 = .ok (.iconst 1, 1) := by decide +kernel
theorem dX4_matters_11 : decode cX4_matters 11 = .ok (.goto 19, 3) := by decide +kernel
theorem dX4_matters_14 : decode cX4_matters 14 = .ok (.iload_n 3, 1) := by decide +kernel
theorem dX4_matters_15 : decode cX4_matters 15 = .ok (.iload 4, 2) := by decide +kernel
theorem dX4_matters_17 : decode cX4_matters 17 = .ok (.iload 5, 2) := by decide +kernel
theorem dX4_matters_19 : decode cX4_matters 19 = .ok (.invokestatic 125, 3) := by decide +kernel
theorem dX4_matters_22 : decode cX4_matters 22 = .ok (.ifCond .ne 7, 3) := by decide +kernel
theorem dX4_matters_25 : decode cX4_matters 25 = .ok (.iconst 2, 1) := by decide +kernel
theorem dX4_matters_26 : decode cX4_matters 26 = .ok (.goto 4, 3) := by decide +kernel
theorem dX4_matters_29 : decode cX4_matters 29 = .ok (.iconst 0, 1) := by decide +kernel
theorem dX4_matters_30 : decode cX4_matters 30 = .ok (.invokevirtual 75, 3) := by decide +kernel
theorem dX4_matters_33 : decode cX4_matters 33 = .ok (.ifCond .eq 21, 3) := by decide +kernel
theorem dX4_matters_36 : decode cX4_matters 36 = .ok (.aload_n 0, 1) := by decide +kernel
theorem dX4_matters_37 : decode cX4_matters 37 = .ok (.iload_n 1, 1) := by decide +kernel
theorem dX4_matters_38 : decode cX4_matters 38 = .ok (.iload_n 2, 1) := by decide +kernel
theorem dX4_matters_39 : decode cX4_matters 39 = .ok (.iload_n 3, 1) := by decide +kernel
theorem dX4_matters_40 : decode cX4_matters 40 = .ok (.iload 4, 2) := by decide +kernel
theorem dX4_matters_42 : decode cX4_matters 42 = .ok (.iload 5, 2) := by decide +kernel
theorem dX4_matters_44 : decode cX4_matters 44 = .ok (.invokevirtual 131, 3) := by decide +kernel
theorem dX4_matters_47 : decode cX4_matters 47 = .ok (.ifCond .eq 7, 3) := by decide +kernel
theorem dX4_matters_50 : decode cX4_matters 50 = .ok (.iconst 1, 1) := by decide +kernel
theorem dX4_matters_51 : decode cX4_matters 51 = .ok (.goto 4, 3) := by decide +kernel
theorem dX4_matters_54 : decode cX4_matters 54 = .ok (.iconst 0, 1) := by decide +kernel
theorem dX4_matters_55 : decode cX4_matters 55 = .ok (.ireturn, 1) := by decide +kernel
theorem dX4_isStale_0 : decode cX4_isStale 0 = .ok (.aload_n 0, 1) := by decide +kernel
theorem dX4_isStale_1 : decode cX4_isStale 1 = .ok (.iconst 0, 1) := by decide +kernel
theorem dX4_isStale_2 : decode cX4_isStale 2 = .ok (.putfield 37, 3) := by decide +kernel
theorem dX4_isStale_5 : decode cX4_isStale 5 = .ok (.aload_n 0, 1) := by decide +kernel
theorem dX4_isStale_6 : decode cX4_isStale 6 = .ok (.getfield 90, 3) := by decide +kernel
theorem dX4_isStale_9 : decode cX4_isStale 9 = .ok (.ireturn, 1) := by decide +kernel
set_option maxRecDepth 20000 in
theorem ggX4_buildIndex_X4_rows : GoodIn wsX4_buildIndex wsX4_rows := goodIn_r _ [6, 7, 8, 9, 10, 11, 5, 12, 13, 14, 15, 16, 17, 18, 19, 20, 21, 22, 23, 24, 25, 26, 27] (by decide +kernel) (by decide +kernel)
set_option maxRecDepth 20000 in
theorem gX4_buildIndex_X4_rows : GoodIn wsX4_buildIndex (wsV RX4 135 RX4 yX4_rows wsX4_rows) := goodIn_app (goodIn_of _ (by decide +kernel)) ggX4_buildIndex_X4_rows
theorem dX4_buildIndex_0 : decode cX4_buildIndex 0 = .ok (.aload_n 0, 1) := by decide +kernel
theorem dX4_buildIndex_1 : decode cX4_buildIndex 1 = .ok (.iconst 0, 1) := by decide +kernel
theorem dX4_buildIndex_2 : decode cX4_buildIndex 2 = .ok (.putfield 90, 3) := by decide +kernel
theorem dX4_buildIndex_5 : decode cX4_buildIndex 5 = .ok (.aload_n 0, 1) := by decide +kernel
theorem dX4_buildIndex_6 : decode cX4_buildIndex 6 = .ok (.invokevirtual 135, 3) := by decide +kernel
theorem dX4_buildIndex_9 : decode cX4_buildIndex 9 = .ok (.ireturn, 1) := by decide +kernel
set_option maxRecDepth 20000 in
theorem ggX4_find_X4_isIn : GoodIn wsX4_find wsX4_isIn := goodIn_r _ [7] (by decide +kernel) (by decide +kernel)
set_option maxRecDepth 20000 in
theorem gX4_find_X4_isIn : GoodIn wsX4_find (va_wsS RX4 41 yX4_isIn wsX4_isIn) := goodIn_app (goodIn_of _ (by decide +kernel)) ggX4_find_X4_isIn
set_option maxRecDepth 20000 in
theorem ggX4_find_X4_isFine : GoodIn wsX4_find wsX4_isFine := goodIn_r _ [11, 12, 19, 20, 21, 22, 23, 24, 25, 26, 27, 28, 29, 30, 31] (by decide +kernel) (by decide +kernel)
set_option maxRecDepth 20000 in
theorem gX4_find_X4_isFine : GoodIn wsX4_find (wsV RX4 75 RX4 yX4_isFine wsX4_isFine) := goodIn_app (goodIn_of _ (by decide +kernel)) ggX4_find_X4_isFine
set_option maxRecDepth 20000 in
theorem ggX4_find_X4_isTabled : GoodIn wsX4_find wsX4_isTabled := goodIn_r _ [16, 17, 18, 19, 20, 21, 22, 23, 24, 25, 26, 27, 28, 29, 30, 31] (by decide +kernel) (by decide +kernel)
set_option maxRecDepth 20000 in
theorem gX4_find_X4_isTabled : GoodIn wsX4_find (wsV RX4 110 RX4 yX4_isTabled wsX4_isTabled) := goodIn_app (goodIn_of _ (by decide +kernel)) ggX4_find_X4_isTabled
theorem dX4_find_0 : decode cX4_find 0 = .ok (.aload_n 0, 1) := by decide +kernel
theorem dX4_find_1 : decode cX4_find 1 = .ok (.iload_n 1, 1) := by decide +kernel
theorem dX4_find_2 : decode cX4_find 2 = .ok (.iconst 0, 1) := by decide +kernel
theorem dX4_find_3 : decode cX4_find 3 = .ok (.bipush 99, 2) := by decide +kernel
theorem dX4_find_5 : decode cX4_find 5 = .ok (.invokestatic 41, 3) := by decide +kernel
theorem dX4_find_8 : decode cX4_find 8 = .ok (.ifCond .ne 7, 3) := by decide +kernel
theorem dX4_find_11 : decode cX4_find 11 = .ok (.iconst 1, 1) := by decide +kernel
theorem dX4_find_12 : decode cX4_find 12 = .ok (.goto 15, 3) := by decide +kernel
theorem dX4_find_15 : decode cX4_find 15 = .ok (.aload_n 0, 1) := by decide +kernel
theorem dX4_find_16 : decode cX4_find 16 = .ok (.getfield 90, 3) := by decide +kernel
theorem dX4_find_19 : decode cX4_find 19 = .ok (.ifCond .eq 7, 3) := by decide +kernel
theorem dX4_find_22 : decode cX4_find 22 = .ok (.iconst 2, 1) := by decide +kernel
theorem dX4_find_23 : decode cX4_find 23 = .ok (.goto 4, 3) := by decide +kernel
theorem dX4_find_26 : decode cX4_find 26 = .ok (.iconst 0, 1) := by decide +kernel
theorem dX4_find_27 : decode cX4_find 27 = .ok (.invokevirtual 75, 3) := by decide +kernel
theorem dX4_find_30 : decode cX4_find 30 = .ok (.ifCond .ne 5, 3) := by decide +kernel
theorem dX4_find_33 : decode cX4_find 33 = .ok (.iconst 0, 1) := by decide +kernel
theorem dX4_find_34 : decode cX4_find 34 = .ok (.ireturn, 1) := by decide +kernel
theorem dX4_find_35 : decode cX4_find 35 = .ok (.iconst 0, 1) := by decide +kernel
theorem dX4_find_36 : decode cX4_find 36 = .ok (.istore_n 2, 1) := by decide +kernel
theorem dX4_find_37 : decode cX4_find 37 = .ok (.iconst 0, 1) := by decide +kernel
theorem dX4_find_38 : decode cX4_find 38 = .ok (.istore_n 3, 1) := by decide +kernel
theorem dX4_find_39 : decode cX4_find 39 = .ok (.iload_n 3, 1) := by decide +kernel
theorem dX4_find_40 : decode cX4_find 40 = .ok (.aload_n 0, 1) := by decide +kernel
theorem dX4_find_41 : decode cX4_find 41 = .ok (.getfield 52, 3) := by decide +kernel
theorem dX4_find_44 : decode cX4_find 44 = .ok (.if_icmp .ge 35, 3) := by decide +kernel
theorem dX4_find_47 : decode cX4_find 47 = .ok (.iload_n 2, 1) := by decide +kernel
theorem dX4_find_48 : decode cX4_find 48 = .ok (.aload_n 0, 1) := by decide +kernel
theorem dX4_find_49 : decode cX4_find 49 = .ok (.iload_n 3, 1) := by decide +kernel
theorem dX4_find_50 : decode cX4_find 50 = .ok (.invokevirtual 110, 3) := by decide +kernel
theorem dX4_find_53 : decode cX4_find 53 = .ok (.ifCond .eq 17, 3) := by decide +kernel
theorem dX4_find_56 : decode cX4_find 56 = .ok (.aload_n 0, 1) := by decide +kernel
theorem dX4_find_57 : decode cX4_find 57 = .ok (.getfield 34, 3) := by decide +kernel
theorem dX4_find_60 : decode cX4_find 60 = .ok (.iload_n 3, 1) := by decide +kernel
theorem dX4_find_61 : decode cX4_find 61 = .ok (.iaload, 1) := by decide +kernel
theorem dX4_find_62 : decode cX4_find 62 = .ok (.iload_n 1, 1) := by decide +kernel
theorem dX4_find_63 : decode cX4_find 63 = .ok (.if_icmp .ne 7, 3) := by decide +kernel
theorem dX4_find_66 : decode cX4_find 66 = .ok (.iconst 1, 1) := by decide +kernel
theorem dX4_find_67 : decode cX4_find 67 = .ok (.goto 4, 3) := by decide +kernel
theorem dX4_find_70 : decode cX4_find 70 = .ok (.iconst 0, 1) := by decide +kernel
theorem dX4_find_71 : decode cX4_find 71 = .ok (.iadd, 1) := by decide +kernel
theorem dX4_find_72 : decode cX4_find 72 = .ok (.istore_n 2, 1) := by decide +kernel
theorem dX4_find_73 : decode cX4_find 73 = .ok (.iinc 3 1, 3) := by decide +kernel
theorem dX4_find_76 : decode cX4_find 76 = .ok (.goto (-37), 3) := by decide +kernel
theorem dX4_find_79 : decode cX4_find 79 = .ok (.iload_n 2, 1) := by decide +kernel
theorem dX4_find_80 : decode cX4_find 80 = .ok (.ireturn, 1) := by decide +kernel
set_option maxRecDepth 20000 in
theorem ggX4_findIn_X4_isAny : GoodIn wsX4_findIn wsX4_isAny := goodIn_r _ [8, 9, 10, 11, 7, 12, 13, 14, 15, 16, 17, 23, 24, 25, 26, 27, 28, 29, 30, 31, 32, 33, 34, 35] (by decide +kernel) (by decide +kernel)
set_option maxRecDepth 20000 in
theorem gX4_findIn_X4_isAny : GoodIn wsX4_findIn (wsV RX4 116 RX4 yX4_isAny wsX4_isAny) := goodIn_app (goodIn_of _ (by decide +kernel)) ggX4_findIn_X4_isAny
set_option maxRecDepth 20000 in
theorem ggX4_findIn_X4_isIn : GoodIn wsX4_findIn wsX4_isIn := goodIn_r _ [17] (by decide +kernel) (by decide +kernel)
set_option maxRecDepth 20000 in
theorem gX4_findIn_X4_isIn : GoodIn wsX4_findIn (va_wsS RX4 41 yX4_isIn wsX4_isIn) := goodIn_app (goodIn_of _ (by decide +kernel)) ggX4_findIn_X4_isIn
set_option maxRecDepth 20000 in
theorem ggX4_findIn_X4_isFine : GoodIn wsX4_findIn wsX4_isFine := goodIn_r _ [21, 22, 23, 24, 25, 26, 27, 28, 29, 30, 31, 32, 33, 34, 35] (by decide +kernel) (by decide +kernel)
set_option maxRecDepth 20000 in
theorem gX4_findIn_X4_isFine : GoodIn wsX4_findIn (wsV RX4 75 RX4 yX4_isFine wsX4_isFine) := goodIn_app (goodIn_of _ (by decide +kernel)) ggX4_findIn_X4_isFine
theorem dX4_findIn_0 : decode cX4_findIn 0 = .ok (.aload_n 0, 1) := by decide +kernel
theorem dX4_findIn_1 : decode cX4_findIn 1 = .ok (.aload_n 0, 1) := by decide +kernel
theorem dX4_findIn_2 : decode cX4_findIn 2 = .ok (.iload_n 1, 1) := by decide +kernel
theorem dX4_findIn_3 : decode cX4_findIn 3 = .ok (.invokevirtual 116, 3) := by decide +kernel
theorem dX4_findIn_6 : decode cX4_findIn 6 = .ok (.ifCond .ne 7, 3) := by decide +kernel
theorem dX4_findIn_9 : decode cX4_findIn 9 = .ok (.iconst 1, 1) := by decide +kernel
theorem dX4_findIn_10 : decode cX4_findIn 10 = .ok (.goto 18, 3) := by decide +kernel
theorem dX4_findIn_13 : decode cX4_findIn 13 = .ok (.iload_n 2, 1) := by decide +kernel
theorem dX4_findIn_14 : decode cX4_findIn 14 = .ok (.iconst 0, 1) := by decide +kernel
theorem dX4_findIn_15 : decode cX4_findIn 15 = .ok (.bipush 99, 2) := by decide +kernel
theorem dX4_findIn_17 : decode cX4_findIn 17 = .ok (.invokestatic 41, 3) := by decide +kernel
theorem dX4_findIn_20 : decode cX4_findIn 20 = .ok (.ifCond .ne 7, 3) := by decide +kernel
theorem dX4_findIn_23 : decode cX4_findIn 23 = .ok (.iconst 2, 1) := by decide +kernel
theorem dX4_findIn_24 : decode cX4_findIn 24 = .ok (.goto 4, 3) := by decide +kernel
theorem dX4_findIn_27 : decode cX4_findIn 27 = .ok (.iconst 0, 1) := by decide +kernel
theorem dX4_findIn_28 : decode cX4_findIn 28 = .ok (.invokevirtual 75, 3) := by decide +kernel
theorem dX4_findIn_31 : decode cX4_findIn 31 = .ok (.ifCond .ne 5, 3) := by decide +kernel
theorem dX4_findIn_34 : decode cX4_findIn 34 = .ok (.iconst 0, 1) := by decide +kernel
theorem dX4_findIn_35 : decode cX4_findIn 35 = .ok (.ireturn, 1) := by decide +kernel
theorem dX4_findIn_36 : decode cX4_findIn 36 = .ok (.iconst 0, 1) := by decide +kernel
theorem dX4_findIn_37 : decode cX4_findIn 37 = .ok (.istore_n 3, 1) := by decide +kernel
theorem dX4_findIn_38 : decode cX4_findIn 38 = .ok (.iconst 0, 1) := by decide +kernel
theorem dX4_findIn_39 : decode cX4_findIn 39 = .ok (.istore 4, 2) := by decide +kernel
theorem dX4_findIn_41 : decode cX4_findIn 41 = .ok (.iload 4, 2) := by decide +kernel
theorem dX4_findIn_43 : decode cX4_findIn 43 = .ok (.aload_n 0, 1) := by decide +kernel
theorem dX4_findIn_44 : decode cX4_findIn 44 = .ok (.getfield 52, 3) := by decide +kernel
theorem dX4_findIn_47 : decode cX4_findIn 47 = .ok (.if_icmp .ge 39, 3) := by decide +kernel
theorem dX4_findIn_50 : decode cX4_findIn 50 = .ok (.iload_n 3, 1) := by decide +kernel
theorem dX4_findIn_51 : decode cX4_findIn 51 = .ok (.aload_n 0, 1) := by decide +kernel
theorem dX4_findIn_52 : decode cX4_findIn 52 = .ok (.getfield 25, 3) := by decide +kernel
theorem dX4_findIn_55 : decode cX4_findIn 55 = .ok (.iload 4, 2) := by decide +kernel
theorem dX4_findIn_57 : decode cX4_findIn 57 = .ok (.iaload, 1) := by decide +kernel
theorem dX4_findIn_58 : decode cX4_findIn 58 = .ok (.iload_n 1, 1) := by decide +kernel
theorem dX4_findIn_59 : decode cX4_findIn 59 = .ok (.if_icmp .ne 18, 3) := by decide +kernel
theorem dX4_findIn_62 : decode cX4_findIn 62 = .ok (.aload_n 0, 1) := by decide +kernel
theorem dX4_findIn_63 : decode cX4_findIn 63 = .ok (.getfield 34, 3) := by decide +kernel
theorem dX4_findIn_66 : decode cX4_findIn 66 = .ok (.iload 4, 2) := by decide +kernel
theorem dX4_findIn_68 : decode cX4_findIn 68 = .ok (.iaload, 1) := by decide +kernel
theorem dX4_findIn_69 : decode cX4_findIn 69 = .ok (.iload_n 2, 1) := by decide +kernel
theorem dX4_findIn_70 : decode cX4_findIn 70 = .ok (.if_icmp .ne 7, 3) := by decide +kernel
theorem dX4_findIn_73 : decode cX4_findIn 73 = .ok (.iconst 1, 1) := by decide +kernel
theorem dX4_findIn_74 : decode cX4_findIn 74 = .ok (.goto 4, 3) := by decide +kernel
theorem dX4_findIn_77 : decode cX4_findIn 77 = .ok (.iconst 0, 1) := by decide +kernel
theorem dX4_findIn_78 : decode cX4_findIn 78 = .ok (.iadd, 1) := by decide +kernel
theorem dX4_findIn_79 : decode cX4_findIn 79 = .ok (.istore_n 3, 1) := by decide +kernel
theorem dX4_findIn_80 : decode cX4_findIn 80 = .ok (.iinc 4 1, 3) := by decide +kernel
theorem dX4_findIn_83 : decode cX4_findIn 83 = .ok (.goto (-42), 3) := by decide +kernel
theorem dX4_findIn_86 : decode cX4_findIn 86 = .ok (.iload_n 3, 1) := by decide +kernel
theorem dX4_findIn_87 : decode cX4_findIn 87 = .ok (.ireturn, 1) := by decide +kernel
theorem dJ9_max_7cf53_0 : decode cJ9_max_7cf53 0 = .ok (.iload_n 0, 1) := by decide +kernel
theorem dJ9_max_7cf53_1 : decode cJ9_max_7cf53 1 = .ok (.iload_n 1, 1) := by decide +kernel
theorem dJ9_max_7cf53_2 : decode cJ9_max_7cf53 2 = .ok (.if_icmp .lt 7, 3) := by decide +kernel
theorem dJ9_max_7cf53_5 : decode cJ9_max_7cf53 5 = .ok (.iload_n 0, 1) := by decide +kernel
theorem dJ9_max_7cf53_6 : decode cJ9_max_7cf53 6 = .ok (.goto 4, 3) := by decide +kernel
theorem dJ9_max_7cf53_9 : decode cJ9_max_7cf53 9 = .ok (.iload_n 1, 1) := by decide +kernel
theorem dJ9_max_7cf53_10 : decode cJ9_max_7cf53 10 = .ok (.ireturn, 1) := by decide +kernel
theorem dJ9_min_7cf53_0 : decode cJ9_min_7cf53 0 = .ok (.iload_n 0, 1) := by decide +kernel
theorem dJ9_min_7cf53_1 : decode cJ9_min_7cf53 1 = .ok (.iload_n 1, 1) := by decide +kernel
theorem dJ9_min_7cf53_2 : decode cJ9_min_7cf53 2 = .ok (.if_icmp .gt 7, 3) := by decide +kernel
theorem dJ9_min_7cf53_5 : decode cJ9_min_7cf53 5 = .ok (.iload_n 0, 1) := by decide +kernel
theorem dJ9_min_7cf53_6 : decode cJ9_min_7cf53 6 = .ok (.goto 4, 3) := by decide +kernel
theorem dJ9_min_7cf53_9 : decode cJ9_min_7cf53 9 = .ok (.iload_n 1, 1) := by decide +kernel
theorem dJ9_min_7cf53_10 : decode cJ9_min_7cf53 10 = .ok (.ireturn, 1) := by decide +kernel
end
section
set_option maxRecDepth 20000 in
theorem ggL_makePart_X3_makePart : GoodIn wsL_makePart wsX3_makePart := goodIn_ca (goodIn_ca (goodIn_r _ [7, 8, 9, 10, 11, 6, 12, 13, 14, 15, 16, 17, 18, 19, 20, 21, 22, 23, 24, 25, 26, 27, 28, 29, 30, 31, 32, 33, 34, 35, 36, 37, 38, 39, 40, 41, 42, 43, 44, 45, 46, 47, 48, 49, 50, 51, 52, 53, 54, 55, 56, 57, 58, 59, 60, 61, 62, 63, 64, 65, 66, 67, 68, 69, 70, 71, 72, 73, 74, 75, 76, 77, 78, 79, 80, 81, 82, 83, 84, 85, 86, 87, 88, 89] (by decide +kernel) (by decide +kernel)) (goodIn_sub (fun _ h => List.mem_cons_of_mem _ (List.mem_append_left _ (List.mem_append_right _ h))) (by decide +kernel))) (goodIn_sub (fun _ h => List.mem_cons_of_mem _ (List.mem_append_right _ h)) (by decide +kernel))
set_option maxRecDepth 20000 in
theorem gL_makePart_X3_makePart : GoodIn wsL_makePart (wsV RL 7 RX3 yX3_makePart wsX3_makePart) := goodIn_app (goodIn_of _ (by decide +kernel)) ggL_makePart_X3_makePart
theorem dL_makePart_0 : decode cL_makePart 0 = .ok (.aload 5, 2) := by decide +kernel
theorem dL_makePart_2 : decode cL_makePart 2 = .ok (.iconst 0, 1) := by decide +kernel
theorem dL_makePart_3 : decode cL_makePart 3 = .ok (.aload_n 0, 1) := by decide +kernel
theorem dL_makePart_4 : decode cL_makePart 4 = .ok (.iload_n 1, 1) := by decide +kernel
theorem dL_makePart_5 : decode cL_makePart 5 = .ok (.iload_n 2, 1) := by decide +kernel
theorem dL_makePart_6 : decode cL_makePart 6 = .ok (.iload_n 3, 1) := by decide +kernel
theorem dL_makePart_7 : decode cL_makePart 7 = .ok (.iload 4, 2) := by decide +kernel
theorem dL_makePart_9 : decode cL_makePart 9 = .ok (.invokevirtual 7, 3) := by decide +kernel
theorem dL_makePart_12 : decode cL_makePart 12 = .ok (.i2l, 1) := by decide +kernel
theorem dL_makePart_13 : decode cL_makePart 13 = .ok (.lastore, 1) := by decide +kernel
theorem dL_makePart_14 : decode cL_makePart 14 = .ok (.goto 11, 3) := by decide +kernel
theorem dL_makePart_17 : decode cL_makePart 17 = .ok (.astore 6, 2) := by decide +kernel
theorem dL_makePart_19 : decode cL_makePart 19 = .ok (.iconst 1, 1) := by decide +kernel
theorem dL_makePart_20 : decode cL_makePart 20 = .ok (.ireturn, 1) := by decide +kernel
theorem dL_makePart_21 : decode cL_makePart 21 = .ok (.astore 6, 2) := by decide +kernel
theorem dL_makePart_23 : decode cL_makePart 23 = .ok (.iconst 2, 1) := by decide +kernel
theorem dL_makePart_24 : decode cL_makePart 24 = .ok (.ireturn, 1) := by decide +kernel
theorem dL_makePart_25 : decode cL_makePart 25 = .ok (.iconst 0, 1) := by decide +kernel
theorem dL_makePart_26 : decode cL_makePart 26 = .ok (.ireturn, 1) := by decide +kernel
set_option maxRecDepth 20000 in
theorem ggL_carveOut_X3_carveOut : GoodIn wsL_carveOut wsX3_carveOut := goodIn_ca (goodIn_ca (goodIn_r _ [7, 8, 9, 10, 11, 6, 12, 13, 14, 15, 16, 17, 18, 19, 20, 21, 22, 23, 24, 25, 26, 27, 28, 29, 30, 31, 32, 33, 34, 35, 36, 37, 38, 39, 40, 41, 42, 43, 44, 45, 46, 47, 48, 49, 50, 51, 52, 53, 54, 55, 56, 57, 58, 59, 60, 61, 62, 63, 64, 65, 66, 67, 68, 69, 70, 71, 72, 73, 74, 75, 76, 77, 78, 79, 80, 81, 82, 83, 84, 85, 86, 87, 88, 89, 90, 91, 92, 93] (by decide +kernel) (by decide +kernel)) (goodIn_sub (fun _ h => List.mem_cons_of_mem _ (List.mem_append_left _ (List.mem_append_right _ h))) (by decide +kernel))) (goodIn_sub (fun _ h => List.mem_cons_of_mem _ (List.mem_append_right _ h)) (by decide +kernel))
set_option maxRecDepth 20000 in
theorem gL_carveOut_X3_carveOut : GoodIn wsL_carveOut (wsV RL 17 RX3 yX3_carveOut wsX3_carveOut) := goodIn_app (goodIn_of _ (by decide +kernel)) ggL_carveOut_X3_carveOut
theorem dL_carveOut_0 : decode cL_carveOut 0 = .ok (.aload 5, 2) := by decide +kernel
theorem dL_carveOut_2 : decode cL_carveOut 2 = .ok (.iconst 0, 1) := by decide +kernel
theorem dL_carveOut_3 : decode cL_carveOut 3 = .ok (.aload_n 0, 1) := by decide +kernel
theorem dL_carveOut_4 : decode cL_carveOut 4 = .ok (.iload_n 1, 1) := by decide +kernel
theorem dL_carveOut_5 : decode cL_carveOut 5 = .ok (.iload_n 2, 1) := by decide +kernel
theorem dL_carveOut_6 : decode cL_carveOut 6 = .ok (.iload_n 3, 1) := by decide +kernel
theorem dL_carveOut_7 : decode cL_carveOut 7 = .ok (.iload 4, 2) := by decide +kernel
theorem dL_carveOut_9 : decode cL_carveOut 9 = .ok (.invokevirtual 17, 3) := by decide +kernel
theorem dL_carveOut_12 : decode cL_carveOut 12 = .ok (.i2l, 1) := by decide +kernel
theorem dL_carveOut_13 : decode cL_carveOut 13 = .ok (.lastore, 1) := by decide +kernel
theorem dL_carveOut_14 : decode cL_carveOut 14 = .ok (.goto 11, 3) := by decide +kernel
theorem dL_carveOut_17 : decode cL_carveOut 17 = .ok (.astore 6, 2) := by decide +kernel
theorem dL_carveOut_19 : decode cL_carveOut 19 = .ok (.iconst 1, 1) := by decide +kernel
theorem dL_carveOut_20 : decode cL_carveOut 20 = .ok (.ireturn, 1) := by decide +kernel
theorem dL_carveOut_21 : decode cL_carveOut 21 = .ok (.astore 6, 2) := by decide +kernel
theorem dL_carveOut_23 : decode cL_carveOut 23 = .ok (.iconst 2, 1) := by decide +kernel
theorem dL_carveOut_24 : decode cL_carveOut 24 = .ok (.ireturn, 1) := by decide +kernel
theorem dL_carveOut_25 : decode cL_carveOut 25 = .ok (.iconst 0, 1) := by decide +kernel
theorem dL_carveOut_26 : decode cL_carveOut 26 = .ok (.ireturn, 1) := by decide +kernel
set_option maxRecDepth 20000 in
theorem ggL_split_X3_split : GoodIn wsL_split wsX3_split := goodIn_ca (goodIn_ca (goodIn_ca (goodIn_r _ [8, 9, 10, 11, 12, 13, 14, 15, 16, 17, 18, 7, 19, 20, 21, 22, 23, 24, 25, 26, 27, 28, 29, 30, 31, 32, 33, 34, 35, 36, 37, 38, 39, 40, 41, 42, 43, 44, 45, 46, 47, 48, 49, 50, 51, 52, 53, 54, 55, 56, 57, 58, 59, 60, 61, 62, 63, 64, 65, 66, 67, 68, 69, 70, 71, 72, 73, 74, 75, 76, 77, 78, 79, 80, 81, 82, 83, 84, 85, 86, 87, 88, 89, 90, 91, 92, 93, 94, 95, 96, 97, 98, 99, 100, 101, 102, 103] (by decide +kernel) (by decide +kernel)) (goodIn_sub (fun _ h => List.mem_cons_of_mem _ (List.mem_append_left _ (List.mem_append_left _ (List.mem_append_right _ h)))) (by decide +kernel))) (goodIn_sub (fun _ h => List.mem_cons_of_mem _ (List.mem_append_left _ (List.mem_append_right _ h))) (by decide +kernel))) (goodIn_sub (fun _ h => List.mem_cons_of_mem _ (List.mem_append_right _ h)) (by decide +kernel))
set_option maxRecDepth 20000 in
theorem gL_split_X3_split : GoodIn wsL_split (wsV RL 20 RX3 yX3_split wsX3_split) := goodIn_app (goodIn_of _ (by decide +kernel)) ggL_split_X3_split
theorem dL_split_0 : decode cL_split 0 = .ok (.aload_n 3, 1) := by decide +kernel
theorem dL_split_1 : decode cL_split 1 = .ok (.iconst 0, 1) := by decide +kernel
theorem dL_split_2 : decode cL_split 2 = .ok (.aload_n 0, 1) := by decide +kernel
theorem dL_split_3 : decode cL_split 3 = .ok (.iload_n 1, 1) := by decide +kernel
theorem dL_split_4 : decode cL_split 4 = .ok (.iload_n 2, 1) := by decide +kernel
theorem dL_split_5 : decode cL_split 5 = .ok (.invokevirtual 20, 3) := by decide +kernel
theorem dL_split_8 : decode cL_split 8 = .ok (.i2l, 1) := by decide +kernel
theorem dL_split_9 : decode cL_split 9 = .ok (.lastore, 1) := by decide +kernel
theorem dL_split_10 : decode cL_split 10 = .ok (.goto 15, 3) := by decide +kernel
theorem dL_split_13 : decode cL_split 13 = .ok (.astore 4, 2) := by decide +kernel
theorem dL_split_15 : decode cL_split 15 = .ok (.iconst 1, 1) := by decide +kernel
theorem dL_split_16 : decode cL_split 16 = .ok (.ireturn, 1) := by decide +kernel
theorem dL_split_17 : decode cL_split 17 = .ok (.astore 4, 2) := by decide +kernel
theorem dL_split_19 : decode cL_split 19 = .ok (.iconst 2, 1) := by decide +kernel
theorem dL_split_20 : decode cL_split 20 = .ok (.ireturn, 1) := by decide +kernel
theorem dL_split_21 : decode cL_split 21 = .ok (.astore 4, 2) := by decide +kernel
theorem dL_split_23 : decode cL_split 23 = .ok (.iconst 3, 1) := by decide +kernel
theorem dL_split_24 : decode cL_split 24 = .ok (.ireturn, 1) := by decide +kernel
theorem dL_split_25 : decode cL_split 25 = .ok (.iconst 0, 1) := by decide +kernel
theorem dL_split_26 : decode cL_split 26 = .ok (.ireturn, 1) := by decide +kernel
set_option maxRecDepth 20000 in
theorem ggL_merge_X3_merge : GoodIn wsL_merge wsX3_merge := goodIn_ca (goodIn_ca (goodIn_r _ [7, 8, 9, 10, 11, 12, 13, 14, 15, 16, 17, 6, 18, 19, 20, 21, 22, 23, 24, 25, 26, 27, 28, 29, 30, 31, 32, 33, 34, 35, 36, 37, 38, 39, 40, 41, 42, 43, 44, 45, 46, 47, 48, 49, 50, 51, 52, 53, 54, 55, 56, 57, 58, 59, 60, 61, 62, 63, 64, 65, 66, 67] (by decide +kernel) (by decide +kernel)) (goodIn_sub (fun _ h => List.mem_cons_of_mem _ (List.mem_append_left _ (List.mem_append_right _ h))) (by decide +kernel))) (goodIn_sub (fun _ h => List.mem_cons_of_mem _ (List.mem_append_right _ h)) (by decide +kernel))
set_option maxRecDepth 20000 in
theorem gL_merge_X3_merge : GoodIn wsL_merge (wsV RL 26 RX3 yX3_merge wsX3_merge) := goodIn_app (goodIn_of _ (by decide +kernel)) ggL_merge_X3_merge
theorem dL_merge_0 : decode cL_merge 0 = .ok (.aload_n 3, 1) := by decide +kernel
theorem dL_merge_1 : decode cL_merge 1 = .ok (.iconst 0, 1) := by decide +kernel
theorem dL_merge_2 : decode cL_merge 2 = .ok (.aload_n 0, 1) := by decide +kernel
theorem dL_merge_3 : decode cL_merge 3 = .ok (.iload_n 1, 1) := by decide +kernel
theorem dL_merge_4 : decode cL_merge 4 = .ok (.iload_n 2, 1) := by decide +kernel
theorem dL_merge_5 : decode cL_merge 5 = .ok (.invokevirtual 26, 3) := by decide +kernel
theorem dL_merge_8 : decode cL_merge 8 = .ok (.i2l, 1) := by decide +kernel
theorem dL_merge_9 : decode cL_merge 9 = .ok (.lastore, 1) := by decide +kernel
theorem dL_merge_10 : decode cL_merge 10 = .ok (.goto 11, 3) := by decide +kernel
theorem dL_merge_13 : decode cL_merge 13 = .ok (.astore 4, 2) := by decide +kernel
theorem dL_merge_15 : decode cL_merge 15 = .ok (.iconst 1, 1) := by decide +kernel
theorem dL_merge_16 : decode cL_merge 16 = .ok (.ireturn, 1) := by decide +kernel
theorem dL_merge_17 : decode cL_merge 17 = .ok (.astore 4, 2) := by decide +kernel
theorem dL_merge_19 : decode cL_merge 19 = .ok (.iconst 2, 1) := by decide +kernel
theorem dL_merge_20 : decode cL_merge 20 = .ok (.ireturn, 1) := by decide +kernel
theorem dL_merge_21 : decode cL_merge 21 = .ok (.iconst 0, 1) := by decide +kernel
theorem dL_merge_22 : decode cL_merge 22 = .ok (.ireturn, 1) := by decide +kernel
set_option maxRecDepth 20000 in
theorem ggL_detach_X3_detach : GoodIn wsL_detach wsX3_detach := goodIn_ca (goodIn_ca (goodIn_r _ [7, 8, 9, 10, 11, 12, 6, 13, 14, 15, 16, 17, 18, 19, 20, 21, 22, 23, 24, 25, 26, 27, 28, 29, 30, 31, 32, 33, 34, 35, 36, 37, 38, 39, 40, 41, 42, 43, 44, 45, 46, 47, 48, 49, 50, 51, 52] (by decide +kernel) (by decide +kernel)) (goodIn_sub (fun _ h => List.mem_cons_of_mem _ (List.mem_append_left _ (List.mem_append_right _ h))) (by decide +kernel))) (goodIn_sub (fun _ h => List.mem_cons_of_mem _ (List.mem_append_right _ h)) (by decide +kernel))
set_option maxRecDepth 20000 in
theorem gL_detach_X3_detach : GoodIn wsL_detach (wsV RL 29 RX3 yX3_detach wsX3_detach) := goodIn_app (goodIn_of _ (by decide +kernel)) ggL_detach_X3_detach
theorem dL_detach_0 : decode cL_detach 0 = .ok (.aload_n 2, 1) := by decide +kernel
theorem dL_detach_1 : decode cL_detach 1 = .ok (.iconst 0, 1) := by decide +kernel
theorem dL_detach_2 : decode cL_detach 2 = .ok (.aload_n 0, 1) := by decide +kernel
theorem dL_detach_3 : decode cL_detach 3 = .ok (.iload_n 1, 1) := by decide +kernel
theorem dL_detach_4 : decode cL_detach 4 = .ok (.invokevirtual 29, 3) := by decide +kernel
theorem dL_detach_7 : decode cL_detach 7 = .ok (.i2l, 1) := by decide +kernel
theorem dL_detach_8 : decode cL_detach 8 = .ok (.lastore, 1) := by decide +kernel
theorem dL_detach_9 : decode cL_detach 9 = .ok (.goto 9, 3) := by decide +kernel
theorem dL_detach_12 : decode cL_detach 12 = .ok (.astore_n 3, 1) := by decide +kernel
theorem dL_detach_13 : decode cL_detach 13 = .ok (.iconst 1, 1) := by decide +kernel
theorem dL_detach_14 : decode cL_detach 14 = .ok (.ireturn, 1) := by decide +kernel
theorem dL_detach_15 : decode cL_detach 15 = .ok (.astore_n 3, 1) := by decide +kernel
theorem dL_detach_16 : decode cL_detach 16 = .ok (.iconst 2, 1) := by decide +kernel
theorem dL_detach_17 : decode cL_detach 17 = .ok (.ireturn, 1) := by decide +kernel
theorem dL_detach_18 : decode cL_detach 18 = .ok (.iconst 0, 1) := by decide +kernel
theorem dL_detach_19 : decode cL_detach 19 = .ok (.ireturn, 1) := by decide +kernel
set_option maxRecDepth 20000 in
theorem ggL_attach_X3_attach : GoodIn wsL_attach wsX3_attach := goodIn_ca (goodIn_ca (goodIn_r _ [7, 8, 9, 10, 11, 12, 6, 13, 14, 15, 16, 17, 18, 19, 20, 21, 22, 23, 24, 25, 26, 27, 28, 29, 30, 31, 32, 33, 34, 35, 36, 37, 38, 39, 40, 41, 42, 43, 44, 45, 46, 47, 48, 49, 50, 51, 52, 53, 54, 55, 56, 57, 58, 59, 60, 61, 62, 63, 64, 65, 66, 67, 68, 69, 70, 71, 72] (by decide +kernel) (by decide +kernel)) (goodIn_sub (fun _ h => List.mem_cons_of_mem _ (List.mem_append_left _ (List.mem_append_right _ h))) (by decide +kernel))) (goodIn_sub (fun _ h => List.mem_cons_of_mem _ (List.mem_append_right _ h)) (by decide +kernel))
set_option maxRecDepth 20000 in
theorem gL_attach_X3_attach : GoodIn wsL_attach (wsV RL 33 RX3 yX3_attach wsX3_attach) := goodIn_app (goodIn_of _ (by decide +kernel)) ggL_attach_X3_attach
theorem dL_attach_0 : decode cL_attach 0 = .ok (.aload_n 2, 1) := by decide +kernel
theorem dL_attach_1 : decode cL_attach 1 = .ok (.iconst 0, 1) := by decide +kernel
theorem dL_attach_2 : decode cL_attach 2 = .ok (.aload_n 0, 1) := by decide +kernel
theorem dL_attach_3 : decode cL_attach 3 = .ok (.iload_n 1, 1) := by decide +kernel
theorem dL_attach_4 : decode cL_attach 4 = .ok (.invokevirtual 33, 3) := by decide +kernel
theorem dL_attach_7 : decode cL_attach 7 = .ok (.i2l, 1) := by decide +kernel
theorem dL_attach_8 : decode cL_attach 8 = .ok (.lastore, 1) := by decide +kernel
theorem dL_attach_9 : decode cL_attach 9 = .ok (.goto 9, 3) := by decide +kernel
theorem dL_attach_12 : decode cL_attach 12 = .ok (.astore_n 3, 1) := by decide +kernel
theorem dL_attach_13 : decode cL_attach 13 = .ok (.iconst 1, 1) := by decide +kernel
theorem dL_attach_14 : decode cL_attach 14 = .ok (.ireturn, 1) := by decide +kernel
theorem dL_attach_15 : decode cL_attach 15 = .ok (.astore_n 3, 1) := by decide +kernel
theorem dL_attach_16 : decode cL_attach 16 = .ok (.iconst 2, 1) := by decide +kernel
theorem dL_attach_17 : decode cL_attach 17 = .ok (.ireturn, 1) := by decide +kernel
theorem dL_attach_18 : decode cL_attach 18 = .ok (.iconst 0, 1) := by decide +kernel
theorem dL_attach_19 : decode cL_attach 19 = .ok (.ireturn, 1) := by decide +kernel
set_option maxRecDepth 20000 in
theorem ggL_exchange_X3_exchange : GoodIn wsL_exchange wsX3_exchange := goodIn_ca (goodIn_ca (goodIn_r _ [7, 8, 9, 10, 11, 6, 12, 13, 14, 15, 16, 17, 18, 19, 20, 21, 22, 23, 24, 25, 26, 27, 28, 29, 30, 31, 32, 33, 34, 35, 36, 37, 38, 39, 40, 41, 42, 43, 44, 45, 46, 47, 48, 49, 50, 51, 52, 53, 54, 55, 56, 57, 58, 59, 60, 61, 62, 63, 64, 65, 66, 67, 68, 69, 70, 71] (by decide +kernel) (by decide +kernel)) (goodIn_sub (fun _ h => List.mem_cons_of_mem _ (List.mem_append_left _ (List.mem_append_right _ h))) (by decide +kernel))) (goodIn_sub (fun _ h => List.mem_cons_of_mem _ (List.mem_append_right _ h)) (by decide +kernel))
set_option maxRecDepth 20000 in
theorem gL_exchange_X3_exchange : GoodIn wsL_exchange (wsV RL 36 RX3 yX3_exchange wsX3_exchange) := goodIn_app (goodIn_of _ (by decide +kernel)) ggL_exchange_X3_exchange
theorem dL_exchange_0 : decode cL_exchange 0 = .ok (.aload_n 3, 1) := by decide +kernel
theorem dL_exchange_1 : decode cL_exchange 1 = .ok (.iconst 0, 1) := by decide +kernel
theorem dL_exchange_2 : decode cL_exchange 2 = .ok (.aload_n 0, 1) := by decide +kernel
theorem dL_exchange_3 : decode cL_exchange 3 = .ok (.iload_n 1, 1) := by decide +kernel
theorem dL_exchange_4 : decode cL_exchange 4 = .ok (.iload_n 2, 1) := by decide +kernel
theorem dL_exchange_5 : decode cL_exchange 5 = .ok (.invokevirtual 36, 3) := by decide +kernel
theorem dL_exchange_8 : decode cL_exchange 8 = .ok (.i2l, 1) := by decide +kernel
theorem dL_exchange_9 : decode cL_exchange 9 = .ok (.lastore, 1) := by decide +kernel
theorem dL_exchange_10 : decode cL_exchange 10 = .ok (.goto 11, 3) := by decide +kernel
theorem dL_exchange_13 : decode cL_exchange 13 = .ok (.astore 4, 2) := by decide +kernel
theorem dL_exchange_15 : decode cL_exchange 15 = .ok (.iconst 1, 1) := by decide +kernel
theorem dL_exchange_16 : decode cL_exchange 16 = .ok (.ireturn, 1) := by decide +kernel
theorem dL_exchange_17 : decode cL_exchange 17 = .ok (.astore 4, 2) := by decide +kernel
theorem dL_exchange_19 : decode cL_exchange 19 = .ok (.iconst 2, 1) := by decide +kernel
theorem dL_exchange_20 : decode cL_exchange 20 = .ok (.ireturn, 1) := by decide +kernel
theorem dL_exchange_21 : decode cL_exchange 21 = .ok (.iconst 0, 1) := by decide +kernel
theorem dL_exchange_22 : decode cL_exchange 22 = .ok (.ireturn, 1) := by decide +kernel
set_option maxRecDepth 20000 in
theorem ggL_insert_X3_insert : GoodIn wsL_insert wsX3_insert := goodIn_ca (goodIn_ca (goodIn_r _ [7, 8, 9, 10, 11, 12, 13, 14, 15, 16, 6, 17, 18, 19, 20, 21, 22, 23, 24, 25, 26, 27, 28, 29, 30, 31, 32, 33, 34, 35, 36, 37, 38, 39, 40, 41, 42, 43, 44, 45, 46, 47, 48, 49, 50, 51, 52, 53, 54, 55, 56, 57, 58, 59, 60, 61, 62, 63, 64, 65] (by decide +kernel) (by decide +kernel)) (goodIn_sub (fun _ h => List.mem_cons_of_mem _ (List.mem_append_left _ (List.mem_append_right _ h))) (by decide +kernel))) (goodIn_sub (fun _ h => List.mem_cons_of_mem _ (List.mem_append_right _ h)) (by decide +kernel))
set_option maxRecDepth 20000 in
theorem gL_insert_X3_insert : GoodIn wsL_insert (wsV RL 39 RX3 yX3_insert wsX3_insert) := goodIn_app (goodIn_of _ (by decide +kernel)) ggL_insert_X3_insert
theorem dL_insert_0 : decode cL_insert 0 = .ok (.aload 4, 2) := by decide +kernel
theorem dL_insert_2 : decode cL_insert 2 = .ok (.iconst 0, 1) := by decide +kernel
theorem dL_insert_3 : decode cL_insert 3 = .ok (.aload_n 0, 1) := by decide +kernel
theorem dL_insert_4 : decode cL_insert 4 = .ok (.iload_n 1, 1) := by decide +kernel
theorem dL_insert_5 : decode cL_insert 5 = .ok (.iload_n 2, 1) := by decide +kernel
theorem dL_insert_6 : decode cL_insert 6 = .ok (.iload_n 3, 1) := by decide +kernel
theorem dL_insert_7 : decode cL_insert 7 = .ok (.invokevirtual 39, 3) := by decide +kernel
theorem dL_insert_10 : decode cL_insert 10 = .ok (.i2l, 1) := by decide +kernel
theorem dL_insert_11 : decode cL_insert 11 = .ok (.lastore, 1) := by decide +kernel
theorem dL_insert_12 : decode cL_insert 12 = .ok (.goto 11, 3) := by decide +kernel
theorem dL_insert_15 : decode cL_insert 15 = .ok (.astore 5, 2) := by decide +kernel
theorem dL_insert_17 : decode cL_insert 17 = .ok (.iconst 1, 1) := by decide +kernel
theorem dL_insert_18 : decode cL_insert 18 = .ok (.ireturn, 1) := by decide +kernel
theorem dL_insert_19 : decode cL_insert 19 = .ok (.astore 5, 2) := by decide +kernel
theorem dL_insert_21 : decode cL_insert 21 = .ok (.iconst 2, 1) := by decide +kernel
theorem dL_insert_22 : decode cL_insert 22 = .ok (.ireturn, 1) := by decide +kernel
theorem dL_insert_23 : decode cL_insert 23 = .ok (.iconst 0, 1) := by decide +kernel
theorem dL_insert_24 : decode cL_insert 24 = .ok (.ireturn, 1) := by decide +kernel
set_option maxRecDepth 20000 in
theorem ggL_change_X3_change : GoodIn wsL_change wsX3_change := goodIn_ca (goodIn_ca (goodIn_ca (goodIn_r _ [8, 9, 10, 11, 12, 13, 14, 7, 15, 16, 17, 18, 19, 20, 21, 22, 23, 24, 25, 26, 27, 28, 29, 30, 31, 32, 33, 34, 35, 36, 37, 38, 39, 40, 41, 42, 43, 44, 45, 46, 47, 48, 49, 50, 51, 52, 53, 54, 55, 56, 57, 58, 59, 60, 61, 62, 63, 64, 65, 66, 67, 68, 69, 70, 71, 72, 73, 74, 75, 76, 77, 78, 79, 80, 81, 82] (by decide +kernel) (by decide +kernel)) (goodIn_sub (fun _ h => List.mem_cons_of_mem _ (List.mem_append_left _ (List.mem_append_left _ (List.mem_append_right _ h)))) (by decide +kernel))) (goodIn_sub (fun _ h => List.mem_cons_of_mem _ (List.mem_append_left _ (List.mem_append_right _ h))) (by decide +kernel))) (goodIn_sub (fun _ h => List.mem_cons_of_mem _ (List.mem_append_right _ h)) (by decide +kernel))
set_option maxRecDepth 20000 in
theorem gL_change_X3_change : GoodIn wsL_change (wsV RL 43 RX3 yX3_change wsX3_change) := goodIn_app (goodIn_of _ (by decide +kernel)) ggL_change_X3_change
theorem dL_change_0 : decode cL_change 0 = .ok (.aload 4, 2) := by decide +kernel
theorem dL_change_2 : decode cL_change 2 = .ok (.iconst 0, 1) := by decide +kernel
theorem dL_change_3 : decode cL_change 3 = .ok (.aload_n 0, 1) := by decide +kernel
theorem dL_change_4 : decode cL_change 4 = .ok (.iload_n 1, 1) := by decide +kernel
theorem dL_change_5 : decode cL_change 5 = .ok (.iload_n 2, 1) := by decide +kernel
theorem dL_change_6 : decode cL_change 6 = .ok (.iload_n 3, 1) := by decide +kernel
theorem dL_change_7 : decode cL_change 7 = .ok (.invokevirtual 43, 3) := by decide +kernel
theorem dL_change_10 : decode cL_change 10 = .ok (.ifCond .eq 7, 3) := by decide +kernel
theorem dL_change_13 : decode cL_change 13 = .ok (.lconst 1, 1) := by decide +kernel
theorem dL_change_14 : decode cL_change 14 = .ok (.goto 4, 3) := by decide +kernel
theorem dL_change_17 : decode cL_change 17 = .ok (.lconst 0, 1) := by decide +kernel
theorem dL_change_18 : decode cL_change 18 = .ok (.lastore, 1) := by decide +kernel
theorem dL_change_19 : decode cL_change 19 = .ok (.goto 15, 3) := by decide +kernel
theorem dL_change_22 : decode cL_change 22 = .ok (.astore 5, 2) := by decide +kernel
theorem dL_change_24 : decode cL_change 24 = .ok (.iconst 1, 1) := by decide +kernel
theorem dL_change_25 : decode cL_change 25 = .ok (.ireturn, 1) := by decide +kernel
theorem dL_change_26 : decode cL_change 26 = .ok (.astore 5, 2) := by decide +kernel
theorem dL_change_28 : decode cL_change 28 = .ok (.iconst 2, 1) := by decide +kernel
theorem dL_change_29 : decode cL_change 29 = .ok (.ireturn, 1) := by decide +kernel
theorem dL_change_30 : decode cL_change 30 = .ok (.astore 5, 2) := by decide +kernel
theorem dL_change_32 : decode cL_change 32 = .ok (.iconst 3, 1) := by decide +kernel
theorem dL_change_33 : decode cL_change 33 = .ok (.ireturn, 1) := by decide +kernel
theorem dL_change_34 : decode cL_change 34 = .ok (.iconst 0, 1) := by decide +kernel
theorem dL_change_35 : decode cL_change 35 = .ok (.ireturn, 1) := by decide +kernel
set_option maxRecDepth 20000 in
theorem ggL_remove_X3_remove : GoodIn wsL_remove wsX3_remove := goodIn_ca (goodIn_r _ [6, 7, 8, 9, 10, 11, 5, 12, 13, 14, 15, 16, 17, 18, 19, 20, 21, 22, 23, 24] (by decide +kernel) (by decide +kernel)) (goodIn_sub (fun _ h => List.mem_cons_of_mem _ (List.mem_append_right _ h)) (by decide +kernel))
set_option maxRecDepth 20000 in
theorem gL_remove_X3_remove : GoodIn wsL_remove (wsV RL 47 RX3 yX3_remove wsX3_remove) := goodIn_app (goodIn_of _ (by decide +kernel)) ggL_remove_X3_remove
theorem dL_remove_0 : decode cL_remove 0 = .ok (.aload_n 2, 1) := by decide +kernel
theorem dL_remove_1 : decode cL_remove 1 = .ok (.iconst 0, 1) := by decide +kernel
theorem dL_remove_2 : decode cL_remove 2 = .ok (.aload_n 0, 1) := by decide +kernel
theorem dL_remove_3 : decode cL_remove 3 = .ok (.iload_n 1, 1) := by decide +kernel
theorem dL_remove_4 : decode cL_remove 4 = .ok (.invokevirtual 47, 3) := by decide +kernel
theorem dL_remove_7 : decode cL_remove 7 = .ok (.i2l, 1) := by decide +kernel
theorem dL_remove_8 : decode cL_remove 8 = .ok (.lastore, 1) := by decide +kernel
theorem dL_remove_9 : decode cL_remove 9 = .ok (.goto 6, 3) := by decide +kernel
theorem dL_remove_12 : decode cL_remove 12 = .ok (.astore_n 3, 1) := by decide +kernel
theorem dL_remove_13 : decode cL_remove 13 = .ok (.iconst 1, 1) := by decide +kernel
theorem dL_remove_14 : decode cL_remove 14 = .ok (.ireturn, 1) := by decide +kernel
theorem dL_remove_15 : decode cL_remove 15 = .ok (.iconst 0, 1) := by decide +kernel
theorem dL_remove_16 : decode cL_remove 16 = .ok (.ireturn, 1) := by decide +kernel
set_option maxRecDepth 20000 in
theorem ggL_stateOf_X3_stateOf : GoodIn wsL_stateOf wsX3_stateOf := goodIn_ca (goodIn_r _ [6, 7, 8, 9, 10, 5, 11, 12, 13, 14, 15, 16, 17, 18, 19, 20, 21, 22, 23, 24, 25, 26] (by decide +kernel) (by decide +kernel)) (goodIn_sub (fun _ h => List.mem_cons_of_mem _ (List.mem_append_right _ h)) (by decide +kernel))
set_option maxRecDepth 20000 in
theorem gL_stateOf_X3_stateOf : GoodIn wsL_stateOf (wsV RL 50 RX3 yX3_stateOf wsX3_stateOf) := goodIn_app (goodIn_of _ (by decide +kernel)) ggL_stateOf_X3_stateOf
theorem dL_stateOf_0 : decode cL_stateOf 0 = .ok (.aload_n 2, 1) := by decide +kernel
theorem dL_stateOf_1 : decode cL_stateOf 1 = .ok (.iconst 0, 1) := by decide +kernel
theorem dL_stateOf_2 : decode cL_stateOf 2 = .ok (.aload_n 0, 1) := by decide +kernel
theorem dL_stateOf_3 : decode cL_stateOf 3 = .ok (.iload_n 1, 1) := by decide +kernel
theorem dL_stateOf_4 : decode cL_stateOf 4 = .ok (.invokevirtual 50, 3) := by decide +kernel
theorem dL_stateOf_7 : decode cL_stateOf 7 = .ok (.i2l, 1) := by decide +kernel
theorem dL_stateOf_8 : decode cL_stateOf 8 = .ok (.lastore, 1) := by decide +kernel
theorem dL_stateOf_9 : decode cL_stateOf 9 = .ok (.goto 6, 3) := by decide +kernel
theorem dL_stateOf_12 : decode cL_stateOf 12 = .ok (.astore_n 3, 1) := by decide +kernel
theorem dL_stateOf_13 : decode cL_stateOf 13 = .ok (.iconst 1, 1) := by decide +kernel
theorem dL_stateOf_14 : decode cL_stateOf 14 = .ok (.ireturn, 1) := by decide +kernel
theorem dL_stateOf_15 : decode cL_stateOf 15 = .ok (.iconst 0, 1) := by decide +kernel
theorem dL_stateOf_16 : decode cL_stateOf 16 = .ok (.ireturn, 1) := by decide +kernel
set_option maxRecDepth 20000 in
theorem ggL_partOf_X3_partOf : GoodIn wsL_partOf wsX3_partOf := goodIn_ca (goodIn_r _ [6, 7, 8, 9, 5, 10, 11, 12, 13, 14, 15, 16, 17, 18, 19, 20, 21, 22, 23, 24, 25, 26, 27, 28, 29, 30, 31, 32, 33, 34, 35, 36, 37, 38] (by decide +kernel) (by decide +kernel)) (goodIn_sub (fun _ h => List.mem_cons_of_mem _ (List.mem_append_right _ h)) (by decide +kernel))
set_option maxRecDepth 20000 in
theorem gL_partOf_X3_partOf : GoodIn wsL_partOf (wsV RL 53 RX3 yX3_partOf wsX3_partOf) := goodIn_app (goodIn_of _ (by decide +kernel)) ggL_partOf_X3_partOf
theorem dL_partOf_0 : decode cL_partOf 0 = .ok (.aload_n 2, 1) := by decide +kernel
theorem dL_partOf_1 : decode cL_partOf 1 = .ok (.iconst 0, 1) := by decide +kernel
theorem dL_partOf_2 : decode cL_partOf 2 = .ok (.aload_n 0, 1) := by decide +kernel
theorem dL_partOf_3 : decode cL_partOf 3 = .ok (.iload_n 1, 1) := by decide +kernel
theorem dL_partOf_4 : decode cL_partOf 4 = .ok (.invokevirtual 53, 3) := by decide +kernel
theorem dL_partOf_7 : decode cL_partOf 7 = .ok (.i2l, 1) := by decide +kernel
theorem dL_partOf_8 : decode cL_partOf 8 = .ok (.lastore, 1) := by decide +kernel
theorem dL_partOf_9 : decode cL_partOf 9 = .ok (.goto 6, 3) := by decide +kernel
theorem dL_partOf_12 : decode cL_partOf 12 = .ok (.astore_n 3, 1) := by decide +kernel
theorem dL_partOf_13 : decode cL_partOf 13 = .ok (.iconst 1, 1) := by decide +kernel
theorem dL_partOf_14 : decode cL_partOf 14 = .ok (.ireturn, 1) := by decide +kernel
theorem dL_partOf_15 : decode cL_partOf 15 = .ok (.iconst 0, 1) := by decide +kernel
theorem dL_partOf_16 : decode cL_partOf 16 = .ok (.ireturn, 1) := by decide +kernel
set_option maxRecDepth 20000 in
theorem ggL_leafOf_X3_leafOf : GoodIn wsL_leafOf wsX3_leafOf := goodIn_ca (goodIn_r _ [6, 7, 8, 9, 5, 10, 11, 12, 13, 14, 15, 16, 17, 18, 19, 20, 21, 22, 23, 24, 25, 26, 27, 28, 29, 30, 31, 32, 33, 34, 35, 36, 37, 38, 39, 40, 41, 42, 43, 44, 45, 46, 47, 48, 49, 50, 51] (by decide +kernel) (by decide +kernel)) (goodIn_sub (fun _ h => List.mem_cons_of_mem _ (List.mem_append_right _ h)) (by decide +kernel))
set_option maxRecDepth 20000 in
theorem gL_leafOf_X3_leafOf : GoodIn wsL_leafOf (wsV RL 56 RX3 yX3_leafOf wsX3_leafOf) := goodIn_app (goodIn_of _ (by decide +kernel)) ggL_leafOf_X3_leafOf
theorem dL_leafOf_0 : decode cL_leafOf 0 = .ok (.aload_n 2, 1) := by decide +kernel
theorem dL_leafOf_1 : decode cL_leafOf 1 = .ok (.iconst 0, 1) := by decide +kernel
theorem dL_leafOf_2 : decode cL_leafOf 2 = .ok (.aload_n 0, 1) := by decide +kernel
theorem dL_leafOf_3 : decode cL_leafOf 3 = .ok (.iload_n 1, 1) := by decide +kernel
theorem dL_leafOf_4 : decode cL_leafOf 4 = .ok (.invokevirtual 56, 3) := by decide +kernel
theorem dL_leafOf_7 : decode cL_leafOf 7 = .ok (.i2l, 1) := by decide +kernel
theorem dL_leafOf_8 : decode cL_leafOf 8 = .ok (.lastore, 1) := by decide +kernel
theorem dL_leafOf_9 : decode cL_leafOf 9 = .ok (.goto 6, 3) := by decide +kernel
theorem dL_leafOf_12 : decode cL_leafOf 12 = .ok (.astore_n 3, 1) := by decide +kernel
theorem dL_leafOf_13 : decode cL_leafOf 13 = .ok (.iconst 1, 1) := by decide +kernel
theorem dL_leafOf_14 : decode cL_leafOf 14 = .ok (.ireturn, 1) := by decide +kernel
theorem dL_leafOf_15 : decode cL_leafOf 15 = .ok (.iconst 0, 1) := by decide +kernel
theorem dL_leafOf_16 : decode cL_leafOf 16 = .ok (.ireturn, 1) := by decide +kernel
set_option maxRecDepth 20000 in
theorem ggL_rowsIn_X3_rowsIn : GoodIn wsL_rowsIn wsX3_rowsIn := goodIn_ca (goodIn_r _ [6, 7, 8, 9, 10, 5, 11, 12, 13, 14, 15, 16, 17, 18, 19, 20, 21, 22, 23, 24, 25, 26, 27, 28, 29, 30, 31, 32, 33, 34, 35, 36, 37, 38, 39, 40, 41, 42, 43, 44, 45, 46, 47, 48, 49, 50, 51, 52, 53, 54, 55, 56, 57, 58, 59, 60, 61, 62, 63, 64] (by decide +kernel) (by decide +kernel)) (goodIn_sub (fun _ h => List.mem_cons_of_mem _ (List.mem_append_right _ h)) (by decide +kernel))
set_option maxRecDepth 20000 in
theorem gL_rowsIn_X3_rowsIn : GoodIn wsL_rowsIn (wsV RL 59 RX3 yX3_rowsIn wsX3_rowsIn) := goodIn_app (goodIn_of _ (by decide +kernel)) ggL_rowsIn_X3_rowsIn
theorem dL_rowsIn_0 : decode cL_rowsIn 0 = .ok (.aload_n 3, 1) := by decide +kernel
theorem dL_rowsIn_1 : decode cL_rowsIn 1 = .ok (.iconst 0, 1) := by decide +kernel
theorem dL_rowsIn_2 : decode cL_rowsIn 2 = .ok (.aload_n 0, 1) := by decide +kernel
theorem dL_rowsIn_3 : decode cL_rowsIn 3 = .ok (.iload_n 1, 1) := by decide +kernel
theorem dL_rowsIn_4 : decode cL_rowsIn 4 = .ok (.iload_n 2, 1) := by decide +kernel
theorem dL_rowsIn_5 : decode cL_rowsIn 5 = .ok (.invokevirtual 59, 3) := by decide +kernel
theorem dL_rowsIn_8 : decode cL_rowsIn 8 = .ok (.i2l, 1) := by decide +kernel
theorem dL_rowsIn_9 : decode cL_rowsIn 9 = .ok (.lastore, 1) := by decide +kernel
theorem dL_rowsIn_10 : decode cL_rowsIn 10 = .ok (.goto 7, 3) := by decide +kernel
theorem dL_rowsIn_13 : decode cL_rowsIn 13 = .ok (.astore 4, 2) := by decide +kernel
theorem dL_rowsIn_15 : decode cL_rowsIn 15 = .ok (.iconst 1, 1) := by decide +kernel
theorem dL_rowsIn_16 : decode cL_rowsIn 16 = .ok (.ireturn, 1) := by decide +kernel
theorem dL_rowsIn_17 : decode cL_rowsIn 17 = .ok (.iconst 0, 1) := by decide +kernel
theorem dL_rowsIn_18 : decode cL_rowsIn 18 = .ok (.ireturn, 1) := by decide +kernel
set_option maxRecDepth 20000 in
theorem ggL_count_X3_count : GoodIn wsL_count wsX3_count := goodIn_ca (goodIn_r _ [6, 7, 8, 9, 5, 10, 11, 12, 13, 14, 15, 16, 17, 18, 19, 20, 21, 22, 23, 24, 25, 26, 27, 28, 29, 30, 31, 32, 33, 34, 35, 36, 37, 38, 39, 40, 41, 42, 43, 44, 45, 46, 47, 48, 49, 50, 51, 52, 53, 54, 55, 56, 57, 58, 59, 60, 61, 62, 63, 64, 65, 66, 67, 68, 69, 70, 71, 72, 73, 74, 75, 76, 77, 78, 79, 80, 81, 82, 83, 84, 85, 86, 87, 88, 89, 90, 91, 92, 93, 94, 95, 96, 97, 98, 99, 100, 101, 102, 103, 104, 105, 106, 107, 108, 109, 110, 111, 112, 113, 114, 115, 116, 117, 118, 119, 120, 121, 122, 123, 124, 125, 126, 127, 128, 129, 130, 131, 132, 133] (by decide +kernel) (by decide +kernel)) (goodIn_sub (fun _ h => List.mem_cons_of_mem _ (List.mem_append_right _ h)) (by decide +kernel))
set_option maxRecDepth 20000 in
theorem gL_count_X3_count : GoodIn wsL_count (wsV RL 62 RX3 yX3_count wsX3_count) := goodIn_app (goodIn_of _ (by decide +kernel)) ggL_count_X3_count
theorem dL_count_0 : decode cL_count 0 = .ok (.aload 4, 2) := by decide +kernel
theorem dL_count_2 : decode cL_count 2 = .ok (.iconst 0, 1) := by decide +kernel
theorem dL_count_3 : decode cL_count 3 = .ok (.aload_n 0, 1) := by decide +kernel
theorem dL_count_4 : decode cL_count 4 = .ok (.iload_n 1, 1) := by decide +kernel
theorem dL_count_5 : decode cL_count 5 = .ok (.iload_n 2, 1) := by decide +kernel
theorem dL_count_6 : decode cL_count 6 = .ok (.iload_n 3, 1) := by decide +kernel
theorem dL_count_7 : decode cL_count 7 = .ok (.invokevirtual 62, 3) := by decide +kernel
theorem dL_count_10 : decode cL_count 10 = .ok (.i2l, 1) := by decide +kernel
theorem dL_count_11 : decode cL_count 11 = .ok (.lastore, 1) := by decide +kernel
theorem dL_count_12 : decode cL_count 12 = .ok (.goto 7, 3) := by decide +kernel
theorem dL_count_15 : decode cL_count 15 = .ok (.astore 5, 2) := by decide +kernel
theorem dL_count_17 : decode cL_count 17 = .ok (.iconst 1, 1) := by decide +kernel
theorem dL_count_18 : decode cL_count 18 = .ok (.ireturn, 1) := by decide +kernel
theorem dL_count_19 : decode cL_count 19 = .ok (.iconst 0, 1) := by decide +kernel
theorem dL_count_20 : decode cL_count 20 = .ok (.ireturn, 1) := by decide +kernel
set_option maxRecDepth 20000 in
theorem ggL_countPlain_X3_countPlain : GoodIn wsL_countPlain wsX3_countPlain := goodIn_ca (goodIn_r _ [6, 7, 8, 9, 5, 10, 11, 12, 13, 14, 15, 16, 17, 18, 19, 20, 21, 22, 23, 24, 25, 26, 27, 28, 29, 30, 31, 32, 33, 34, 35, 36, 37, 38, 39, 40, 41, 42, 43, 44, 45, 46, 47, 48, 49, 50, 51, 52, 53, 54, 55, 56, 57, 58, 59, 60, 61, 62, 63, 64] (by decide +kernel) (by decide +kernel)) (goodIn_sub (fun _ h => List.mem_cons_of_mem _ (List.mem_append_right _ h)) (by decide +kernel))
set_option maxRecDepth 20000 in
theorem gL_countPlain_X3_countPlain : GoodIn wsL_countPlain (wsV RL 65 RX3 yX3_countPlain wsX3_countPlain) := goodIn_app (goodIn_of _ (by decide +kernel)) ggL_countPlain_X3_countPlain
theorem dL_countPlain_0 : decode cL_countPlain 0 = .ok (.aload 4, 2) := by decide +kernel
theorem dL_countPlain_2 : decode cL_countPlain 2 = .ok (.iconst 0, 1) := by decide +kernel
theorem dL_countPlain_3 : decode cL_countPlain 3 = .ok (.aload_n 0, 1) := by decide +kernel
theorem dL_countPlain_4 : decode cL_countPlain 4 = .ok (.iload_n 1, 1) := by decide +kernel
theorem dL_countPlain_5 : decode cL_countPlain 5 = .ok (.iload_n 2, 1) := by decide +kernel
theorem dL_countPlain_6 : decode cL_countPlain 6 = .ok (.iload_n 3, 1) := by decide +kernel
theorem dL_countPlain_7 : decode cL_countPlain 7 = .ok (.invokevirtual 65, 3) := by decide +kernel
theorem dL_countPlain_10 : decode cL_countPlain 10 = .ok (.i2l, 1) := by decide +kernel
theorem dL_countPlain_11 : decode cL_countPlain 11 = .ok (.lastore, 1) := by decide +kernel
theorem dL_countPlain_12 : decode cL_countPlain 12 = .ok (.goto 7, 3) := by decide +kernel
theorem dL_countPlain_15 : decode cL_countPlain 15 = .ok (.astore 5, 2) := by decide +kernel
theorem dL_countPlain_17 : decode cL_countPlain 17 = .ok (.iconst 1, 1) := by decide +kernel
theorem dL_countPlain_18 : decode cL_countPlain 18 = .ok (.ireturn, 1) := by decide +kernel
theorem dL_countPlain_19 : decode cL_countPlain 19 = .ok (.iconst 0, 1) := by decide +kernel
theorem dL_countPlain_20 : decode cL_countPlain 20 = .ok (.ireturn, 1) := by decide +kernel
set_option maxRecDepth 20000 in
theorem ggL_read_X3_read : GoodIn wsL_read wsX3_read := goodIn_ca (goodIn_r _ [6, 7, 8, 9, 5, 10, 11, 12, 13, 14, 15, 16, 17, 18, 19, 20, 21, 22, 23, 24, 25, 26, 27, 28, 29, 30, 31, 32, 33, 34, 35, 36, 37, 38, 39, 40, 41, 42, 43, 44, 45, 46, 47, 48, 49, 50, 51, 52, 53, 54, 55, 56, 57, 58, 59, 60, 61, 62, 63, 64, 65, 66, 67, 68, 69, 70, 71, 72, 73, 74, 75, 76, 77, 78, 79, 80, 81, 82, 83, 84, 85, 86, 87, 88, 89, 90, 91, 92, 93, 94, 95, 96, 97, 98, 99, 100, 101, 102, 103] (by decide +kernel) (by decide +kernel)) (goodIn_sub (fun _ h => List.mem_cons_of_mem _ (List.mem_append_right _ h)) (by decide +kernel))
set_option maxRecDepth 20000 in
theorem gL_read_X3_read : GoodIn wsL_read (wsV RL 68 RX3 yX3_read wsX3_read) := goodIn_app (goodIn_of _ (by decide +kernel)) ggL_read_X3_read
theorem dL_read_0 : decode cL_read 0 = .ok (.aload 4, 2) := by decide +kernel
theorem dL_read_2 : decode cL_read 2 = .ok (.iconst 0, 1) := by decide +kernel
theorem dL_read_3 : decode cL_read 3 = .ok (.aload_n 0, 1) := by decide +kernel
theorem dL_read_4 : decode cL_read 4 = .ok (.iload_n 1, 1) := by decide +kernel
theorem dL_read_5 : decode cL_read 5 = .ok (.iload_n 2, 1) := by decide +kernel
theorem dL_read_6 : decode cL_read 6 = .ok (.iload_n 3, 1) := by decide +kernel
theorem dL_read_7 : decode cL_read 7 = .ok (.invokevirtual 68, 3) := by decide +kernel
theorem dL_read_10 : decode cL_read 10 = .ok (.i2l, 1) := by decide +kernel
theorem dL_read_11 : decode cL_read 11 = .ok (.lastore, 1) := by decide +kernel
theorem dL_read_12 : decode cL_read 12 = .ok (.goto 7, 3) := by decide +kernel
theorem dL_read_15 : decode cL_read 15 = .ok (.astore 5, 2) := by decide +kernel
theorem dL_read_17 : decode cL_read 17 = .ok (.iconst 1, 1) := by decide +kernel
theorem dL_read_18 : decode cL_read 18 = .ok (.ireturn, 1) := by decide +kernel
theorem dL_read_19 : decode cL_read 19 = .ok (.iconst 0, 1) := by decide +kernel
theorem dL_read_20 : decode cL_read 20 = .ok (.ireturn, 1) := by decide +kernel
set_option maxRecDepth 20000 in
theorem ggL_matters_X3_matters : GoodIn wsL_matters wsX3_matters := goodIn_ca (goodIn_ca (goodIn_r _ [7, 8, 9, 10, 6, 11, 12, 13, 14, 15, 16, 17, 18, 19, 20, 21, 22, 23, 24, 25, 26, 27, 28, 29, 30, 31, 32, 33, 34, 35, 36, 37, 38, 39, 40, 41, 42, 43, 44, 45, 46, 47, 48, 49, 50, 51, 52, 53, 54, 55, 56, 57, 58, 59, 60, 61, 62, 63, 64, 65, 66, 67, 68, 69, 70, 71, 72, 73, 74, 75, 76, 77, 78, 79, 80, 81, 82, 83, 84, 85, 86, 87, 88, 89, 90, 91, 92, 93, 94, 95, 96, 97, 98, 99, 100, 101, 102, 103, 104, 105, 106, 107, 108, 109, 110, 111, 112, 113, 114] (by decide +kernel) (by decide +kernel)) (goodIn_sub (fun _ h => List.mem_cons_of_mem _ (List.mem_append_left _ (List.mem_append_right _ h))) (by decide +kernel))) (goodIn_sub (fun _ h => List.mem_cons_of_mem _ (List.mem_append_right _ h)) (by decide +kernel))
set_option maxRecDepth 20000 in
theorem gL_matters_X3_matters : GoodIn wsL_matters (wsV RL 71 RX3 yX3_matters wsX3_matters) := goodIn_app (goodIn_of _ (by decide +kernel)) ggL_matters_X3_matters
theorem dL_matters_0 : decode cL_matters 0 = .ok (.aload 6, 2) := by decide +kernel
theorem dL_matters_2 : decode cL_matters 2 = .ok (.iconst 0, 1) := by decide +kernel
theorem dL_matters_3 : decode cL_matters 3 = .ok (.aload_n 0, 1) := by decide +kernel
theorem dL_matters_4 : decode cL_matters 4 = .ok (.iload_n 1, 1) := by decide +kernel
theorem dL_matters_5 : decode cL_matters 5 = .ok (.iload_n 2, 1) := by decide +kernel
theorem dL_matters_6 : decode cL_matters 6 = .ok (.iload_n 3, 1) := by decide +kernel
theorem dL_matters_7 : decode cL_matters 7 = .ok (.iload 4, 2) := by decide +kernel
theorem dL_matters_9 : decode cL_matters 9 = .ok (.iload 5, 2) := by decide +kernel
theorem dL_matters_11 : decode cL_matters 11 = .ok (.invokevirtual 71, 3) := by decide +kernel
theorem dL_matters_14 : decode cL_matters 14 = .ok (.ifCond .eq 7, 3) := by decide +kernel
theorem dL_matters_17 : decode cL_matters 17 = .ok (.lconst 1, 1) := by decide +kernel
theorem dL_matters_18 : decode cL_matters 18 = .ok (.goto 4, 3) := by decide +kernel
theorem dL_matters_21 : decode cL_matters 21 = .ok (.lconst 0, 1) := by decide +kernel
theorem dL_matters_22 : decode cL_matters 22 = .ok (.lastore, 1) := by decide +kernel
theorem dL_matters_23 : decode cL_matters 23 = .ok (.goto 11, 3) := by decide +kernel
theorem dL_matters_26 : decode cL_matters 26 = .ok (.astore 7, 2) := by decide +kernel
theorem dL_matters_28 : decode cL_matters 28 = .ok (.iconst 1, 1) := by decide +kernel
theorem dL_matters_29 : decode cL_matters 29 = .ok (.ireturn, 1) := by decide +kernel
theorem dL_matters_30 : decode cL_matters 30 = .ok (.astore 7, 2) := by decide +kernel
theorem dL_matters_32 : decode cL_matters 32 = .ok (.iconst 2, 1) := by decide +kernel
theorem dL_matters_33 : decode cL_matters 33 = .ok (.ireturn, 1) := by decide +kernel
theorem dL_matters_34 : decode cL_matters 34 = .ok (.iconst 0, 1) := by decide +kernel
theorem dL_matters_35 : decode cL_matters 35 = .ok (.ireturn, 1) := by decide +kernel
set_option maxRecDepth 20000 in
theorem ggL_find_X3_find : GoodIn wsL_find wsX3_find := goodIn_ca (goodIn_ca (goodIn_r _ [7, 8, 9, 10, 11, 12, 13, 14, 6, 15, 16, 17, 18, 19, 20, 21, 22, 23, 24, 25, 26, 27, 28, 29, 30, 31, 32, 33, 34, 35, 36, 37, 38, 39, 40] (by decide +kernel) (by decide +kernel)) (goodIn_sub (fun _ h => List.mem_cons_of_mem _ (List.mem_append_left _ (List.mem_append_right _ h))) (by decide +kernel))) (goodIn_sub (fun _ h => List.mem_cons_of_mem _ (List.mem_append_right _ h)) (by decide +kernel))
set_option maxRecDepth 20000 in
theorem gL_find_X3_find : GoodIn wsL_find (wsV RL 75 RX3 yX3_find wsX3_find) := goodIn_app (goodIn_of _ (by decide +kernel)) ggL_find_X3_find
theorem dL_find_0 : decode cL_find 0 = .ok (.aload_n 2, 1) := by decide +kernel
theorem dL_find_1 : decode cL_find 1 = .ok (.iconst 0, 1) := by decide +kernel
theorem dL_find_2 : decode cL_find 2 = .ok (.aload_n 0, 1) := by decide +kernel
theorem dL_find_3 : decode cL_find 3 = .ok (.iload_n 1, 1) := by decide +kernel
theorem dL_find_4 : decode cL_find 4 = .ok (.invokevirtual 75, 3) := by decide +kernel
theorem dL_find_7 : decode cL_find 7 = .ok (.i2l, 1) := by decide +kernel
theorem dL_find_8 : decode cL_find 8 = .ok (.lastore, 1) := by decide +kernel
theorem dL_find_9 : decode cL_find 9 = .ok (.goto 9, 3) := by decide +kernel
theorem dL_find_12 : decode cL_find 12 = .ok (.astore_n 3, 1) := by decide +kernel
theorem dL_find_13 : decode cL_find 13 = .ok (.iconst 1, 1) := by decide +kernel
theorem dL_find_14 : decode cL_find 14 = .ok (.ireturn, 1) := by decide +kernel
theorem dL_find_15 : decode cL_find 15 = .ok (.astore_n 3, 1) := by decide +kernel
theorem dL_find_16 : decode cL_find 16 = .ok (.iconst 2, 1) := by decide +kernel
theorem dL_find_17 : decode cL_find 17 = .ok (.ireturn, 1) := by decide +kernel
theorem dL_find_18 : decode cL_find 18 = .ok (.iconst 0, 1) := by decide +kernel
theorem dL_find_19 : decode cL_find 19 = .ok (.ireturn, 1) := by decide +kernel
set_option maxRecDepth 20000 in
theorem ggL_findIn_X3_findIn : GoodIn wsL_findIn wsX3_findIn := goodIn_ca (goodIn_ca (goodIn_r _ [7, 8, 9, 10, 11, 12, 13, 6, 14, 15, 16, 17, 18, 19, 20, 21, 22, 23, 24, 25, 26, 27, 28, 29, 30, 31, 32, 33, 34, 35, 36, 37, 38, 39, 40, 41, 42, 43] (by decide +kernel) (by decide +kernel)) (goodIn_sub (fun _ h => List.mem_cons_of_mem _ (List.mem_append_left _ (List.mem_append_right _ h))) (by decide +kernel))) (goodIn_sub (fun _ h => List.mem_cons_of_mem _ (List.mem_append_right _ h)) (by decide +kernel))
set_option maxRecDepth 20000 in
theorem gL_findIn_X3_findIn : GoodIn wsL_findIn (wsV RL 78 RX3 yX3_findIn wsX3_findIn) := goodIn_app (goodIn_of _ (by decide +kernel)) ggL_findIn_X3_findIn
theorem dL_findIn_0 : decode cL_findIn 0 = .ok (.aload_n 3, 1) := by decide +kernel
theorem dL_findIn_1 : decode cL_findIn 1 = .ok (.iconst 0, 1) := by decide +kernel
theorem dL_findIn_2 : decode cL_findIn 2 = .ok (.aload_n 0, 1) := by decide +kernel
theorem dL_findIn_3 : decode cL_findIn 3 = .ok (.iload_n 1, 1) := by decide +kernel
theorem dL_findIn_4 : decode cL_findIn 4 = .ok (.iload_n 2, 1) := by decide +kernel
theorem dL_findIn_5 : decode cL_findIn 5 = .ok (.invokevirtual 78, 3) := by decide +kernel
theorem dL_findIn_8 : decode cL_findIn 8 = .ok (.i2l, 1) := by decide +kernel
theorem dL_findIn_9 : decode cL_findIn 9 = .ok (.lastore, 1) := by decide +kernel
theorem dL_findIn_10 : decode cL_findIn 10 = .ok (.goto 11, 3) := by decide +kernel
theorem dL_findIn_13 : decode cL_findIn 13 = .ok (.astore 4, 2) := by decide +kernel
theorem dL_findIn_15 : decode cL_findIn 15 = .ok (.iconst 1, 1) := by decide +kernel
theorem dL_findIn_16 : decode cL_findIn 16 = .ok (.ireturn, 1) := by decide +kernel
theorem dL_findIn_17 : decode cL_findIn 17 = .ok (.astore 4, 2) := by decide +kernel
theorem dL_findIn_19 : decode cL_findIn 19 = .ok (.iconst 2, 1) := by decide +kernel
theorem dL_findIn_20 : decode cL_findIn 20 = .ok (.ireturn, 1) := by decide +kernel
theorem dL_findIn_21 : decode cL_findIn 21 = .ok (.iconst 0, 1) := by decide +kernel
theorem dL_findIn_22 : decode cL_findIn 22 = .ok (.ireturn, 1) := by decide +kernel
set_option maxRecDepth 20000 in
theorem ggL_law_X3_init : GoodIn wsL_law wsX3_init := goodIn_r _ [9, 10, 11, 12, 13, 14, 15, 16, 17, 18, 19, 20, 21, 22, 23, 24, 25, 26, 27, 28, 29, 637, 638, 639, 640, 641, 642, 618, 619, 620, 621, 622, 623] (by decide +kernel) (by decide +kernel)
set_option maxRecDepth 20000 in
theorem gL_law_X3_init : GoodIn wsL_law (wsX3_init) := ggL_law_X3_init
set_option maxRecDepth 20000 in
theorem ggL_law_X4_init : GoodIn wsL_law wsX4_init := goodIn_r _ [32, 33, 11, 12, 34, 35, 36, 37, 38, 39, 40, 41, 42, 43, 624, 625, 626, 627, 628, 629, 630, 631, 632, 633, 634, 635, 636] (by decide +kernel) (by decide +kernel)
set_option maxRecDepth 20000 in
theorem gL_law_X4_init : GoodIn wsL_law (wsX4_init) := ggL_law_X4_init
set_option maxRecDepth 20000 in
theorem ggL_law_L_makePart : GoodIn wsL_law wsL_makePart := goodIn_ca (goodIn_ca (goodIn_r _ [47, 48, 49, 50, 51, 52, 2, 53, 54, 55, 56, 57, 58, 13, 14, 15, 59, 60, 61, 62, 63, 64, 65, 66, 67, 68, 69, 70, 71, 72, 73, 74, 75, 76, 20, 21, 22, 23, 11, 12, 24, 25, 26, 27, 28, 29, 77, 78, 79, 80, 81, 82, 17, 83, 84, 85, 86, 87, 88, 89, 90, 91, 19, 92, 16, 93, 94, 95, 96, 97, 98, 99, 100, 101, 637, 638, 639, 640, 641, 642, 618, 619, 620, 621, 622, 623, 643, 644, 645, 646] (by decide +kernel) (by decide +kernel)) (goodIn_sub (fun _ h => List.mem_append_left _ (List.mem_append_left _ (List.mem_append_right _ h))) (by decide +kernel))) (goodIn_sub (fun _ h => List.mem_append_left _ (List.mem_append_right _ h)) (by decide +kernel))
set_option maxRecDepth 20000 in
theorem gL_law_L_makePart : GoodIn wsL_law (va_wsS RL 85 yL_makePart wsL_makePart) := goodIn_app (goodIn_of _ (by decide +kernel)) ggL_law_L_makePart
set_option maxRecDepth 20000 in
theorem ggL_law_X4_makePart : GoodIn wsL_law wsX4_makePart := goodIn_r _ [105, 106, 107, 108, 5, 109, 110, 111, 112, 113, 114, 115, 116, 117, 118, 119, 36, 35, 120, 121, 122, 123, 39, 124, 125, 126, 127, 128, 40, 41, 129, 130, 131, 132, 133, 134, 135, 136, 137, 37, 38, 624, 625, 626, 627, 628, 629, 630, 631, 632, 633, 634, 635, 636] (by decide +kernel) (by decide +kernel)
set_option maxRecDepth 20000 in
theorem gL_law_X4_makePart : GoodIn wsL_law (wsV RL 90 RX4 yX4_makePart wsX4_makePart) := goodIn_app (goodIn_of _ (by decide +kernel)) ggL_law_X4_makePart
set_option maxRecDepth 20000 in
theorem ggL_law_X4_thrown : GoodIn wsL_law wsX4_thrown := goodIn_r _ [141, 133, 624, 625, 626, 627, 628, 629, 630, 631, 632, 633, 634, 635, 636] (by decide +kernel) (by decide +kernel)
set_option maxRecDepth 20000 in
theorem gL_law_X4_thrown : GoodIn wsL_law (wsV RL 91 RX4 yX4_thrown wsX4_thrown) := goodIn_app (goodIn_of _ (by decide +kernel)) ggL_law_X4_thrown
set_option maxRecDepth 20000 in
theorem ggL_law_L_carveOut : GoodIn wsL_law wsL_carveOut := goodIn_ca (goodIn_ca (goodIn_r _ [144, 48, 49, 145, 146, 147, 2, 148, 16, 55, 56, 57, 58, 13, 14, 15, 59, 60, 61, 62, 63, 64, 65, 66, 67, 68, 69, 70, 71, 72, 73, 74, 75, 76, 20, 21, 22, 23, 11, 12, 24, 25, 26, 27, 28, 29, 77, 78, 79, 80, 81, 82, 17, 83, 84, 85, 86, 87, 98, 99, 100, 101, 54, 149, 150, 151, 152, 19, 92, 93, 94, 95, 96, 97, 153, 154, 155, 156, 618, 619, 620, 621, 622, 623, 637, 638, 639, 640, 641, 642, 643, 644, 645, 646] (by decide +kernel) (by decide +kernel)) (goodIn_sub (fun _ h => List.mem_append_left _ (List.mem_append_left _ (List.mem_append_right _ h))) (by decide +kernel))) (goodIn_sub (fun _ h => List.mem_append_left _ (List.mem_append_right _ h)) (by decide +kernel))
set_option maxRecDepth 20000 in
theorem gL_law_L_carveOut : GoodIn wsL_law (va_wsS RL 95 yL_carveOut wsL_carveOut) := goodIn_app (goodIn_of _ (by decide +kernel)) ggL_law_L_carveOut
set_option maxRecDepth 20000 in
theorem ggL_law_X4_carveOut : GoodIn wsL_law wsX4_carveOut := goodIn_r _ [160, 106, 107, 108, 5, 109, 110, 111, 112, 113, 114, 115, 116, 117, 118, 119, 36, 35, 120, 121, 122, 123, 39, 129, 130, 131, 132, 133, 134, 135, 136, 137, 37, 38, 161, 162, 163, 164, 128, 40, 41, 165, 166, 167, 168, 169, 170, 171, 172, 624, 625, 626, 627, 628, 629, 630, 631, 632, 633, 634, 635, 636] (by decide +kernel) (by decide +kernel)
set_option maxRecDepth 20000 in
theorem gL_law_X4_carveOut : GoodIn wsL_law (wsV RL 97 RX4 yX4_carveOut wsX4_carveOut) := goodIn_app (goodIn_of _ (by decide +kernel)) ggL_law_X4_carveOut
set_option maxRecDepth 20000 in
theorem ggL_law_L_split : GoodIn wsL_law wsL_split := goodIn_ca (goodIn_ca (goodIn_ca (goodIn_r _ [175, 176, 48, 49, 177, 178, 179, 2, 180, 63, 64, 181, 182, 183, 184, 54, 185, 186, 187, 188, 189, 190, 16, 191, 192, 193, 194, 83, 195, 196, 197, 198, 17, 199, 200, 201, 81, 82, 55, 56, 57, 58, 13, 14, 15, 59, 60, 61, 62, 65, 66, 67, 68, 69, 70, 71, 72, 73, 74, 75, 76, 20, 21, 22, 23, 11, 12, 24, 25, 26, 27, 28, 29, 98, 99, 100, 101, 149, 150, 151, 152, 19, 92, 93, 94, 95, 96, 97, 637, 638, 639, 640, 641, 642, 618, 619, 620, 621, 622, 623, 643, 644, 645, 646] (by decide +kernel) (by decide +kernel)) (goodIn_sub (fun _ h => List.mem_append_left _ (List.mem_append_left _ (List.mem_append_right _ h))) (by decide +kernel))) (goodIn_sub (fun _ h => List.mem_append_right _ h) (by decide +kernel))) (goodIn_sub (fun _ h => List.mem_append_left _ (List.mem_append_right _ h)) (by decide +kernel))
set_option maxRecDepth 20000 in
theorem gL_law_L_split : GoodIn wsL_law (va_wsS RL 98 yL_split wsL_split) := goodIn_app (goodIn_of _ (by decide +kernel)) ggL_law_L_split
set_option maxRecDepth 20000 in
theorem ggL_law_X4_split : GoodIn wsL_law wsX4_split := goodIn_r _ [205, 35, 36, 106, 39, 37, 38, 206, 207, 208, 5, 209, 110, 111, 112, 129, 130, 131, 132, 133, 134, 135, 136, 137, 161, 162, 163, 164, 128, 40, 41, 165, 166, 167, 168, 624, 625, 626, 627, 628, 629, 630, 631, 632, 633, 634, 635, 636] (by decide +kernel) (by decide +kernel)
set_option maxRecDepth 20000 in
theorem gL_law_X4_split : GoodIn wsL_law (wsV RL 101 RX4 yX4_split wsX4_split) := goodIn_app (goodIn_of _ (by decide +kernel)) ggL_law_X4_split
set_option maxRecDepth 20000 in
theorem ggL_law_L_merge : GoodIn wsL_law wsL_merge := goodIn_ca (goodIn_ca (goodIn_r _ [212, 176, 49, 213, 214, 215, 2, 216, 81, 82, 181, 182, 183, 184, 83, 185, 186, 187, 188, 189, 190, 16, 191, 192, 193, 194, 195, 196, 197, 198, 17, 199, 200, 201, 149, 150, 151, 152, 19, 92, 93, 94, 95, 96, 15, 97, 25, 26, 153, 154, 155, 156, 637, 638, 639, 640, 641, 642, 618, 619, 620, 621, 622, 623, 643, 644, 645, 646] (by decide +kernel) (by decide +kernel)) (goodIn_sub (fun _ h => List.mem_append_left _ (List.mem_append_right _ h)) (by decide +kernel))) (goodIn_sub (fun _ h => List.mem_append_right _ h) (by decide +kernel))
set_option maxRecDepth 20000 in
theorem gL_law_L_merge : GoodIn wsL_law (va_wsS RL 102 yL_merge wsL_merge) := goodIn_app (goodIn_of _ (by decide +kernel)) ggL_law_L_merge
set_option maxRecDepth 20000 in
theorem ggL_law_X4_merge : GoodIn wsL_law wsX4_merge := goodIn_r _ [220, 39, 35, 36, 37, 38, 206, 207, 208, 5, 209, 106, 110, 111, 112, 129, 130, 131, 132, 133, 161, 162, 163, 164, 128, 40, 41, 165, 166, 167, 168, 169, 170, 171, 172, 624, 625, 626, 627, 628, 629, 630, 631, 632, 633, 634, 635, 636] (by decide +kernel) (by decide +kernel)
set_option maxRecDepth 20000 in
theorem gL_law_X4_merge : GoodIn wsL_law (wsV RL 104 RX4 yX4_merge wsX4_merge) := goodIn_app (goodIn_of _ (by decide +kernel)) ggL_law_X4_merge
set_option maxRecDepth 20000 in
theorem ggL_law_L_detach : GoodIn wsL_law wsL_detach := goodIn_ca (goodIn_ca (goodIn_r _ [223, 176, 49, 224, 225, 226, 2, 227, 83, 228, 185, 186, 187, 188, 189, 190, 16, 191, 192, 193, 194, 195, 196, 197, 198, 17, 199, 200, 201, 81, 82, 153, 154, 155, 156, 19, 92, 637, 638, 639, 640, 641, 642, 618, 619, 620, 621, 622, 623, 643, 644, 645, 646] (by decide +kernel) (by decide +kernel)) (goodIn_sub (fun _ h => List.mem_append_right _ h) (by decide +kernel))) (goodIn_sub (fun _ h => List.mem_append_left _ (List.mem_append_right _ h)) (by decide +kernel))
set_option maxRecDepth 20000 in
theorem gL_law_L_detach : GoodIn wsL_law (va_wsS RL 105 yL_detach wsL_detach) := goodIn_app (goodIn_of _ (by decide +kernel)) ggL_law_L_detach
set_option maxRecDepth 20000 in
theorem ggL_law_X4_detach : GoodIn wsL_law wsX4_detach := goodIn_r _ [232, 39, 233, 206, 207, 208, 5, 209, 106, 110, 111, 112, 129, 130, 131, 132, 133, 169, 170, 171, 172, 128, 40, 624, 625, 626, 627, 628, 629, 630, 631, 632, 633, 634, 635, 636] (by decide +kernel) (by decide +kernel)
set_option maxRecDepth 20000 in
theorem gL_law_X4_detach : GoodIn wsL_law (wsV RL 108 RX4 yX4_detach wsX4_detach) := goodIn_app (goodIn_of _ (by decide +kernel)) ggL_law_X4_detach
set_option maxRecDepth 20000 in
theorem ggL_law_L_attach : GoodIn wsL_law wsL_attach := goodIn_ca (goodIn_ca (goodIn_r _ [236, 176, 49, 237, 238, 239, 2, 240, 83, 228, 185, 186, 187, 188, 189, 190, 16, 191, 192, 193, 194, 195, 196, 197, 198, 17, 241, 242, 243, 81, 82, 77, 78, 79, 80, 84, 85, 86, 15, 87, 25, 26, 88, 89, 90, 91, 19, 92, 93, 94, 95, 96, 97, 153, 154, 155, 156, 637, 638, 639, 640, 641, 642, 618, 619, 620, 621, 622, 623, 643, 644, 645, 646] (by decide +kernel) (by decide +kernel)) (goodIn_sub (fun _ h => List.mem_append_right _ h) (by decide +kernel))) (goodIn_sub (fun _ h => List.mem_append_left _ (List.mem_append_right _ h)) (by decide +kernel))
set_option maxRecDepth 20000 in
theorem gL_law_L_attach : GoodIn wsL_law (va_wsS RL 109 yL_attach wsL_attach) := goodIn_app (goodIn_of _ (by decide +kernel)) ggL_law_L_attach
set_option maxRecDepth 20000 in
theorem ggL_law_X4_attach : GoodIn wsL_law wsX4_attach := goodIn_r _ [247, 39, 35, 36, 233, 206, 207, 208, 5, 209, 106, 110, 111, 112, 116, 117, 118, 119, 120, 121, 122, 123, 124, 125, 126, 127, 128, 40, 41, 129, 130, 131, 132, 133, 169, 170, 171, 172, 624, 625, 626, 627, 628, 629, 630, 631, 632, 633, 634, 635, 636] (by decide +kernel) (by decide +kernel)
set_option maxRecDepth 20000 in
theorem gL_law_X4_attach : GoodIn wsL_law (wsV RL 111 RX4 yX4_attach wsX4_attach) := goodIn_app (goodIn_of _ (by decide +kernel)) ggL_law_X4_attach
set_option maxRecDepth 20000 in
theorem ggL_law_L_exchange : GoodIn wsL_law wsL_exchange := goodIn_ca (goodIn_ca (goodIn_r _ [250, 176, 49, 251, 252, 253, 2, 254, 228, 185, 186, 187, 188, 189, 190, 16, 191, 192, 193, 194, 83, 195, 196, 197, 198, 17, 199, 200, 201, 81, 82, 241, 242, 243, 255, 256, 257, 258, 19, 92, 93, 94, 95, 96, 15, 97, 25, 26, 259, 260, 261, 262, 153, 154, 155, 156, 618, 619, 620, 621, 622, 623, 637, 638, 639, 640, 641, 642, 643, 644, 645, 646] (by decide +kernel) (by decide +kernel)) (goodIn_sub (fun _ h => List.mem_append_right _ h) (by decide +kernel))) (goodIn_sub (fun _ h => List.mem_append_left _ (List.mem_append_right _ h)) (by decide +kernel))
set_option maxRecDepth 20000 in
theorem gL_law_L_exchange : GoodIn wsL_law (va_wsS RL 112 yL_exchange wsL_exchange) := goodIn_app (goodIn_of _ (by decide +kernel)) ggL_law_L_exchange
set_option maxRecDepth 20000 in
theorem ggL_law_X4_exchange : GoodIn wsL_law wsX4_exchange := goodIn_r _ [266, 39, 128, 40, 233, 206, 207, 208, 5, 209, 106, 110, 111, 112, 267, 268, 269, 270, 41, 165, 166, 167, 168, 35, 36, 129, 130, 131, 132, 133, 169, 170, 171, 172, 624, 625, 626, 627, 628, 629, 630, 631, 632, 633, 634, 635, 636] (by decide +kernel) (by decide +kernel)
set_option maxRecDepth 20000 in
theorem gL_law_X4_exchange : GoodIn wsL_law (wsV RL 114 RX4 yX4_exchange wsX4_exchange) := goodIn_app (goodIn_of _ (by decide +kernel)) ggL_law_X4_exchange
set_option maxRecDepth 20000 in
theorem ggL_law_L_insert : GoodIn wsL_law wsL_insert := goodIn_ca (goodIn_ca (goodIn_r _ [273, 48, 49, 274, 275, 276, 2, 277, 81, 82, 278, 19, 18, 279, 280, 65, 66, 67, 63, 64, 281, 282, 283, 284, 285, 286, 287, 288, 289, 290, 17, 83, 16, 94, 95, 96, 15, 97, 25, 26, 291, 292, 293, 294, 11, 12, 295, 296, 297, 298, 618, 619, 620, 621, 622, 623, 643, 644, 645, 646, 637, 638, 639, 640, 641, 642] (by decide +kernel) (by decide +kernel)) (goodIn_sub (fun _ h => List.mem_append_left _ (List.mem_append_right _ h)) (by decide +kernel))) (goodIn_sub (fun _ h => List.mem_append_left _ (List.mem_append_left _ (List.mem_append_right _ h))) (by decide +kernel))
set_option maxRecDepth 20000 in
theorem gL_law_L_insert : GoodIn wsL_law (va_wsS RL 115 yL_insert wsL_insert) := goodIn_app (goodIn_of _ (by decide +kernel)) ggL_law_L_insert
set_option maxRecDepth 20000 in
theorem ggL_law_X4_insert : GoodIn wsL_law wsX4_insert := goodIn_r _ [302, 128, 41, 42, 43, 40, 303, 304, 5, 305, 113, 114, 115, 110, 111, 112, 129, 130, 131, 132, 133, 306, 307, 308, 309, 106, 120, 121, 122, 123, 39, 165, 166, 167, 168, 35, 36, 624, 625, 626, 627, 628, 629, 630, 631, 632, 633, 634, 635, 636] (by decide +kernel) (by decide +kernel)
set_option maxRecDepth 20000 in
theorem gL_law_X4_insert : GoodIn wsL_law (wsV RL 118 RX4 yX4_insert wsX4_insert) := goodIn_app (goodIn_of _ (by decide +kernel)) ggL_law_X4_insert
set_option maxRecDepth 20000 in
theorem ggL_law_L_change : GoodIn wsL_law wsL_change := goodIn_ca (goodIn_ca (goodIn_ca (goodIn_r _ [312, 176, 48, 49, 313, 314, 315, 2, 316, 92, 93, 317, 318, 319, 320, 321, 189, 190, 19, 65, 66, 67, 63, 64, 281, 282, 283, 199, 200, 201, 81, 82, 83, 322, 323, 324, 280, 325, 298, 326, 295, 296, 327, 328, 329, 15, 330, 27, 28, 331, 332, 333, 334, 335, 336, 287, 288, 289, 290, 17, 16, 94, 95, 96, 97, 25, 26, 643, 644, 645, 646, 618, 619, 620, 621, 622, 623, 637, 638, 639, 640, 641, 642] (by decide +kernel) (by decide +kernel)) (goodIn_sub (fun _ h => List.mem_append_right _ h) (by decide +kernel))) (goodIn_sub (fun _ h => List.mem_append_left _ (List.mem_append_left _ (List.mem_append_right _ h))) (by decide +kernel))) (goodIn_sub (fun _ h => List.mem_append_left _ (List.mem_append_right _ h)) (by decide +kernel))
set_option maxRecDepth 20000 in
theorem gL_law_L_change : GoodIn wsL_law (va_wsS RL 119 yL_change wsL_change) := goodIn_app (goodIn_of _ (by decide +kernel)) ggL_law_L_change
set_option maxRecDepth 20000 in
theorem ggL_law_X4_change : GoodIn wsL_law wsX4_change := goodIn_r _ [340, 41, 42, 40, 341, 342, 343, 5, 344, 128, 110, 111, 112, 303, 304, 305, 113, 114, 115, 345, 346, 347, 348, 39, 129, 130, 131, 132, 133, 349, 350, 351, 352, 353, 354, 355, 356, 37, 38, 306, 307, 308, 309, 106, 120, 121, 122, 123, 165, 166, 167, 168, 35, 36, 624, 625, 626, 627, 628, 629, 630, 631, 632, 633, 634, 635, 636] (by decide +kernel) (by decide +kernel)
set_option maxRecDepth 20000 in
theorem gL_law_X4_change : GoodIn wsL_law (wsV RL 121 RX4 yX4_change wsX4_change) := goodIn_app (goodIn_of _ (by decide +kernel)) ggL_law_X4_change
set_option maxRecDepth 20000 in
theorem ggL_law_L_remove : GoodIn wsL_law wsL_remove := goodIn_ca (goodIn_r _ [359, 176, 360, 361, 362, 2, 363, 19, 364, 318, 319, 320, 321, 189, 190, 618, 619, 620, 621, 622, 623, 643, 644, 645, 646] (by decide +kernel) (by decide +kernel)) (goodIn_sub (fun _ h => List.mem_append_right _ h) (by decide +kernel))
set_option maxRecDepth 20000 in
theorem gL_law_L_remove : GoodIn wsL_law (va_wsS RL 122 yL_remove wsL_remove) := goodIn_app (goodIn_of _ (by decide +kernel)) ggL_law_L_remove
set_option maxRecDepth 20000 in
theorem ggL_law_X4_remove : GoodIn wsL_law wsX4_remove := goodIn_r _ [368, 40, 43, 341, 342, 343, 5, 344, 128, 110, 111, 112, 129, 130, 131, 132, 133, 624, 625, 626, 627, 628, 629, 630, 631, 632, 633, 634, 635, 636] (by decide +kernel) (by decide +kernel)
set_option maxRecDepth 20000 in
theorem gL_law_X4_remove : GoodIn wsL_law (wsV RL 124 RX4 yX4_remove wsX4_remove) := goodIn_app (goodIn_of _ (by decide +kernel)) ggL_law_X4_remove
set_option maxRecDepth 20000 in
theorem ggL_law_X3_parts : GoodIn wsL_law wsX3_parts := goodIn_r _ [372, 59, 618, 619, 620, 621, 622, 623] (by decide +kernel) (by decide +kernel)
set_option maxRecDepth 20000 in
theorem gL_law_X3_parts : GoodIn wsL_law (wsV RL 125 RX3 yX3_parts wsX3_parts) := goodIn_app (goodIn_of _ (by decide +kernel)) ggL_law_X3_parts
set_option maxRecDepth 20000 in
theorem ggL_law_X4_parts : GoodIn wsL_law wsX4_parts := goodIn_r _ [376, 133, 106, 624, 625, 626, 627, 628, 629, 630, 631, 632, 633, 634, 635, 636] (by decide +kernel) (by decide +kernel)
set_option maxRecDepth 20000 in
theorem gL_law_X4_parts : GoodIn wsL_law (wsV RL 128 RX4 yX4_parts wsX4_parts) := goodIn_app (goodIn_of _ (by decide +kernel)) ggL_law_X4_parts
set_option maxRecDepth 20000 in
theorem ggL_law_L_stateOf : GoodIn wsL_law wsL_stateOf := goodIn_ca (goodIn_r _ [379, 176, 380, 381, 382, 2, 383, 83, 195, 196, 197, 198, 189, 190, 17, 637, 638, 639, 640, 641, 642, 618, 619, 620, 621, 622, 623] (by decide +kernel) (by decide +kernel)) (goodIn_sub (fun _ h => List.mem_append_right _ h) (by decide +kernel))
set_option maxRecDepth 20000 in
theorem gL_law_L_stateOf : GoodIn wsL_law (va_wsS RL 129 yL_stateOf wsL_stateOf) := goodIn_app (goodIn_of _ (by decide +kernel)) ggL_law_L_stateOf
set_option maxRecDepth 20000 in
theorem ggL_law_X4_stateOf : GoodIn wsL_law wsX4_stateOf := goodIn_r _ [387, 106, 39, 110, 111, 5, 112, 129, 130, 131, 132, 133, 624, 625, 626, 627, 628, 629, 630, 631, 632, 633, 634, 635, 636] (by decide +kernel) (by decide +kernel)
set_option maxRecDepth 20000 in
theorem gL_law_X4_stateOf : GoodIn wsL_law (wsV RL 131 RX4 yX4_stateOf wsX4_stateOf) := goodIn_app (goodIn_of _ (by decide +kernel)) ggL_law_X4_stateOf
set_option maxRecDepth 20000 in
theorem ggL_law_L_partOf : GoodIn wsL_law wsL_partOf := goodIn_ca (goodIn_r _ [390, 48, 391, 392, 393, 2, 394, 54, 65, 66, 67, 63, 64, 287, 288, 289, 290, 17, 83, 16, 94, 95, 96, 15, 97, 25, 26, 637, 638, 639, 640, 641, 642, 618, 619, 620, 621, 622, 623] (by decide +kernel) (by decide +kernel)) (goodIn_sub (fun _ h => List.mem_append_left _ (List.mem_append_left _ (List.mem_append_right _ h))) (by decide +kernel))
set_option maxRecDepth 20000 in
theorem gL_law_L_partOf : GoodIn wsL_law (va_wsS RL 132 yL_partOf wsL_partOf) := goodIn_app (goodIn_of _ (by decide +kernel)) ggL_law_L_partOf
set_option maxRecDepth 20000 in
theorem ggL_law_X4_partOf : GoodIn wsL_law wsX4_partOf := goodIn_r _ [398, 113, 114, 5, 115, 110, 111, 112, 129, 130, 131, 132, 133, 306, 307, 308, 309, 106, 120, 121, 122, 123, 39, 165, 166, 167, 168, 35, 36, 624, 625, 626, 627, 628, 629, 630, 631, 632, 633, 634, 635, 636] (by decide +kernel) (by decide +kernel)
set_option maxRecDepth 20000 in
theorem gL_law_X4_partOf : GoodIn wsL_law (wsV RL 134 RX4 yX4_partOf wsX4_partOf) := goodIn_app (goodIn_of _ (by decide +kernel)) ggL_law_X4_partOf
set_option maxRecDepth 20000 in
theorem ggL_law_L_leafOf : GoodIn wsL_law wsL_leafOf := goodIn_ca (goodIn_r _ [401, 176, 402, 403, 404, 2, 405, 318, 319, 320, 321, 189, 190, 19, 322, 323, 324, 280, 325, 298, 326, 295, 296, 327, 328, 329, 15, 330, 27, 28, 331, 332, 333, 334, 335, 336, 618, 619, 620, 621, 622, 623, 643, 644, 645, 646, 637, 638, 639, 640, 641, 642] (by decide +kernel) (by decide +kernel)) (goodIn_sub (fun _ h => List.mem_append_right _ h) (by decide +kernel))
set_option maxRecDepth 20000 in
theorem gL_law_L_leafOf : GoodIn wsL_law (va_wsS RL 135 yL_leafOf wsL_leafOf) := goodIn_app (goodIn_of _ (by decide +kernel)) ggL_law_L_leafOf
set_option maxRecDepth 20000 in
theorem ggL_law_X4_leafOf : GoodIn wsL_law wsX4_leafOf := goodIn_r _ [409, 341, 342, 343, 5, 344, 128, 40, 110, 111, 112, 129, 130, 131, 132, 133, 349, 350, 351, 352, 41, 42, 353, 354, 355, 356, 37, 38, 624, 625, 626, 627, 628, 629, 630, 631, 632, 633, 634, 635, 636] (by decide +kernel) (by decide +kernel)
set_option maxRecDepth 20000 in
theorem gL_law_X4_leafOf : GoodIn wsL_law (wsV RL 137 RX4 yX4_leafOf wsX4_leafOf) := goodIn_app (goodIn_of _ (by decide +kernel)) ggL_law_X4_leafOf
set_option maxRecDepth 20000 in
theorem ggL_law_L_rowsIn : GoodIn wsL_law wsL_rowsIn := goodIn_ca (goodIn_r _ [412, 176, 413, 414, 415, 2, 416, 19, 417, 418, 419, 420, 189, 190, 191, 192, 193, 194, 83, 195, 196, 197, 198, 17, 421, 422, 423, 15, 424, 27, 28, 425, 426, 427, 280, 428, 298, 295, 296, 327, 328, 329, 330, 331, 332, 333, 334, 335, 336, 618, 619, 620, 621, 622, 623, 637, 638, 639, 640, 641, 642, 643, 644, 645, 646] (by decide +kernel) (by decide +kernel)) (goodIn_sub (fun _ h => List.mem_append_right _ h) (by decide +kernel))
set_option maxRecDepth 20000 in
theorem gL_law_L_rowsIn : GoodIn wsL_law (va_wsS RL 138 yL_rowsIn wsL_rowsIn) := goodIn_app (goodIn_of _ (by decide +kernel)) ggL_law_L_rowsIn
set_option maxRecDepth 20000 in
theorem ggL_law_X4_rowsIn : GoodIn wsL_law wsX4_rowsIn := goodIn_r _ [432, 128, 40, 41, 42, 433, 434, 435, 5, 436, 437, 438, 439, 440, 206, 207, 208, 209, 106, 39, 110, 111, 112, 441, 442, 443, 444, 37, 38, 129, 130, 131, 132, 133, 353, 354, 355, 356, 624, 625, 626, 627, 628, 629, 630, 631, 632, 633, 634, 635, 636] (by decide +kernel) (by decide +kernel)
set_option maxRecDepth 20000 in
theorem gL_law_X4_rowsIn : GoodIn wsL_law (wsV RL 140 RX4 yX4_rowsIn wsX4_rowsIn) := goodIn_app (goodIn_of _ (by decide +kernel)) ggL_law_X4_rowsIn
set_option maxRecDepth 20000 in
theorem ggL_law_X3_rows : GoodIn wsL_law wsX3_rows := goodIn_r _ [448, 19, 449, 450, 451, 280, 452, 298, 453, 618, 619, 620, 621, 622, 623, 643, 644, 645, 646, 637, 638, 639, 640, 641, 642] (by decide +kernel) (by decide +kernel)
set_option maxRecDepth 20000 in
theorem gL_law_X3_rows : GoodIn wsL_law (wsV RL 141 RX3 yX3_rows wsX3_rows) := goodIn_app (goodIn_of _ (by decide +kernel)) ggL_law_X3_rows
set_option maxRecDepth 20000 in
theorem ggL_law_X4_rows : GoodIn wsL_law wsX4_rows := goodIn_r _ [457, 133, 128, 345, 346, 347, 5, 348, 40, 39, 624, 625, 626, 627, 628, 629, 630, 631, 632, 633, 634, 635, 636] (by decide +kernel) (by decide +kernel)
set_option maxRecDepth 20000 in
theorem gL_law_X4_rows : GoodIn wsL_law (wsV RL 144 RX4 yX4_rows wsX4_rows) := goodIn_app (goodIn_of _ (by decide +kernel)) ggL_law_X4_rows
set_option maxRecDepth 20000 in
theorem ggL_law_L_count : GoodIn wsL_law wsL_count := goodIn_ca (goodIn_r _ [460, 48, 461, 462, 463, 2, 464, 17, 465, 466, 467, 63, 64, 468, 469, 470, 65, 66, 67, 471, 472, 473, 474, 11, 12, 475, 476, 477, 478, 479, 480, 481, 421, 422, 423, 15, 424, 27, 28, 482, 483, 484, 485, 83, 486, 16, 487, 488, 489, 490, 491, 492, 182, 287, 288, 289, 290, 94, 95, 96, 97, 25, 26, 493, 494, 495, 496, 497, 498, 499, 500, 501, 502, 503, 504, 505, 506, 507, 508, 509, 510, 511, 512, 513, 514, 333, 334, 335, 336, 515, 516, 517, 518, 19, 425, 426, 427, 280, 428, 298, 295, 296, 327, 328, 329, 330, 331, 332, 519, 520, 521, 522, 523, 524, 525, 618, 619, 620, 621, 622, 623, 647, 648, 649, 637, 638, 639, 640, 641, 642, 643, 644, 645, 646] (by decide +kernel) (by decide +kernel)) (goodIn_sub (fun _ h => List.mem_append_left _ (List.mem_append_left _ (List.mem_append_right _ h))) (by decide +kernel))
set_option maxRecDepth 20000 in
theorem gL_law_L_count : GoodIn wsL_law (va_wsS RL 145 yL_count wsL_count) := goodIn_app (goodIn_of _ (by decide +kernel)) ggL_law_L_count
set_option maxRecDepth 20000 in
theorem ggL_law_X4_count : GoodIn wsL_law wsX4_count := goodIn_r _ [529, 530, 531, 5, 532, 113, 114, 115, 110, 111, 112, 129, 130, 131, 132, 133, 533, 534, 535, 536, 128, 41, 42, 345, 346, 347, 348, 40, 39, 624, 625, 626, 627, 628, 629, 630, 631, 632, 633, 634, 635, 636] (by decide +kernel) (by decide +kernel)
set_option maxRecDepth 20000 in
theorem gL_law_X4_count : GoodIn wsL_law (wsV RL 147 RX4 yX4_count wsX4_count) := goodIn_app (goodIn_of _ (by decide +kernel)) ggL_law_X4_count
set_option maxRecDepth 20000 in
theorem ggL_law_L_countPlain : GoodIn wsL_law wsL_countPlain := goodIn_ca (goodIn_r _ [539, 48, 540, 541, 542, 2, 543, 19, 465, 466, 467, 63, 64, 468, 469, 470, 65, 66, 67, 471, 472, 473, 474, 11, 12, 475, 476, 477, 449, 450, 451, 280, 452, 298, 453, 519, 520, 521, 522, 295, 523, 524, 525, 296, 331, 332, 618, 619, 620, 621, 622, 623, 647, 648, 649, 643, 644, 645, 646, 637, 638, 639, 640, 641, 642] (by decide +kernel) (by decide +kernel)) (goodIn_sub (fun _ h => List.mem_append_left _ (List.mem_append_left _ (List.mem_append_right _ h))) (by decide +kernel))
set_option maxRecDepth 20000 in
theorem gL_law_L_countPlain : GoodIn wsL_law (va_wsS RL 148 yL_countPlain wsL_countPlain) := goodIn_app (goodIn_of _ (by decide +kernel)) ggL_law_L_countPlain
set_option maxRecDepth 20000 in
theorem ggL_law_X4_countPlain : GoodIn wsL_law wsX4_countPlain := goodIn_r _ [547, 530, 531, 5, 532, 113, 114, 115, 110, 111, 112, 129, 130, 131, 132, 133, 533, 534, 535, 536, 128, 41, 42, 345, 346, 347, 348, 40, 39, 624, 625, 626, 627, 628, 629, 630, 631, 632, 633, 634, 635, 636] (by decide +kernel) (by decide +kernel)
set_option maxRecDepth 20000 in
theorem gL_law_X4_countPlain : GoodIn wsL_law (wsV RL 150 RX4 yX4_countPlain wsX4_countPlain) := goodIn_app (goodIn_of _ (by decide +kernel)) ggL_law_X4_countPlain
set_option maxRecDepth 20000 in
theorem ggL_law_L_read : GoodIn wsL_law wsL_read := goodIn_ca (goodIn_r _ [550, 48, 551, 552, 553, 2, 554, 17, 465, 466, 467, 63, 64, 468, 469, 470, 65, 66, 67, 471, 472, 473, 474, 11, 12, 475, 476, 477, 555, 556, 557, 558, 421, 422, 423, 15, 424, 27, 28, 482, 483, 484, 485, 83, 486, 16, 487, 488, 489, 490, 491, 492, 182, 287, 288, 289, 290, 94, 95, 96, 97, 25, 26, 493, 494, 495, 496, 497, 498, 499, 500, 501, 502, 503, 504, 505, 506, 507, 508, 509, 510, 511, 512, 513, 514, 333, 334, 335, 336, 618, 619, 620, 621, 622, 623, 647, 648, 649, 637, 638, 639, 640, 641, 642] (by decide +kernel) (by decide +kernel)) (goodIn_sub (fun _ h => List.mem_append_left _ (List.mem_append_left _ (List.mem_append_right _ h))) (by decide +kernel))
set_option maxRecDepth 20000 in
theorem gL_law_L_read : GoodIn wsL_law (va_wsS RL 151 yL_read wsL_read) := goodIn_app (goodIn_of _ (by decide +kernel)) ggL_law_L_read
set_option maxRecDepth 20000 in
theorem ggL_law_X4_read : GoodIn wsL_law wsX4_read := goodIn_r _ [562, 106, 530, 531, 5, 532, 113, 114, 115, 110, 111, 112, 129, 130, 131, 132, 133, 441, 442, 443, 444, 37, 38, 563, 564, 565, 566, 39, 306, 307, 308, 309, 120, 121, 122, 123, 165, 166, 167, 168, 35, 36, 353, 354, 355, 356, 624, 625, 626, 627, 628, 629, 630, 631, 632, 633, 634, 635, 636] (by decide +kernel) (by decide +kernel)
set_option maxRecDepth 20000 in
theorem gL_law_X4_read : GoodIn wsL_law (wsV RL 153 RX4 yX4_read wsX4_read) := goodIn_app (goodIn_of _ (by decide +kernel)) ggL_law_X4_read
set_option maxRecDepth 20000 in
theorem ggL_law_L_matters : GoodIn wsL_law wsL_matters := goodIn_ca (goodIn_ca (goodIn_r _ [569, 176, 48, 570, 571, 572, 2, 573, 417, 418, 419, 420, 189, 190, 191, 192, 193, 194, 83, 195, 196, 197, 198, 17, 421, 422, 423, 15, 424, 27, 28, 465, 466, 467, 63, 64, 468, 469, 470, 65, 66, 67, 471, 472, 473, 474, 11, 12, 475, 476, 477, 482, 483, 484, 485, 486, 16, 487, 488, 489, 490, 491, 492, 182, 287, 288, 289, 290, 94, 95, 96, 97, 25, 26, 493, 494, 495, 496, 497, 498, 499, 500, 501, 502, 503, 504, 505, 506, 507, 508, 509, 510, 511, 512, 513, 514, 333, 334, 335, 336, 637, 638, 639, 640, 641, 642, 618, 619, 620, 621, 622, 623, 647, 648, 649] (by decide +kernel) (by decide +kernel)) (goodIn_sub (fun _ h => List.mem_append_right _ h) (by decide +kernel))) (goodIn_sub (fun _ h => List.mem_append_left _ (List.mem_append_left _ (List.mem_append_right _ h))) (by decide +kernel))
set_option maxRecDepth 20000 in
theorem gL_law_L_matters : GoodIn wsL_law (va_wsS RL 154 yL_matters wsL_matters) := goodIn_app (goodIn_of _ (by decide +kernel)) ggL_law_L_matters
set_option maxRecDepth 20000 in
theorem ggL_law_X4_matters : GoodIn wsL_law wsX4_matters := goodIn_r _ [577, 433, 434, 435, 5, 436, 437, 438, 439, 440, 206, 207, 208, 209, 106, 39, 110, 111, 112, 441, 442, 443, 444, 37, 38, 530, 531, 532, 113, 114, 115, 129, 130, 131, 132, 133, 563, 564, 565, 566, 306, 307, 308, 309, 120, 121, 122, 123, 165, 166, 167, 168, 35, 36, 353, 354, 355, 356, 624, 625, 626, 627, 628, 629, 630, 631, 632, 633, 634, 635, 636] (by decide +kernel) (by decide +kernel)
set_option maxRecDepth 20000 in
theorem gL_law_X4_matters : GoodIn wsL_law (wsV RL 157 RX4 yX4_matters wsX4_matters) := goodIn_app (goodIn_of _ (by decide +kernel)) ggL_law_X4_matters
set_option maxRecDepth 20000 in
theorem ggL_law_X3_isStale : GoodIn wsL_law wsX3_isStale := goodIn_r _ [581, 228, 618, 619, 620, 621, 622, 623] (by decide +kernel) (by decide +kernel)
set_option maxRecDepth 20000 in
theorem gL_law_X3_isStale : GoodIn wsL_law (wsV RL 158 RX3 yX3_isStale wsX3_isStale) := goodIn_app (goodIn_of _ (by decide +kernel)) ggL_law_X3_isStale
set_option maxRecDepth 20000 in
theorem ggL_law_X4_isStale : GoodIn wsL_law wsX4_isStale := goodIn_r _ [585, 133, 233, 624, 625, 626, 627, 628, 629, 630, 631, 632, 633, 634, 635, 636] (by decide +kernel) (by decide +kernel)
set_option maxRecDepth 20000 in
theorem gL_law_X4_isStale : GoodIn wsL_law (wsV RL 162 RX4 yX4_isStale wsX4_isStale) := goodIn_app (goodIn_of _ (by decide +kernel)) ggL_law_X4_isStale
set_option maxRecDepth 20000 in
theorem ggL_law_X3_buildIndex : GoodIn wsL_law wsX3_buildIndex := goodIn_r _ [589, 228, 590, 446, 447, 2, 448, 19, 449, 450, 451, 280, 452, 298, 453, 618, 619, 620, 621, 622, 623, 643, 644, 645, 646, 637, 638, 639, 640, 641, 642] (by decide +kernel) (by decide +kernel)
set_option maxRecDepth 20000 in
theorem gL_law_X3_buildIndex : GoodIn wsL_law (wsV RL 163 RX3 yX3_buildIndex wsX3_buildIndex) := goodIn_app (goodIn_of _ (by decide +kernel)) ggL_law_X3_buildIndex
set_option maxRecDepth 20000 in
theorem ggL_law_X4_buildIndex : GoodIn wsL_law wsX4_buildIndex := goodIn_r _ [594, 233, 595, 455, 456, 5, 457, 133, 128, 345, 346, 347, 348, 40, 39, 624, 625, 626, 627, 628, 629, 630, 631, 632, 633, 634, 635, 636] (by decide +kernel) (by decide +kernel)
set_option maxRecDepth 20000 in
theorem gL_law_X4_buildIndex : GoodIn wsL_law (wsV RL 166 RX4 yX4_buildIndex wsX4_buildIndex) := goodIn_app (goodIn_of _ (by decide +kernel)) ggL_law_X4_buildIndex
set_option maxRecDepth 20000 in
theorem ggL_law_L_find : GoodIn wsL_law wsL_find := goodIn_ca (goodIn_ca (goodIn_r _ [598, 48, 49, 599, 600, 601, 2, 602, 81, 82, 228, 19, 364, 284, 285, 286, 63, 64, 449, 450, 451, 280, 452, 298, 453, 618, 619, 620, 621, 622, 623, 643, 644, 645, 646, 637, 638, 639, 640, 641, 642] (by decide +kernel) (by decide +kernel)) (goodIn_sub (fun _ h => List.mem_append_left _ (List.mem_append_right _ h)) (by decide +kernel))) (goodIn_sub (fun _ h => List.mem_append_left _ (List.mem_append_left _ (List.mem_append_right _ h))) (by decide +kernel))
set_option maxRecDepth 20000 in
theorem gL_law_L_find : GoodIn wsL_law (va_wsS RL 167 yL_find wsL_find) := goodIn_app (goodIn_of _ (by decide +kernel)) ggL_law_L_find
set_option maxRecDepth 20000 in
theorem ggL_law_X4_find : GoodIn wsL_law wsX4_find := goodIn_r _ [606, 233, 128, 43, 110, 111, 5, 112, 129, 130, 131, 132, 133, 345, 346, 347, 348, 40, 39, 624, 625, 626, 627, 628, 629, 630, 631, 632, 633, 634, 635, 636] (by decide +kernel) (by decide +kernel)
set_option maxRecDepth 20000 in
theorem gL_law_X4_find : GoodIn wsL_law (wsV RL 169 RX4 yX4_find wsX4_find) := goodIn_app (goodIn_of _ (by decide +kernel)) ggL_law_X4_find
set_option maxRecDepth 20000 in
theorem ggL_law_L_findIn : GoodIn wsL_law wsL_findIn := goodIn_ca (goodIn_ca (goodIn_r _ [609, 176, 48, 610, 611, 612, 2, 613, 19, 92, 364, 191, 192, 193, 194, 189, 190, 83, 195, 196, 197, 198, 17, 284, 285, 286, 63, 64, 618, 619, 620, 621, 622, 623, 643, 644, 645, 646, 637, 638, 639, 640, 641, 642] (by decide +kernel) (by decide +kernel)) (goodIn_sub (fun _ h => List.mem_append_right _ h) (by decide +kernel))) (goodIn_sub (fun _ h => List.mem_append_left _ (List.mem_append_left _ (List.mem_append_right _ h))) (by decide +kernel))
set_option maxRecDepth 20000 in
theorem gL_law_L_findIn : GoodIn wsL_law (va_wsS RL 170 yL_findIn wsL_findIn) := goodIn_app (goodIn_of _ (by decide +kernel)) ggL_law_L_findIn
set_option maxRecDepth 20000 in
theorem ggL_law_X4_findIn : GoodIn wsL_law wsX4_findIn := goodIn_r _ [617, 128, 40, 43, 437, 438, 439, 5, 440, 206, 207, 208, 209, 106, 39, 110, 111, 112, 129, 130, 131, 132, 133, 624, 625, 626, 627, 628, 629, 630, 631, 632, 633, 634, 635, 636] (by decide +kernel) (by decide +kernel)
set_option maxRecDepth 20000 in
theorem gL_law_X4_findIn : GoodIn wsL_law (wsV RL 172 RX4 yX4_findIn wsX4_findIn) := goodIn_app (goodIn_of _ (by decide +kernel)) ggL_law_X4_findIn
theorem dL_law_0 : decode cL_law 0 = .ok (.new 8, 3) := by decide +kernel
theorem dL_law_3 : decode cL_law 3 = .ok (.dup, 1) := by decide +kernel
theorem dL_law_4 : decode cL_law 4 = .ok (.invokespecial 81, 3) := by decide +kernel
theorem dL_law_7 : decode cL_law 7 = .ok (.astore_n 1, 1) := by decide +kernel
theorem dL_law_8 : decode cL_law 8 = .ok (.new 82, 3) := by decide +kernel
theorem dL_law_11 : decode cL_law 11 = .ok (.dup, 1) := by decide +kernel
theorem dL_law_12 : decode cL_law 12 = .ok (.invokespecial 84, 3) := by decide +kernel
theorem dL_law_15 : decode cL_law 15 = .ok (.astore_n 2, 1) := by decide +kernel
theorem dL_law_16 : decode cL_law 16 = .ok (.iconst 1, 1) := by decide +kernel
theorem dL_law_17 : decode cL_law 17 = .ok (.newarray .long, 2) := by decide +kernel
theorem dL_law_19 : decode cL_law 19 = .ok (.astore_n 3, 1) := by decide +kernel
theorem dL_law_20 : decode cL_law 20 = .ok (.iconst 0, 1) := by decide +kernel
theorem dL_law_21 : decode cL_law 21 = .ok (.istore 4, 2) := by decide +kernel
theorem dL_law_23 : decode cL_law 23 = .ok (.iload 4, 2) := by decide +kernel
theorem dL_law_25 : decode cL_law 25 = .ok (.aload_n 0, 1) := by decide +kernel
theorem dL_law_26 : decode cL_law 26 = .ok (.arraylength, 1) := by decide +kernel
theorem dL_law_27 : decode cL_law 27 = .ok (.bipush 6, 2) := by decide +kernel
theorem dL_law_29 : decode cL_law 29 = .ok (.isub, 1) := by decide +kernel
theorem dL_law_30 : decode cL_law 30 = .ok (.if_icmp .gt 1614, 3) := by decide +kernel
theorem dL_law_33 : decode cL_law 33 = .ok (.aload_n 0, 1) := by decide +kernel
theorem dL_law_34 : decode cL_law 34 = .ok (.iload 4, 2) := by decide +kernel
theorem dL_law_36 : decode cL_law 36 = .ok (.iaload, 1) := by decide +kernel
theorem dL_law_37 : decode cL_law 37 = .ok (.bipush 31, 2) := by decide +kernel
theorem dL_law_39 : decode cL_law 39 = .ok (.iand, 1) := by decide +kernel
theorem dL_law_40 : decode cL_law 40 = .ok (.tableswitch 1598 0 23 #[112, 204, 296, 364, 432, 488, 544, 612, 692, 779, 835, 848, 904, 960, 1016, 1084, 1097, 1177, 1257, 1337, 1448, 1461, 1474, 1530], 112) := by decide +kernel
theorem dL_law_152 : decode cL_law 152 = .ok (.aload_n 1, 1) := by decide +kernel
theorem dL_law_153 : decode cL_law 153 = .ok (.aload_n 0, 1) := by decide +kernel
theorem dL_law_154 : decode cL_law 154 = .ok (.iload 4, 2) := by decide +kernel
theorem dL_law_156 : decode cL_law 156 = .ok (.iconst 1, 1) := by decide +kernel
theorem dL_law_157 : decode cL_law 157 = .ok (.iadd, 1) := by decide +kernel
theorem dL_law_158 : decode cL_law 158 = .ok (.iaload, 1) := by decide +kernel
theorem dL_law_159 : decode cL_law 159 = .ok (.aload_n 0, 1) := by decide +kernel
theorem dL_law_160 : decode cL_law 160 = .ok (.iload 4, 2) := by decide +kernel
theorem dL_law_162 : decode cL_law 162 = .ok (.iconst 2, 1) := by decide +kernel
theorem dL_law_163 : decode cL_law 163 = .ok (.iadd, 1) := by decide +kernel
theorem dL_law_164 : decode cL_law 164 = .ok (.iaload, 1) := by decide +kernel
theorem dL_law_165 : decode cL_law 165 = .ok (.aload_n 0, 1) := by decide +kernel
theorem dL_law_166 : decode cL_law 166 = .ok (.iload 4, 2) := by decide +kernel
theorem dL_law_168 : decode cL_law 168 = .ok (.iconst 3, 1) := by decide +kernel
theorem dL_law_169 : decode cL_law 169 = .ok (.iadd, 1) := by decide +kernel
theorem dL_law_170 : decode cL_law 170 = .ok (.iaload, 1) := by decide +kernel
theorem dL_law_171 : decode cL_law 171 = .ok (.aload_n 0, 1) := by decide +kernel
theorem dL_law_172 : decode cL_law 172 = .ok (.iload 4, 2) := by decide +kernel
theorem dL_law_174 : decode cL_law 174 = .ok (.iconst 4, 1) := by decide +kernel
theorem dL_law_175 : decode cL_law 175 = .ok (.iadd, 1) := by decide +kernel
theorem dL_law_176 : decode cL_law 176 = .ok (.iaload, 1) := by decide +kernel
theorem dL_law_177 : decode cL_law 177 = .ok (.aload_n 3, 1) := by decide +kernel
theorem dL_law_178 : decode cL_law 178 = .ok (.invokestatic 85, 3) := by decide +kernel
theorem dL_law_181 : decode cL_law 181 = .ok (.istore 5, 2) := by decide +kernel
theorem dL_law_183 : decode cL_law 183 = .ok (.aload_n 2, 1) := by decide +kernel
theorem dL_law_184 : decode cL_law 184 = .ok (.aload_n 0, 1) := by decide +kernel
theorem dL_law_185 : decode cL_law 185 = .ok (.iload 4, 2) := by decide +kernel
theorem dL_law_187 : decode cL_law 187 = .ok (.iconst 1, 1) := by decide +kernel
theorem dL_law_188 : decode cL_law 188 = .ok (.iadd, 1) := by decide +kernel
theorem dL_law_189 : decode cL_law 189 = .ok (.iaload, 1) := by decide +kernel
theorem dL_law_190 : decode cL_law 190 = .ok (.aload_n 0, 1) := by decide +kernel
theorem dL_law_191 : decode cL_law 191 = .ok (.iload 4, 2) := by decide +kernel
theorem dL_law_193 : decode cL_law 193 = .ok (.iconst 2, 1) := by decide +kernel
theorem dL_law_194 : decode cL_law 194 = .ok (.iadd, 1) := by decide +kernel
theorem dL_law_195 : decode cL_law 195 = .ok (.iaload, 1) := by decide +kernel
theorem dL_law_196 : decode cL_law 196 = .ok (.aload_n 0, 1) := by decide +kernel
theorem dL_law_197 : decode cL_law 197 = .ok (.iload 4, 2) := by decide +kernel
theorem dL_law_199 : decode cL_law 199 = .ok (.iconst 3, 1) := by decide +kernel
theorem dL_law_200 : decode cL_law 200 = .ok (.iadd, 1) := by decide +kernel
theorem dL_law_201 : decode cL_law 201 = .ok (.iaload, 1) := by decide +kernel
theorem dL_law_202 : decode cL_law 202 = .ok (.aload_n 0, 1) := by decide +kernel
theorem dL_law_203 : decode cL_law 203 = .ok (.iload 4, 2) := by decide +kernel
theorem dL_law_205 : decode cL_law 205 = .ok (.iconst 4, 1) := by decide +kernel
theorem dL_law_206 : decode cL_law 206 = .ok (.iadd, 1) := by decide +kernel
theorem dL_law_207 : decode cL_law 207 = .ok (.iaload, 1) := by decide +kernel
theorem dL_law_208 : decode cL_law 208 = .ok (.invokevirtual 90, 3) := by decide +kernel
theorem dL_law_211 : decode cL_law 211 = .ok (.istore 6, 2) := by decide +kernel
theorem dL_law_213 : decode cL_law 213 = .ok (.aload_n 2, 1) := by decide +kernel
theorem dL_law_214 : decode cL_law 214 = .ok (.invokevirtual 91, 3) := by decide +kernel
theorem dL_law_217 : decode cL_law 217 = .ok (.iload 5, 2) := by decide +kernel
theorem dL_law_219 : decode cL_law 219 = .ok (.if_icmp .eq 5, 3) := by decide +kernel
theorem dL_law_222 : decode cL_law 222 = .ok (.iconst 0, 1) := by decide +kernel
theorem dL_law_223 : decode cL_law 223 = .ok (.ireturn, 1) := by decide +kernel
theorem dL_law_224 : decode cL_law 224 = .ok (.iload 5, 2) := by decide +kernel
theorem dL_law_226 : decode cL_law 226 = .ok (.ifCond .ne 15, 3) := by decide +kernel
theorem dL_law_229 : decode cL_law 229 = .ok (.aload_n 3, 1) := by decide +kernel
theorem dL_law_230 : decode cL_law 230 = .ok (.iconst 0, 1) := by decide +kernel
theorem dL_law_231 : decode cL_law 231 = .ok (.laload, 1) := by decide +kernel
theorem dL_law_232 : decode cL_law 232 = .ok (.iload 6, 2) := by decide +kernel
theorem dL_law_234 : decode cL_law 234 = .ok (.i2l, 1) := by decide +kernel
theorem dL_law_235 : decode cL_law 235 = .ok (.lcmp, 1) := by decide +kernel
theorem dL_law_236 : decode cL_law 236 = .ok (.ifCond .eq 5, 3) := by decide +kernel
theorem dL_law_239 : decode cL_law 239 = .ok (.iconst 0, 1) := by decide +kernel
theorem dL_law_240 : decode cL_law 240 = .ok (.ireturn, 1) := by decide +kernel
theorem dL_law_241 : decode cL_law 241 = .ok (.goto 1397, 3) := by decide +kernel
theorem dL_law_244 : decode cL_law 244 = .ok (.aload_n 1, 1) := by decide +kernel
theorem dL_law_245 : decode cL_law 245 = .ok (.aload_n 0, 1) := by decide +kernel
theorem dL_law_246 : decode cL_law 246 = .ok (.iload 4, 2) := by decide +kernel
theorem dL_law_248 : decode cL_law 248 = .ok (.iconst 1, 1) := by decide +kernel
theorem dL_law_249 : decode cL_law 249 = .ok (.iadd, 1) := by decide +kernel
theorem dL_law_250 : decode cL_law 250 = .ok (.iaload, 1) := by decide +kernel
theorem dL_law_251 : decode cL_law 251 = .ok (.aload_n 0, 1) := by decide +kernel
theorem dL_law_252 : decode cL_law 252 = .ok (.iload 4, 2) := by decide +kernel
theorem dL_law_254 : decode cL_law 254 = .ok (.iconst 2, 1) := by decide +kernel
theorem dL_law_255 : decode cL_law 255 = .ok (.iadd, 1) := by decide +kernel
theorem dL_law_256 : decode cL_law 256 = .ok (.iaload, 1) := by decide +kernel
theorem dL_law_257 : decode cL_law 257 = .ok (.aload_n 0, 1) := by decide +kernel
theorem dL_law_258 : decode cL_law 258 = .ok (.iload 4, 2) := by decide +kernel
theorem dL_law_260 : decode cL_law 260 = .ok (.iconst 3, 1) := by decide +kernel
theorem dL_law_261 : decode cL_law 261 = .ok (.iadd, 1) := by decide +kernel
theorem dL_law_262 : decode cL_law 262 = .ok (.iaload, 1) := by decide +kernel
theorem dL_law_263 : decode cL_law 263 = .ok (.aload_n 0, 1) := by decide +kernel
theorem dL_law_264 : decode cL_law 264 = .ok (.iload 4, 2) := by decide +kernel
theorem dL_law_266 : decode cL_law 266 = .ok (.iconst 4, 1) := by decide +kernel
theorem dL_law_267 : decode cL_law 267 = .ok (.iadd, 1) := by decide +kernel
theorem dL_law_268 : decode cL_law 268 = .ok (.iaload, 1) := by decide +kernel
theorem dL_law_269 : decode cL_law 269 = .ok (.aload_n 3, 1) := by decide +kernel
theorem dL_law_270 : decode cL_law 270 = .ok (.invokestatic 95, 3) := by decide +kernel
theorem dL_law_273 : decode cL_law 273 = .ok (.istore 5, 2) := by decide +kernel
theorem dL_law_275 : decode cL_law 275 = .ok (.aload_n 2, 1) := by decide +kernel
theorem dL_law_276 : decode cL_law 276 = .ok (.aload_n 0, 1) := by decide +kernel
theorem dL_law_277 : decode cL_law 277 = .ok (.iload 4, 2) := by decide +kernel
theorem dL_law_279 : decode cL_law 279 = .ok (.iconst 1, 1) := by decide +kernel
theorem dL_law_280 : decode cL_law 280 = .ok (.iadd, 1) := by decide +kernel
theorem dL_law_281 : decode cL_law 281 = .ok (.iaload, 1) := by decide +kernel
theorem dL_law_282 : decode cL_law 282 = .ok (.aload_n 0, 1) := by decide +kernel
theorem dL_law_283 : decode cL_law 283 = .ok (.iload 4, 2) := by decide +kernel
theorem dL_law_285 : decode cL_law 285 = .ok (.iconst 2, 1) := by decide +kernel
theorem dL_law_286 : decode cL_law 286 = .ok (.iadd, 1) := by decide +kernel
theorem dL_law_287 : decode cL_law 287 = .ok (.iaload, 1) := by decide +kernel
theorem dL_law_288 : decode cL_law 288 = .ok (.aload_n 0, 1) := by decide +kernel
theorem dL_law_289 : decode cL_law 289 = .ok (.iload 4, 2) := by decide +kernel
theorem dL_law_291 : decode cL_law 291 = .ok (.iconst 3, 1) := by decide +kernel
theorem dL_law_292 : decode cL_law 292 = .ok (.iadd, 1) := by decide +kernel
theorem dL_law_293 : decode cL_law 293 = .ok (.iaload, 1) := by decide +kernel
theorem dL_law_294 : decode cL_law 294 = .ok (.aload_n 0, 1) := by decide +kernel
theorem dL_law_295 : decode cL_law 295 = .ok (.iload 4, 2) := by decide +kernel
theorem dL_law_297 : decode cL_law 297 = .ok (.iconst 4, 1) := by decide +kernel
theorem dL_law_298 : decode cL_law 298 = .ok (.iadd, 1) := by decide +kernel
theorem dL_law_299 : decode cL_law 299 = .ok (.iaload, 1) := by decide +kernel
theorem dL_law_300 : decode cL_law 300 = .ok (.invokevirtual 97, 3) := by decide +kernel
theorem dL_law_303 : decode cL_law 303 = .ok (.istore 6, 2) := by decide +kernel
theorem dL_law_305 : decode cL_law 305 = .ok (.aload_n 2, 1) := by decide +kernel
theorem dL_law_306 : decode cL_law 306 = .ok (.invokevirtual 91, 3) := by decide +kernel
theorem dL_law_309 : decode cL_law 309 = .ok (.iload 5, 2) := by decide +kernel
theorem dL_law_311 : decode cL_law 311 = .ok (.if_icmp .eq 5, 3) := by decide +kernel
theorem dL_law_314 : decode cL_law 314 = .ok (.iconst 0, 1) := by decide +kernel
theorem dL_law_315 : decode cL_law 315 = .ok (.ireturn, 1) := by decide +kernel
theorem dL_law_316 : decode cL_law 316 = .ok (.iload 5, 2) := by decide +kernel
theorem dL_law_318 : decode cL_law 318 = .ok (.ifCond .ne 15, 3) := by decide +kernel
theorem dL_law_321 : decode cL_law 321 = .ok (.aload_n 3, 1) := by decide +kernel
theorem dL_law_322 : decode cL_law 322 = .ok (.iconst 0, 1) := by decide +kernel
theorem dL_law_323 : decode cL_law 323 = .ok (.laload, 1) := by decide +kernel
theorem dL_law_324 : decode cL_law 324 = .ok (.iload 6, 2) := by decide +kernel
theorem dL_law_326 : decode cL_law 326 = .ok (.i2l, 1) := by decide +kernel
theorem dL_law_327 : decode cL_law 327 = .ok (.lcmp, 1) := by decide +kernel
theorem dL_law_328 : decode cL_law 328 = .ok (.ifCond .eq 5, 3) := by decide +kernel
theorem dL_law_331 : decode cL_law 331 = .ok (.iconst 0, 1) := by decide +kernel
theorem dL_law_332 : decode cL_law 332 = .ok (.ireturn, 1) := by decide +kernel
theorem dL_law_333 : decode cL_law 333 = .ok (.goto 1305, 3) := by decide +kernel
theorem dL_law_336 : decode cL_law 336 = .ok (.aload_n 1, 1) := by decide +kernel
theorem dL_law_337 : decode cL_law 337 = .ok (.aload_n 0, 1) := by decide +kernel
theorem dL_law_338 : decode cL_law 338 = .ok (.iload 4, 2) := by decide +kernel
theorem dL_law_340 : decode cL_law 340 = .ok (.iconst 1, 1) := by decide +kernel
theorem dL_law_341 : decode cL_law 341 = .ok (.iadd, 1) := by decide +kernel
theorem dL_law_342 : decode cL_law 342 = .ok (.iaload, 1) := by decide +kernel
theorem dL_law_343 : decode cL_law 343 = .ok (.aload_n 0, 1) := by decide +kernel
theorem dL_law_344 : decode cL_law 344 = .ok (.iload 4, 2) := by decide +kernel
theorem dL_law_346 : decode cL_law 346 = .ok (.iconst 2, 1) := by decide +kernel
theorem dL_law_347 : decode cL_law 347 = .ok (.iadd, 1) := by decide +kernel
theorem dL_law_348 : decode cL_law 348 = .ok (.iaload, 1) := by decide +kernel
theorem dL_law_349 : decode cL_law 349 = .ok (.aload_n 3, 1) := by decide +kernel
theorem dL_law_350 : decode cL_law 350 = .ok (.invokestatic 98, 3) := by decide +kernel
theorem dL_law_353 : decode cL_law 353 = .ok (.istore 5, 2) := by decide +kernel
theorem dL_law_355 : decode cL_law 355 = .ok (.aload_n 2, 1) := by decide +kernel
theorem dL_law_356 : decode cL_law 356 = .ok (.aload_n 0, 1) := by decide +kernel
theorem dL_law_357 : decode cL_law 357 = .ok (.iload 4, 2) := by decide +kernel
theorem dL_law_359 : decode cL_law 359 = .ok (.iconst 1, 1) := by decide +kernel
theorem dL_law_360 : decode cL_law 360 = .ok (.iadd, 1) := by decide +kernel
theorem dL_law_361 : decode cL_law 361 = .ok (.iaload, 1) := by decide +kernel
theorem dL_law_362 : decode cL_law 362 = .ok (.aload_n 0, 1) := by decide +kernel
theorem dL_law_363 : decode cL_law 363 = .ok (.iload 4, 2) := by decide +kernel
theorem dL_law_365 : decode cL_law 365 = .ok (.iconst 2, 1) := by decide +kernel
theorem dL_law_366 : decode cL_law 366 = .ok (.iadd, 1) := by decide +kernel
theorem dL_law_367 : decode cL_law 367 = .ok (.iaload, 1) := by decide +kernel
theorem dL_law_368 : decode cL_law 368 = .ok (.invokevirtual 101, 3) := by decide +kernel
theorem dL_law_371 : decode cL_law 371 = .ok (.istore 6, 2) := by decide +kernel
theorem dL_law_373 : decode cL_law 373 = .ok (.aload_n 2, 1) := by decide +kernel
theorem dL_law_374 : decode cL_law 374 = .ok (.invokevirtual 91, 3) := by decide +kernel
theorem dL_law_377 : decode cL_law 377 = .ok (.iload 5, 2) := by decide +kernel
theorem dL_law_379 : decode cL_law 379 = .ok (.if_icmp .eq 5, 3) := by decide +kernel
theorem dL_law_382 : decode cL_law 382 = .ok (.iconst 0, 1) := by decide +kernel
theorem dL_law_383 : decode cL_law 383 = .ok (.ireturn, 1) := by decide +kernel
theorem dL_law_384 : decode cL_law 384 = .ok (.iload 5, 2) := by decide +kernel
theorem dL_law_386 : decode cL_law 386 = .ok (.ifCond .ne 15, 3) := by decide +kernel
theorem dL_law_389 : decode cL_law 389 = .ok (.aload_n 3, 1) := by decide +kernel
theorem dL_law_390 : decode cL_law 390 = .ok (.iconst 0, 1) := by decide +kernel
theorem dL_law_391 : decode cL_law 391 = .ok (.laload, 1) := by decide +kernel
theorem dL_law_392 : decode cL_law 392 = .ok (.iload 6, 2) := by decide +kernel
theorem dL_law_394 : decode cL_law 394 = .ok (.i2l, 1) := by decide +kernel
theorem dL_law_395 : decode cL_law 395 = .ok (.lcmp, 1) := by decide +kernel
theorem dL_law_396 : decode cL_law 396 = .ok (.ifCond .eq 5, 3) := by decide +kernel
theorem dL_law_399 : decode cL_law 399 = .ok (.iconst 0, 1) := by decide +kernel
theorem dL_law_400 : decode cL_law 400 = .ok (.ireturn, 1) := by decide +kernel
theorem dL_law_401 : decode cL_law 401 = .ok (.goto 1237, 3) := by decide +kernel
theorem dL_law_404 : decode cL_law 404 = .ok (.aload_n 1, 1) := by decide +kernel
theorem dL_law_405 : decode cL_law 405 = .ok (.aload_n 0, 1) := by decide +kernel
theorem dL_law_406 : decode cL_law 406 = .ok (.iload 4, 2) := by decide +kernel
theorem dL_law_408 : decode cL_law 408 = .ok (.iconst 1, 1) := by decide +kernel
theorem dL_law_409 : decode cL_law 409 = .ok (.iadd, 1) := by decide +kernel
theorem dL_law_410 : decode cL_law 410 = .ok (.iaload, 1) := by decide +kernel
theorem dL_law_411 : decode cL_law 411 = .ok (.aload_n 0, 1) := by decide +kernel
theorem dL_law_412 : decode cL_law 412 = .ok (.iload 4, 2) := by decide +kernel
theorem dL_law_414 : decode cL_law 414 = .ok (.iconst 2, 1) := by decide +kernel
theorem dL_law_415 : decode cL_law 415 = .ok (.iadd, 1) := by decide +kernel
theorem dL_law_416 : decode cL_law 416 = .ok (.iaload, 1) := by decide +kernel
theorem dL_law_417 : decode cL_law 417 = .ok (.aload_n 3, 1) := by decide +kernel
theorem dL_law_418 : decode cL_law 418 = .ok (.invokestatic 102, 3) := by decide +kernel
theorem dL_law_421 : decode cL_law 421 = .ok (.istore 5, 2) := by decide +kernel
theorem dL_law_423 : decode cL_law 423 = .ok (.aload_n 2, 1) := by decide +kernel
theorem dL_law_424 : decode cL_law 424 = .ok (.aload_n 0, 1) := by decide +kernel
theorem dL_law_425 : decode cL_law 425 = .ok (.iload 4, 2) := by decide +kernel
theorem dL_law_427 : decode cL_law 427 = .ok (.iconst 1, 1) := by decide +kernel
theorem dL_law_428 : decode cL_law 428 = .ok (.iadd, 1) := by decide +kernel
theorem dL_law_429 : decode cL_law 429 = .ok (.iaload, 1) := by decide +kernel
theorem dL_law_430 : decode cL_law 430 = .ok (.aload_n 0, 1) := by decide +kernel
theorem dL_law_431 : decode cL_law 431 = .ok (.iload 4, 2) := by decide +kernel
theorem dL_law_433 : decode cL_law 433 = .ok (.iconst 2, 1) := by decide +kernel
theorem dL_law_434 : decode cL_law 434 = .ok (.iadd, 1) := by decide +kernel
theorem dL_law_435 : decode cL_law 435 = .ok (.iaload, 1) := by decide +kernel
theorem dL_law_436 : decode cL_law 436 = .ok (.invokevirtual 104, 3) := by decide +kernel
theorem dL_law_439 : decode cL_law 439 = .ok (.istore 6, 2) := by decide +kernel
theorem dL_law_441 : decode cL_law 441 = .ok (.aload_n 2, 1) := by decide +kernel
theorem dL_law_442 : decode cL_law 442 = .ok (.invokevirtual 91, 3) := by decide +kernel
theorem dL_law_445 : decode cL_law 445 = .ok (.iload 5, 2) := by decide +kernel
theorem dL_law_447 : decode cL_law 447 = .ok (.if_icmp .eq 5, 3) := by decide +kernel
theorem dL_law_450 : decode cL_law 450 = .ok (.iconst 0, 1) := by decide +kernel
theorem dL_law_451 : decode cL_law 451 = .ok (.ireturn, 1) := by decide +kernel
theorem dL_law_452 : decode cL_law 452 = .ok (.iload 5, 2) := by decide +kernel
theorem dL_law_454 : decode cL_law 454 = .ok (.ifCond .ne 15, 3) := by decide +kernel
theorem dL_law_457 : decode cL_law 457 = .ok (.aload_n 3, 1) := by decide +kernel
theorem dL_law_458 : decode cL_law 458 = .ok (.iconst 0, 1) := by decide +kernel
theorem dL_law_459 : decode cL_law 459 = .ok (.laload, 1) := by decide +kernel
theorem dL_law_460 : decode cL_law 460 = .ok (.iload 6, 2) := by decide +kernel
theorem dL_law_462 : decode cL_law 462 = .ok (.i2l, 1) := by decide +kernel
theorem dL_law_463 : decode cL_law 463 = .ok (.lcmp, 1) := by decide +kernel
theorem dL_law_464 : decode cL_law 464 = .ok (.ifCond .eq 5, 3) := by decide +kernel
theorem dL_law_467 : decode cL_law 467 = .ok (.iconst 0, 1) := by decide +kernel
theorem dL_law_468 : decode cL_law 468 = .ok (.ireturn, 1) := by decide +kernel
theorem dL_law_469 : decode cL_law 469 = .ok (.goto 1169, 3) := by decide +kernel
theorem dL_law_472 : decode cL_law 472 = .ok (.aload_n 1, 1) := by decide +kernel
theorem dL_law_473 : decode cL_law 473 = .ok (.aload_n 0, 1) := by decide +kernel
theorem dL_law_474 : decode cL_law 474 = .ok (.iload 4, 2) := by decide +kernel
theorem dL_law_476 : decode cL_law 476 = .ok (.iconst 1, 1) := by decide +kernel
theorem dL_law_477 : decode cL_law 477 = .ok (.iadd, 1) := by decide +kernel
theorem dL_law_478 : decode cL_law 478 = .ok (.iaload, 1) := by decide +kernel
theorem dL_law_479 : decode cL_law 479 = .ok (.aload_n 3, 1) := by decide +kernel
theorem dL_law_480 : decode cL_law 480 = .ok (.invokestatic 105, 3) := by decide +kernel
theorem dL_law_483 : decode cL_law 483 = .ok (.istore 5, 2) := by decide +kernel
theorem dL_law_485 : decode cL_law 485 = .ok (.aload_n 2, 1) := by decide +kernel
theorem dL_law_486 : decode cL_law 486 = .ok (.aload_n 0, 1) := by decide +kernel
theorem dL_law_487 : decode cL_law 487 = .ok (.iload 4, 2) := by decide +kernel
theorem dL_law_489 : decode cL_law 489 = .ok (.iconst 1, 1) := by decide +kernel
theorem dL_law_490 : decode cL_law 490 = .ok (.iadd, 1) := by decide +kernel
theorem dL_law_491 : decode cL_law 491 = .ok (.iaload, 1) := by decide +kernel
theorem dL_law_492 : decode cL_law 492 = .ok (.invokevirtual 108, 3) := by decide +kernel
theorem dL_law_495 : decode cL_law 495 = .ok (.istore 6, 2) := by decide +kernel
theorem dL_law_497 : decode cL_law 497 = .ok (.aload_n 2, 1) := by decide +kernel
theorem dL_law_498 : decode cL_law 498 = .ok (.invokevirtual 91, 3) := by decide +kernel
theorem dL_law_501 : decode cL_law 501 = .ok (.iload 5, 2) := by decide +kernel
theorem dL_law_503 : decode cL_law 503 = .ok (.if_icmp .eq 5, 3) := by decide +kernel
theorem dL_law_506 : decode cL_law 506 = .ok (.iconst 0, 1) := by decide +kernel
theorem dL_law_507 : decode cL_law 507 = .ok (.ireturn, 1) := by decide +kernel
theorem dL_law_508 : decode cL_law 508 = .ok (.iload 5, 2) := by decide +kernel
theorem dL_law_510 : decode cL_law 510 = .ok (.ifCond .ne 15, 3) := by decide +kernel
theorem dL_law_513 : decode cL_law 513 = .ok (.aload_n 3, 1) := by decide +kernel
theorem dL_law_514 : decode cL_law 514 = .ok (.iconst 0, 1) := by decide +kernel
theorem dL_law_515 : decode cL_law 515 = .ok (.laload, 1) := by decide +kernel
theorem dL_law_516 : decode cL_law 516 = .ok (.iload 6, 2) := by decide +kernel
theorem dL_law_518 : decode cL_law 518 = .ok (.i2l, 1) := by decide +kernel
theorem dL_law_519 : decode cL_law 519 = .ok (.lcmp, 1) := by decide +kernel
theorem dL_law_520 : decode cL_law 520 = .ok (.ifCond .eq 5, 3) := by decide +kernel
theorem dL_law_523 : decode cL_law 523 = .ok (.iconst 0, 1) := by decide +kernel
theorem dL_law_524 : decode cL_law 524 = .ok (.ireturn, 1) := by decide +kernel
theorem dL_law_525 : decode cL_law 525 = .ok (.goto 1113, 3) := by decide +kernel
theorem dL_law_528 : decode cL_law 528 = .ok (.aload_n 1, 1) := by decide +kernel
theorem dL_law_529 : decode cL_law 529 = .ok (.aload_n 0, 1) := by decide +kernel
theorem dL_law_530 : decode cL_law 530 = .ok (.iload 4, 2) := by decide +kernel
theorem dL_law_532 : decode cL_law 532 = .ok (.iconst 1, 1) := by decide +kernel
theorem dL_law_533 : decode cL_law 533 = .ok (.iadd, 1) := by decide +kernel
theorem dL_law_534 : decode cL_law 534 = .ok (.iaload, 1) := by decide +kernel
theorem dL_law_535 : decode cL_law 535 = .ok (.aload_n 3, 1) := by decide +kernel
theorem dL_law_536 : decode cL_law 536 = .ok (.invokestatic 109, 3) := by decide +kernel
theorem dL_law_539 : decode cL_law 539 = .ok (.istore 5, 2) := by decide +kernel
theorem dL_law_541 : decode cL_law 541 = .ok (.aload_n 2, 1) := by decide +kernel
theorem dL_law_542 : decode cL_law 542 = .ok (.aload_n 0, 1) := by decide +kernel
theorem dL_law_543 : decode cL_law 543 = .ok (.iload 4, 2) := by decide +kernel
theorem dL_law_545 : decode cL_law 545 = .ok (.iconst 1, 1) := by decide +kernel
theorem dL_law_546 : decode cL_law 546 = .ok (.iadd, 1) := by decide +kernel
theorem dL_law_547 : decode cL_law 547 = .ok (.iaload, 1) := by decide +kernel
theorem dL_law_548 : decode cL_law 548 = .ok (.invokevirtual 111, 3) := by decide +kernel
theorem dL_law_551 : decode cL_law 551 = .ok (.istore 6, 2) := by decide +kernel
theorem dL_law_553 : decode cL_law 553 = .ok (.aload_n 2, 1) := by decide +kernel
theorem dL_law_554 : decode cL_law 554 = .ok (.invokevirtual 91, 3) := by decide +kernel
theorem dL_law_557 : decode cL_law 557 = .ok (.iload 5, 2) := by decide +kernel
theorem dL_law_559 : decode cL_law 559 = .ok (.if_icmp .eq 5, 3) := by decide +kernel
theorem dL_law_562 : decode cL_law 562 = .ok (.iconst 0, 1) := by decide +kernel
theorem dL_law_563 : decode cL_law 563 = .ok (.ireturn, 1) := by decide +kernel
theorem dL_law_564 : decode cL_law 564 = .ok (.iload 5, 2) := by decide +kernel
theorem dL_law_566 : decode cL_law 566 = .ok (.ifCond .ne 15, 3) := by decide +kernel
theorem dL_law_569 : decode cL_law 569 = .ok (.aload_n 3, 1) := by decide +kernel
theorem dL_law_570 : decode cL_law 570 = .ok (.iconst 0, 1) := by decide +kernel
theorem dL_law_571 : decode cL_law 571 = .ok (.laload, 1) := by decide +kernel
theorem dL_law_572 : decode cL_law 572 = .ok (.iload 6, 2) := by decide +kernel
theorem dL_law_574 : decode cL_law 574 = .ok (.i2l, 1) := by decide +kernel
theorem dL_law_575 : decode cL_law 575 = .ok (.lcmp, 1) := by decide +kernel
theorem dL_law_576 : decode cL_law 576 = .ok (.ifCond .eq 5, 3) := by decide +kernel
theorem dL_law_579 : decode cL_law 579 = .ok (.iconst 0, 1) := by decide +kernel
theorem dL_law_580 : decode cL_law 580 = .ok (.ireturn, 1) := by decide +kernel
theorem dL_law_581 : decode cL_law 581 = .ok (.goto 1057, 3) := by decide +kernel
theorem dL_law_584 : decode cL_law 584 = .ok (.aload_n 1, 1) := by decide +kernel
theorem dL_law_585 : decode cL_law 585 = .ok (.aload_n 0, 1) := by decide +kernel
theorem dL_law_586 : decode cL_law 586 = .ok (.iload 4, 2) := by decide +kernel
theorem dL_law_588 : decode cL_law 588 = .ok (.iconst 1, 1) := by decide +kernel
theorem dL_law_589 : decode cL_law 589 = .ok (.iadd, 1) := by decide +kernel
theorem dL_law_590 : decode cL_law 590 = .ok (.iaload, 1) := by decide +kernel
theorem dL_law_591 : decode cL_law 591 = .ok (.aload_n 0, 1) := by decide +kernel
theorem dL_law_592 : decode cL_law 592 = .ok (.iload 4, 2) := by decide +kernel
theorem dL_law_594 : decode cL_law 594 = .ok (.iconst 2, 1) := by decide +kernel
theorem dL_law_595 : decode cL_law 595 = .ok (.iadd, 1) := by decide +kernel
theorem dL_law_596 : decode cL_law 596 = .ok (.iaload, 1) := by decide +kernel
theorem dL_law_597 : decode cL_law 597 = .ok (.aload_n 3, 1) := by decide +kernel
theorem dL_law_598 : decode cL_law 598 = .ok (.invokestatic 112, 3) := by decide +kernel
theorem dL_law_601 : decode cL_law 601 = .ok (.istore 5, 2) := by decide +kernel
theorem dL_law_603 : decode cL_law 603 = .ok (.aload_n 2, 1) := by decide +kernel
theorem dL_law_604 : decode cL_law 604 = .ok (.aload_n 0, 1) := by decide +kernel
theorem dL_law_605 : decode cL_law 605 = .ok (.iload 4, 2) := by decide +kernel
theorem dL_law_607 : decode cL_law 607 = .ok (.iconst 1, 1) := by decide +kernel
theorem dL_law_608 : decode cL_law 608 = .ok (.iadd, 1) := by decide +kernel
theorem dL_law_609 : decode cL_law 609 = .ok (.iaload, 1) := by decide +kernel
theorem dL_law_610 : decode cL_law 610 = .ok (.aload_n 0, 1) := by decide +kernel
theorem dL_law_611 : decode cL_law 611 = .ok (.iload 4, 2) := by decide +kernel
theorem dL_law_613 : decode cL_law 613 = .ok (.iconst 2, 1) := by decide +kernel
theorem dL_law_614 : decode cL_law 614 = .ok (.iadd, 1) := by decide +kernel
theorem dL_law_615 : decode cL_law 615 = .ok (.iaload, 1) := by decide +kernel
theorem dL_law_616 : decode cL_law 616 = .ok (.invokevirtual 114, 3) := by decide +kernel
theorem dL_law_619 : decode cL_law 619 = .ok (.istore 6, 2) := by decide +kernel
theorem dL_law_621 : decode cL_law 621 = .ok (.aload_n 2, 1) := by decide +kernel
theorem dL_law_622 : decode cL_law 622 = .ok (.invokevirtual 91, 3) := by decide +kernel
theorem dL_law_625 : decode cL_law 625 = .ok (.iload 5, 2) := by decide +kernel
theorem dL_law_627 : decode cL_law 627 = .ok (.if_icmp .eq 5, 3) := by decide +kernel
theorem dL_law_630 : decode cL_law 630 = .ok (.iconst 0, 1) := by decide +kernel
theorem dL_law_631 : decode cL_law 631 = .ok (.ireturn, 1) := by decide +kernel
theorem dL_law_632 : decode cL_law 632 = .ok (.iload 5, 2) := by decide +kernel
theorem dL_law_634 : decode cL_law 634 = .ok (.ifCond .ne 15, 3) := by decide +kernel
theorem dL_law_637 : decode cL_law 637 = .ok (.aload_n 3, 1) := by decide +kernel
theorem dL_law_638 : decode cL_law 638 = .ok (.iconst 0, 1) := by decide +kernel
theorem dL_law_639 : decode cL_law 639 = .ok (.laload, 1) := by decide +kernel
theorem dL_law_640 : decode cL_law 640 = .ok (.iload 6, 2) := by decide +kernel
theorem dL_law_642 : decode cL_law 642 = .ok (.i2l, 1) := by decide +kernel
theorem dL_law_643 : decode cL_law 643 = .ok (.lcmp, 1) := by decide +kernel
theorem dL_law_644 : decode cL_law 644 = .ok (.ifCond .eq 5, 3) := by decide +kernel
theorem dL_law_647 : decode cL_law 647 = .ok (.iconst 0, 1) := by decide +kernel
theorem dL_law_648 : decode cL_law 648 = .ok (.ireturn, 1) := by decide +kernel
theorem dL_law_649 : decode cL_law 649 = .ok (.goto 989, 3) := by decide +kernel
theorem dL_law_652 : decode cL_law 652 = .ok (.aload_n 1, 1) := by decide +kernel
theorem dL_law_653 : decode cL_law 653 = .ok (.aload_n 0, 1) := by decide +kernel
theorem dL_law_654 : decode cL_law 654 = .ok (.iload 4, 2) := by decide +kernel
theorem dL_law_656 : decode cL_law 656 = .ok (.iconst 1, 1) := by decide +kernel
theorem dL_law_657 : decode cL_law 657 = .ok (.iadd, 1) := by decide +kernel
theorem dL_law_658 : decode cL_law 658 = .ok (.iaload, 1) := by decide +kernel
theorem dL_law_659 : decode cL_law 659 = .ok (.aload_n 0, 1) := by decide +kernel
theorem dL_law_660 : decode cL_law 660 = .ok (.iload 4, 2) := by decide +kernel
theorem dL_law_662 : decode cL_law 662 = .ok (.iconst 2, 1) := by decide +kernel
theorem dL_law_663 : decode cL_law 663 = .ok (.iadd, 1) := by decide +kernel
theorem dL_law_664 : decode cL_law 664 = .ok (.iaload, 1) := by decide +kernel
theorem dL_law_665 : decode cL_law 665 = .ok (.aload_n 0, 1) := by decide +kernel
theorem dL_law_666 : decode cL_law 666 = .ok (.iload 4, 2) := by decide +kernel
theorem dL_law_668 : decode cL_law 668 = .ok (.iconst 3, 1) := by decide +kernel
theorem dL_law_669 : decode cL_law 669 = .ok (.iadd, 1) := by decide +kernel
theorem dL_law_670 : decode cL_law 670 = .ok (.iaload, 1) := by decide +kernel
theorem dL_law_671 : decode cL_law 671 = .ok (.aload_n 3, 1) := by decide +kernel
theorem dL_law_672 : decode cL_law 672 = .ok (.invokestatic 115, 3) := by decide +kernel
theorem dL_law_675 : decode cL_law 675 = .ok (.istore 5, 2) := by decide +kernel
theorem dL_law_677 : decode cL_law 677 = .ok (.aload_n 2, 1) := by decide +kernel
theorem dL_law_678 : decode cL_law 678 = .ok (.aload_n 0, 1) := by decide +kernel
theorem dL_law_679 : decode cL_law 679 = .ok (.iload 4, 2) := by decide +kernel
theorem dL_law_681 : decode cL_law 681 = .ok (.iconst 1, 1) := by decide +kernel
theorem dL_law_682 : decode cL_law 682 = .ok (.iadd, 1) := by decide +kernel
theorem dL_law_683 : decode cL_law 683 = .ok (.iaload, 1) := by decide +kernel
theorem dL_law_684 : decode cL_law 684 = .ok (.aload_n 0, 1) := by decide +kernel
theorem dL_law_685 : decode cL_law 685 = .ok (.iload 4, 2) := by decide +kernel
theorem dL_law_687 : decode cL_law 687 = .ok (.iconst 2, 1) := by decide +kernel
theorem dL_law_688 : decode cL_law 688 = .ok (.iadd, 1) := by decide +kernel
theorem dL_law_689 : decode cL_law 689 = .ok (.iaload, 1) := by decide +kernel
theorem dL_law_690 : decode cL_law 690 = .ok (.aload_n 0, 1) := by decide +kernel
theorem dL_law_691 : decode cL_law 691 = .ok (.iload 4, 2) := by decide +kernel
theorem dL_law_693 : decode cL_law 693 = .ok (.iconst 3, 1) := by decide +kernel
theorem dL_law_694 : decode cL_law 694 = .ok (.iadd, 1) := by decide +kernel
theorem dL_law_695 : decode cL_law 695 = .ok (.iaload, 1) := by decide +kernel
theorem dL_law_696 : decode cL_law 696 = .ok (.invokevirtual 118, 3) := by decide +kernel
theorem dL_law_699 : decode cL_law 699 = .ok (.istore 6, 2) := by decide +kernel
theorem dL_law_701 : decode cL_law 701 = .ok (.aload_n 2, 1) := by decide +kernel
theorem dL_law_702 : decode cL_law 702 = .ok (.invokevirtual 91, 3) := by decide +kernel
theorem dL_law_705 : decode cL_law 705 = .ok (.iload 5, 2) := by decide +kernel
theorem dL_law_707 : decode cL_law 707 = .ok (.if_icmp .eq 5, 3) := by decide +kernel
theorem dL_law_710 : decode cL_law 710 = .ok (.iconst 0, 1) := by decide +kernel
theorem dL_law_711 : decode cL_law 711 = .ok (.ireturn, 1) := by decide +kernel
theorem dL_law_712 : decode cL_law 712 = .ok (.iload 5, 2) := by decide +kernel
theorem dL_law_714 : decode cL_law 714 = .ok (.ifCond .ne 15, 3) := by decide +kernel
theorem dL_law_717 : decode cL_law 717 = .ok (.aload_n 3, 1) := by decide +kernel
theorem dL_law_718 : decode cL_law 718 = .ok (.iconst 0, 1) := by decide +kernel
theorem dL_law_719 : decode cL_law 719 = .ok (.laload, 1) := by decide +kernel
theorem dL_law_720 : decode cL_law 720 = .ok (.iload 6, 2) := by decide +kernel
theorem dL_law_722 : decode cL_law 722 = .ok (.i2l, 1) := by decide +kernel
theorem dL_law_723 : decode cL_law 723 = .ok (.lcmp, 1) := by decide +kernel
theorem dL_law_724 : decode cL_law 724 = .ok (.ifCond .eq 5, 3) := by decide +kernel
theorem dL_law_727 : decode cL_law 727 = .ok (.iconst 0, 1) := by decide +kernel
theorem dL_law_728 : decode cL_law 728 = .ok (.ireturn, 1) := by decide +kernel
theorem dL_law_729 : decode cL_law 729 = .ok (.goto 909, 3) := by decide +kernel
theorem dL_law_732 : decode cL_law 732 = .ok (.aload_n 1, 1) := by decide +kernel
theorem dL_law_733 : decode cL_law 733 = .ok (.aload_n 0, 1) := by decide +kernel
theorem dL_law_734 : decode cL_law 734 = .ok (.iload 4, 2) := by decide +kernel
theorem dL_law_736 : decode cL_law 736 = .ok (.iconst 1, 1) := by decide +kernel
theorem dL_law_737 : decode cL_law 737 = .ok (.iadd, 1) := by decide +kernel
theorem dL_law_738 : decode cL_law 738 = .ok (.iaload, 1) := by decide +kernel
theorem dL_law_739 : decode cL_law 739 = .ok (.aload_n 0, 1) := by decide +kernel
theorem dL_law_740 : decode cL_law 740 = .ok (.iload 4, 2) := by decide +kernel
theorem dL_law_742 : decode cL_law 742 = .ok (.iconst 2, 1) := by decide +kernel
theorem dL_law_743 : decode cL_law 743 = .ok (.iadd, 1) := by decide +kernel
theorem dL_law_744 : decode cL_law 744 = .ok (.iaload, 1) := by decide +kernel
theorem dL_law_745 : decode cL_law 745 = .ok (.aload_n 0, 1) := by decide +kernel
theorem dL_law_746 : decode cL_law 746 = .ok (.iload 4, 2) := by decide +kernel
theorem dL_law_748 : decode cL_law 748 = .ok (.iconst 3, 1) := by decide +kernel
theorem dL_law_749 : decode cL_law 749 = .ok (.iadd, 1) := by decide +kernel
theorem dL_law_750 : decode cL_law 750 = .ok (.iaload, 1) := by decide +kernel
theorem dL_law_751 : decode cL_law 751 = .ok (.aload_n 3, 1) := by decide +kernel
theorem dL_law_752 : decode cL_law 752 = .ok (.invokestatic 119, 3) := by decide +kernel
theorem dL_law_755 : decode cL_law 755 = .ok (.istore 5, 2) := by decide +kernel
theorem dL_law_757 : decode cL_law 757 = .ok (.aload_n 2, 1) := by decide +kernel
theorem dL_law_758 : decode cL_law 758 = .ok (.aload_n 0, 1) := by decide +kernel
theorem dL_law_759 : decode cL_law 759 = .ok (.iload 4, 2) := by decide +kernel
theorem dL_law_761 : decode cL_law 761 = .ok (.iconst 1, 1) := by decide +kernel
theorem dL_law_762 : decode cL_law 762 = .ok (.iadd, 1) := by decide +kernel
theorem dL_law_763 : decode cL_law 763 = .ok (.iaload, 1) := by decide +kernel
theorem dL_law_764 : decode cL_law 764 = .ok (.aload_n 0, 1) := by decide +kernel
theorem dL_law_765 : decode cL_law 765 = .ok (.iload 4, 2) := by decide +kernel
theorem dL_law_767 : decode cL_law 767 = .ok (.iconst 2, 1) := by decide +kernel
theorem dL_law_768 : decode cL_law 768 = .ok (.iadd, 1) := by decide +kernel
theorem dL_law_769 : decode cL_law 769 = .ok (.iaload, 1) := by decide +kernel
theorem dL_law_770 : decode cL_law 770 = .ok (.aload_n 0, 1) := by decide +kernel
theorem dL_law_771 : decode cL_law 771 = .ok (.iload 4, 2) := by decide +kernel
theorem dL_law_773 : decode cL_law 773 = .ok (.iconst 3, 1) := by decide +kernel
theorem dL_law_774 : decode cL_law 774 = .ok (.iadd, 1) := by decide +kernel
theorem dL_law_775 : decode cL_law 775 = .ok (.iaload, 1) := by decide +kernel
theorem dL_law_776 : decode cL_law 776 = .ok (.invokevirtual 121, 3) := by decide +kernel
theorem dL_law_779 : decode cL_law 779 = .ok (.istore 6, 2) := by decide +kernel
theorem dL_law_781 : decode cL_law 781 = .ok (.aload_n 2, 1) := by decide +kernel
theorem dL_law_782 : decode cL_law 782 = .ok (.invokevirtual 91, 3) := by decide +kernel
theorem dL_law_785 : decode cL_law 785 = .ok (.iload 5, 2) := by decide +kernel
theorem dL_law_787 : decode cL_law 787 = .ok (.if_icmp .eq 5, 3) := by decide +kernel
theorem dL_law_790 : decode cL_law 790 = .ok (.iconst 0, 1) := by decide +kernel
theorem dL_law_791 : decode cL_law 791 = .ok (.ireturn, 1) := by decide +kernel
theorem dL_law_792 : decode cL_law 792 = .ok (.iload 5, 2) := by decide +kernel
theorem dL_law_794 : decode cL_law 794 = .ok (.ifCond .ne 22, 3) := by decide +kernel
theorem dL_law_797 : decode cL_law 797 = .ok (.aload_n 3, 1) := by decide +kernel
theorem dL_law_798 : decode cL_law 798 = .ok (.iconst 0, 1) := by decide +kernel
theorem dL_law_799 : decode cL_law 799 = .ok (.laload, 1) := by decide +kernel
theorem dL_law_800 : decode cL_law 800 = .ok (.iload 6, 2) := by decide +kernel
theorem dL_law_802 : decode cL_law 802 = .ok (.ifCond .eq 7, 3) := by decide +kernel
theorem dL_law_805 : decode cL_law 805 = .ok (.lconst 1, 1) := by decide +kernel
theorem dL_law_806 : decode cL_law 806 = .ok (.goto 4, 3) := by decide +kernel
theorem dL_law_809 : decode cL_law 809 = .ok (.lconst 0, 1) := by decide +kernel
theorem dL_law_810 : decode cL_law 810 = .ok (.lcmp, 1) := by decide +kernel
theorem dL_law_811 : decode cL_law 811 = .ok (.ifCond .eq 5, 3) := by decide +kernel
theorem dL_law_814 : decode cL_law 814 = .ok (.iconst 0, 1) := by decide +kernel
theorem dL_law_815 : decode cL_law 815 = .ok (.ireturn, 1) := by decide +kernel
theorem dL_law_816 : decode cL_law 816 = .ok (.goto 822, 3) := by decide +kernel
theorem dL_law_819 : decode cL_law 819 = .ok (.aload_n 1, 1) := by decide +kernel
theorem dL_law_820 : decode cL_law 820 = .ok (.aload_n 0, 1) := by decide +kernel
theorem dL_law_821 : decode cL_law 821 = .ok (.iload 4, 2) := by decide +kernel
theorem dL_law_823 : decode cL_law 823 = .ok (.iconst 1, 1) := by decide +kernel
theorem dL_law_824 : decode cL_law 824 = .ok (.iadd, 1) := by decide +kernel
theorem dL_law_825 : decode cL_law 825 = .ok (.iaload, 1) := by decide +kernel
theorem dL_law_826 : decode cL_law 826 = .ok (.aload_n 3, 1) := by decide +kernel
theorem dL_law_827 : decode cL_law 827 = .ok (.invokestatic 122, 3) := by decide +kernel
theorem dL_law_830 : decode cL_law 830 = .ok (.istore 5, 2) := by decide +kernel
theorem dL_law_832 : decode cL_law 832 = .ok (.aload_n 2, 1) := by decide +kernel
theorem dL_law_833 : decode cL_law 833 = .ok (.aload_n 0, 1) := by decide +kernel
theorem dL_law_834 : decode cL_law 834 = .ok (.iload 4, 2) := by decide +kernel
theorem dL_law_836 : decode cL_law 836 = .ok (.iconst 1, 1) := by decide +kernel
theorem dL_law_837 : decode cL_law 837 = .ok (.iadd, 1) := by decide +kernel
theorem dL_law_838 : decode cL_law 838 = .ok (.iaload, 1) := by decide +kernel
theorem dL_law_839 : decode cL_law 839 = .ok (.invokevirtual 124, 3) := by decide +kernel
theorem dL_law_842 : decode cL_law 842 = .ok (.istore 6, 2) := by decide +kernel
theorem dL_law_844 : decode cL_law 844 = .ok (.aload_n 2, 1) := by decide +kernel
theorem dL_law_845 : decode cL_law 845 = .ok (.invokevirtual 91, 3) := by decide +kernel
theorem dL_law_848 : decode cL_law 848 = .ok (.iload 5, 2) := by decide +kernel
theorem dL_law_850 : decode cL_law 850 = .ok (.if_icmp .eq 5, 3) := by decide +kernel
theorem dL_law_853 : decode cL_law 853 = .ok (.iconst 0, 1) := by decide +kernel
theorem dL_law_854 : decode cL_law 854 = .ok (.ireturn, 1) := by decide +kernel
theorem dL_law_855 : decode cL_law 855 = .ok (.iload 5, 2) := by decide +kernel
theorem dL_law_857 : decode cL_law 857 = .ok (.ifCond .ne 15, 3) := by decide +kernel
theorem dL_law_860 : decode cL_law 860 = .ok (.aload_n 3, 1) := by decide +kernel
theorem dL_law_861 : decode cL_law 861 = .ok (.iconst 0, 1) := by decide +kernel
theorem dL_law_862 : decode cL_law 862 = .ok (.laload, 1) := by decide +kernel
theorem dL_law_863 : decode cL_law 863 = .ok (.iload 6, 2) := by decide +kernel
theorem dL_law_865 : decode cL_law 865 = .ok (.i2l, 1) := by decide +kernel
theorem dL_law_866 : decode cL_law 866 = .ok (.lcmp, 1) := by decide +kernel
theorem dL_law_867 : decode cL_law 867 = .ok (.ifCond .eq 5, 3) := by decide +kernel
theorem dL_law_870 : decode cL_law 870 = .ok (.iconst 0, 1) := by decide +kernel
theorem dL_law_871 : decode cL_law 871 = .ok (.ireturn, 1) := by decide +kernel
theorem dL_law_872 : decode cL_law 872 = .ok (.goto 766, 3) := by decide +kernel
theorem dL_law_875 : decode cL_law 875 = .ok (.aload_n 1, 1) := by decide +kernel
theorem dL_law_876 : decode cL_law 876 = .ok (.invokevirtual 125, 3) := by decide +kernel
theorem dL_law_879 : decode cL_law 879 = .ok (.aload_n 2, 1) := by decide +kernel
theorem dL_law_880 : decode cL_law 880 = .ok (.invokevirtual 128, 3) := by decide +kernel
theorem dL_law_883 : decode cL_law 883 = .ok (.if_icmp .eq 755, 3) := by decide +kernel
theorem dL_law_886 : decode cL_law 886 = .ok (.iconst 0, 1) := by decide +kernel
theorem dL_law_887 : decode cL_law 887 = .ok (.ireturn, 1) := by decide +kernel
theorem dL_law_888 : decode cL_law 888 = .ok (.aload_n 1, 1) := by decide +kernel
theorem dL_law_889 : decode cL_law 889 = .ok (.aload_n 0, 1) := by decide +kernel
theorem dL_law_890 : decode cL_law 890 = .ok (.iload 4, 2) := by decide +kernel
theorem dL_law_892 : decode cL_law 892 = .ok (.iconst 1, 1) := by decide +kernel
theorem dL_law_893 : decode cL_law 893 = .ok (.iadd, 1) := by decide +kernel
theorem dL_law_894 : decode cL_law 894 = .ok (.iaload, 1) := by decide +kernel
theorem dL_law_895 : decode cL_law 895 = .ok (.aload_n 3, 1) := by decide +kernel
theorem dL_law_896 : decode cL_law 896 = .ok (.invokestatic 129, 3) := by decide +kernel
theorem dL_law_899 : decode cL_law 899 = .ok (.istore 5, 2) := by decide +kernel
theorem dL_law_901 : decode cL_law 901 = .ok (.aload_n 2, 1) := by decide +kernel
theorem dL_law_902 : decode cL_law 902 = .ok (.aload_n 0, 1) := by decide +kernel
theorem dL_law_903 : decode cL_law 903 = .ok (.iload 4, 2) := by decide +kernel
theorem dL_law_905 : decode cL_law 905 = .ok (.iconst 1, 1) := by decide +kernel
theorem dL_law_906 : decode cL_law 906 = .ok (.iadd, 1) := by decide +kernel
theorem dL_law_907 : decode cL_law 907 = .ok (.iaload, 1) := by decide +kernel
theorem dL_law_908 : decode cL_law 908 = .ok (.invokevirtual 131, 3) := by decide +kernel
theorem dL_law_911 : decode cL_law 911 = .ok (.istore 6, 2) := by decide +kernel
theorem dL_law_913 : decode cL_law 913 = .ok (.aload_n 2, 1) := by decide +kernel
theorem dL_law_914 : decode cL_law 914 = .ok (.invokevirtual 91, 3) := by decide +kernel
theorem dL_law_917 : decode cL_law 917 = .ok (.iload 5, 2) := by decide +kernel
theorem dL_law_919 : decode cL_law 919 = .ok (.if_icmp .eq 5, 3) := by decide +kernel
theorem dL_law_922 : decode cL_law 922 = .ok (.iconst 0, 1) := by decide +kernel
theorem dL_law_923 : decode cL_law 923 = .ok (.ireturn, 1) := by decide +kernel
theorem dL_law_924 : decode cL_law 924 = .ok (.iload 5, 2) := by decide +kernel
theorem dL_law_926 : decode cL_law 926 = .ok (.ifCond .ne 15, 3) := by decide +kernel
theorem dL_law_929 : decode cL_law 929 = .ok (.aload_n 3, 1) := by decide +kernel
theorem dL_law_930 : decode cL_law 930 = .ok (.iconst 0, 1) := by decide +kernel
theorem dL_law_931 : decode cL_law 931 = .ok (.laload, 1) := by decide +kernel
theorem dL_law_932 : decode cL_law 932 = .ok (.iload 6, 2) := by decide +kernel
theorem dL_law_934 : decode cL_law 934 = .ok (.i2l, 1) := by decide +kernel
theorem dL_law_935 : decode cL_law 935 = .ok (.lcmp, 1) := by decide +kernel
theorem dL_law_936 : decode cL_law 936 = .ok (.ifCond .eq 5, 3) := by decide +kernel
theorem dL_law_939 : decode cL_law 939 = .ok (.iconst 0, 1) := by decide +kernel
theorem dL_law_940 : decode cL_law 940 = .ok (.ireturn, 1) := by decide +kernel
theorem dL_law_941 : decode cL_law 941 = .ok (.goto 697, 3) := by decide +kernel
theorem dL_law_944 : decode cL_law 944 = .ok (.aload_n 1, 1) := by decide +kernel
theorem dL_law_945 : decode cL_law 945 = .ok (.aload_n 0, 1) := by decide +kernel
theorem dL_law_946 : decode cL_law 946 = .ok (.iload 4, 2) := by decide +kernel
theorem dL_law_948 : decode cL_law 948 = .ok (.iconst 1, 1) := by decide +kernel
theorem dL_law_949 : decode cL_law 949 = .ok (.iadd, 1) := by decide +kernel
theorem dL_law_950 : decode cL_law 950 = .ok (.iaload, 1) := by decide +kernel
theorem dL_law_951 : decode cL_law 951 = .ok (.aload_n 3, 1) := by decide +kernel
theorem dL_law_952 : decode cL_law 952 = .ok (.invokestatic 132, 3) := by decide +kernel
theorem dL_law_955 : decode cL_law 955 = .ok (.istore 5, 2) := by decide +kernel
theorem dL_law_957 : decode cL_law 957 = .ok (.aload_n 2, 1) := by decide +kernel
theorem dL_law_958 : decode cL_law 958 = .ok (.aload_n 0, 1) := by decide +kernel
theorem dL_law_959 : decode cL_law 959 = .ok (.iload 4, 2) := by decide +kernel
theorem dL_law_961 : decode cL_law 961 = .ok (.iconst 1, 1) := by decide +kernel
theorem dL_law_962 : decode cL_law 962 = .ok (.iadd, 1) := by decide +kernel
theorem dL_law_963 : decode cL_law 963 = .ok (.iaload, 1) := by decide +kernel
theorem dL_law_964 : decode cL_law 964 = .ok (.invokevirtual 134, 3) := by decide +kernel
theorem dL_law_967 : decode cL_law 967 = .ok (.istore 6, 2) := by decide +kernel
theorem dL_law_969 : decode cL_law 969 = .ok (.aload_n 2, 1) := by decide +kernel
theorem dL_law_970 : decode cL_law 970 = .ok (.invokevirtual 91, 3) := by decide +kernel
theorem dL_law_973 : decode cL_law 973 = .ok (.iload 5, 2) := by decide +kernel
theorem dL_law_975 : decode cL_law 975 = .ok (.if_icmp .eq 5, 3) := by decide +kernel
theorem dL_law_978 : decode cL_law 978 = .ok (.iconst 0, 1) := by decide +kernel
theorem dL_law_979 : decode cL_law 979 = .ok (.ireturn, 1) := by decide +kernel
theorem dL_law_980 : decode cL_law 980 = .ok (.iload 5, 2) := by decide +kernel
theorem dL_law_982 : decode cL_law 982 = .ok (.ifCond .ne 15, 3) := by decide +kernel
theorem dL_law_985 : decode cL_law 985 = .ok (.aload_n 3, 1) := by decide +kernel
theorem dL_law_986 : decode cL_law 986 = .ok (.iconst 0, 1) := by decide +kernel
theorem dL_law_987 : decode cL_law 987 = .ok (.laload, 1) := by decide +kernel
theorem dL_law_988 : decode cL_law 988 = .ok (.iload 6, 2) := by decide +kernel
theorem dL_law_990 : decode cL_law 990 = .ok (.i2l, 1) := by decide +kernel
theorem dL_law_991 : decode cL_law 991 = .ok (.lcmp, 1) := by decide +kernel
theorem dL_law_992 : decode cL_law 992 = .ok (.ifCond .eq 5, 3) := by decide +kernel
theorem dL_law_995 : decode cL_law 995 = .ok (.iconst 0, 1) := by decide +kernel
theorem dL_law_996 : decode cL_law 996 = .ok (.ireturn, 1) := by decide +kernel
theorem dL_law_997 : decode cL_law 997 = .ok (.goto 641, 3) := by decide +kernel
theorem dL_law_1000 : decode cL_law 1000 = .ok (.aload_n 1, 1) := by decide +kernel
theorem dL_law_1001 : decode cL_law 1001 = .ok (.aload_n 0, 1) := by decide +kernel
theorem dL_law_1002 : decode cL_law 1002 = .ok (.iload 4, 2) := by decide +kernel
theorem dL_law_1004 : decode cL_law 1004 = .ok (.iconst 1, 1) := by decide +kernel
theorem dL_law_1005 : decode cL_law 1005 = .ok (.iadd, 1) := by decide +kernel
theorem dL_law_1006 : decode cL_law 1006 = .ok (.iaload, 1) := by decide +kernel
theorem dL_law_1007 : decode cL_law 1007 = .ok (.aload_n 3, 1) := by decide +kernel
theorem dL_law_1008 : decode cL_law 1008 = .ok (.invokestatic 135, 3) := by decide +kernel
theorem dL_law_1011 : decode cL_law 1011 = .ok (.istore 5, 2) := by decide +kernel
theorem dL_law_1013 : decode cL_law 1013 = .ok (.aload_n 2, 1) := by decide +kernel
theorem dL_law_1014 : decode cL_law 1014 = .ok (.aload_n 0, 1) := by decide +kernel
theorem dL_law_1015 : decode cL_law 1015 = .ok (.iload 4, 2) := by decide +kernel
theorem dL_law_1017 : decode cL_law 1017 = .ok (.iconst 1, 1) := by decide +kernel
theorem dL_law_1018 : decode cL_law 1018 = .ok (.iadd, 1) := by decide +kernel
theorem dL_law_1019 : decode cL_law 1019 = .ok (.iaload, 1) := by decide +kernel
theorem dL_law_1020 : decode cL_law 1020 = .ok (.invokevirtual 137, 3) := by decide +kernel
theorem dL_law_1023 : decode cL_law 1023 = .ok (.istore 6, 2) := by decide +kernel
theorem dL_law_1025 : decode cL_law 1025 = .ok (.aload_n 2, 1) := by decide +kernel
theorem dL_law_1026 : decode cL_law 1026 = .ok (.invokevirtual 91, 3) := by decide +kernel
theorem dL_law_1029 : decode cL_law 1029 = .ok (.iload 5, 2) := by decide +kernel
theorem dL_law_1031 : decode cL_law 1031 = .ok (.if_icmp .eq 5, 3) := by decide +kernel
theorem dL_law_1034 : decode cL_law 1034 = .ok (.iconst 0, 1) := by decide +kernel
theorem dL_law_1035 : decode cL_law 1035 = .ok (.ireturn, 1) := by decide +kernel
theorem dL_law_1036 : decode cL_law 1036 = .ok (.iload 5, 2) := by decide +kernel
theorem dL_law_1038 : decode cL_law 1038 = .ok (.ifCond .ne 15, 3) := by decide +kernel
theorem dL_law_1041 : decode cL_law 1041 = .ok (.aload_n 3, 1) := by decide +kernel
theorem dL_law_1042 : decode cL_law 1042 = .ok (.iconst 0, 1) := by decide +kernel
theorem dL_law_1043 : decode cL_law 1043 = .ok (.laload, 1) := by decide +kernel
theorem dL_law_1044 : decode cL_law 1044 = .ok (.iload 6, 2) := by decide +kernel
theorem dL_law_1046 : decode cL_law 1046 = .ok (.i2l, 1) := by decide +kernel
theorem dL_law_1047 : decode cL_law 1047 = .ok (.lcmp, 1) := by decide +kernel
theorem dL_law_1048 : decode cL_law 1048 = .ok (.ifCond .eq 5, 3) := by decide +kernel
theorem dL_law_1051 : decode cL_law 1051 = .ok (.iconst 0, 1) := by decide +kernel
theorem dL_law_1052 : decode cL_law 1052 = .ok (.ireturn, 1) := by decide +kernel
theorem dL_law_1053 : decode cL_law 1053 = .ok (.goto 585, 3) := by decide +kernel
theorem dL_law_1056 : decode cL_law 1056 = .ok (.aload_n 1, 1) := by decide +kernel
theorem dL_law_1057 : decode cL_law 1057 = .ok (.aload_n 0, 1) := by decide +kernel
theorem dL_law_1058 : decode cL_law 1058 = .ok (.iload 4, 2) := by decide +kernel
theorem dL_law_1060 : decode cL_law 1060 = .ok (.iconst 1, 1) := by decide +kernel
theorem dL_law_1061 : decode cL_law 1061 = .ok (.iadd, 1) := by decide +kernel
theorem dL_law_1062 : decode cL_law 1062 = .ok (.iaload, 1) := by decide +kernel
theorem dL_law_1063 : decode cL_law 1063 = .ok (.aload_n 0, 1) := by decide +kernel
theorem dL_law_1064 : decode cL_law 1064 = .ok (.iload 4, 2) := by decide +kernel
theorem dL_law_1066 : decode cL_law 1066 = .ok (.iconst 2, 1) := by decide +kernel
theorem dL_law_1067 : decode cL_law 1067 = .ok (.iadd, 1) := by decide +kernel
theorem dL_law_1068 : decode cL_law 1068 = .ok (.iaload, 1) := by decide +kernel
theorem dL_law_1069 : decode cL_law 1069 = .ok (.aload_n 3, 1) := by decide +kernel
theorem dL_law_1070 : decode cL_law 1070 = .ok (.invokestatic 138, 3) := by decide +kernel
theorem dL_law_1073 : decode cL_law 1073 = .ok (.istore 5, 2) := by decide +kernel
theorem dL_law_1075 : decode cL_law 1075 = .ok (.aload_n 2, 1) := by decide +kernel
theorem dL_law_1076 : decode cL_law 1076 = .ok (.aload_n 0, 1) := by decide +kernel
theorem dL_law_1077 : decode cL_law 1077 = .ok (.iload 4, 2) := by decide +kernel
theorem dL_law_1079 : decode cL_law 1079 = .ok (.iconst 1, 1) := by decide +kernel
theorem dL_law_1080 : decode cL_law 1080 = .ok (.iadd, 1) := by decide +kernel
theorem dL_law_1081 : decode cL_law 1081 = .ok (.iaload, 1) := by decide +kernel
theorem dL_law_1082 : decode cL_law 1082 = .ok (.aload_n 0, 1) := by decide +kernel
theorem dL_law_1083 : decode cL_law 1083 = .ok (.iload 4, 2) := by decide +kernel
theorem dL_law_1085 : decode cL_law 1085 = .ok (.iconst 2, 1) := by decide +kernel
theorem dL_law_1086 : decode cL_law 1086 = .ok (.iadd, 1) := by decide +kernel
theorem dL_law_1087 : decode cL_law 1087 = .ok (.iaload, 1) := by decide +kernel
theorem dL_law_1088 : decode cL_law 1088 = .ok (.invokevirtual 140, 3) := by decide +kernel
theorem dL_law_1091 : decode cL_law 1091 = .ok (.istore 6, 2) := by decide +kernel
theorem dL_law_1093 : decode cL_law 1093 = .ok (.aload_n 2, 1) := by decide +kernel
theorem dL_law_1094 : decode cL_law 1094 = .ok (.invokevirtual 91, 3) := by decide +kernel
theorem dL_law_1097 : decode cL_law 1097 = .ok (.iload 5, 2) := by decide +kernel
theorem dL_law_1099 : decode cL_law 1099 = .ok (.if_icmp .eq 5, 3) := by decide +kernel
theorem dL_law_1102 : decode cL_law 1102 = .ok (.iconst 0, 1) := by decide +kernel
theorem dL_law_1103 : decode cL_law 1103 = .ok (.ireturn, 1) := by decide +kernel
theorem dL_law_1104 : decode cL_law 1104 = .ok (.iload 5, 2) := by decide +kernel
theorem dL_law_1106 : decode cL_law 1106 = .ok (.ifCond .ne 15, 3) := by decide +kernel
theorem dL_law_1109 : decode cL_law 1109 = .ok (.aload_n 3, 1) := by decide +kernel
theorem dL_law_1110 : decode cL_law 1110 = .ok (.iconst 0, 1) := by decide +kernel
theorem dL_law_1111 : decode cL_law 1111 = .ok (.laload, 1) := by decide +kernel
theorem dL_law_1112 : decode cL_law 1112 = .ok (.iload 6, 2) := by decide +kernel
theorem dL_law_1114 : decode cL_law 1114 = .ok (.i2l, 1) := by decide +kernel
theorem dL_law_1115 : decode cL_law 1115 = .ok (.lcmp, 1) := by decide +kernel
theorem dL_law_1116 : decode cL_law 1116 = .ok (.ifCond .eq 5, 3) := by decide +kernel
theorem dL_law_1119 : decode cL_law 1119 = .ok (.iconst 0, 1) := by decide +kernel
theorem dL_law_1120 : decode cL_law 1120 = .ok (.ireturn, 1) := by decide +kernel
theorem dL_law_1121 : decode cL_law 1121 = .ok (.goto 517, 3) := by decide +kernel
theorem dL_law_1124 : decode cL_law 1124 = .ok (.aload_n 1, 1) := by decide +kernel
theorem dL_law_1125 : decode cL_law 1125 = .ok (.invokevirtual 141, 3) := by decide +kernel
theorem dL_law_1128 : decode cL_law 1128 = .ok (.aload_n 2, 1) := by decide +kernel
theorem dL_law_1129 : decode cL_law 1129 = .ok (.invokevirtual 144, 3) := by decide +kernel
theorem dL_law_1132 : decode cL_law 1132 = .ok (.if_icmp .eq 506, 3) := by decide +kernel
theorem dL_law_1135 : decode cL_law 1135 = .ok (.iconst 0, 1) := by decide +kernel
theorem dL_law_1136 : decode cL_law 1136 = .ok (.ireturn, 1) := by decide +kernel
theorem dL_law_1137 : decode cL_law 1137 = .ok (.aload_n 1, 1) := by decide +kernel
theorem dL_law_1138 : decode cL_law 1138 = .ok (.aload_n 0, 1) := by decide +kernel
theorem dL_law_1139 : decode cL_law 1139 = .ok (.iload 4, 2) := by decide +kernel
theorem dL_law_1141 : decode cL_law 1141 = .ok (.iconst 1, 1) := by decide +kernel
theorem dL_law_1142 : decode cL_law 1142 = .ok (.iadd, 1) := by decide +kernel
theorem dL_law_1143 : decode cL_law 1143 = .ok (.iaload, 1) := by decide +kernel
theorem dL_law_1144 : decode cL_law 1144 = .ok (.aload_n 0, 1) := by decide +kernel
theorem dL_law_1145 : decode cL_law 1145 = .ok (.iload 4, 2) := by decide +kernel
theorem dL_law_1147 : decode cL_law 1147 = .ok (.iconst 2, 1) := by decide +kernel
theorem dL_law_1148 : decode cL_law 1148 = .ok (.iadd, 1) := by decide +kernel
theorem dL_law_1149 : decode cL_law 1149 = .ok (.iaload, 1) := by decide +kernel
theorem dL_law_1150 : decode cL_law 1150 = .ok (.aload_n 0, 1) := by decide +kernel
theorem dL_law_1151 : decode cL_law 1151 = .ok (.iload 4, 2) := by decide +kernel
theorem dL_law_1153 : decode cL_law 1153 = .ok (.iconst 3, 1) := by decide +kernel
theorem dL_law_1154 : decode cL_law 1154 = .ok (.iadd, 1) := by decide +kernel
theorem dL_law_1155 : decode cL_law 1155 = .ok (.iaload, 1) := by decide +kernel
theorem dL_law_1156 : decode cL_law 1156 = .ok (.aload_n 3, 1) := by decide +kernel
theorem dL_law_1157 : decode cL_law 1157 = .ok (.invokestatic 145, 3) := by decide +kernel
theorem dL_law_1160 : decode cL_law 1160 = .ok (.istore 5, 2) := by decide +kernel
theorem dL_law_1162 : decode cL_law 1162 = .ok (.aload_n 2, 1) := by decide +kernel
theorem dL_law_1163 : decode cL_law 1163 = .ok (.aload_n 0, 1) := by decide +kernel
theorem dL_law_1164 : decode cL_law 1164 = .ok (.iload 4, 2) := by decide +kernel
theorem dL_law_1166 : decode cL_law 1166 = .ok (.iconst 1, 1) := by decide +kernel
theorem dL_law_1167 : decode cL_law 1167 = .ok (.iadd, 1) := by decide +kernel
theorem dL_law_1168 : decode cL_law 1168 = .ok (.iaload, 1) := by decide +kernel
theorem dL_law_1169 : decode cL_law 1169 = .ok (.aload_n 0, 1) := by decide +kernel
theorem dL_law_1170 : decode cL_law 1170 = .ok (.iload 4, 2) := by decide +kernel
theorem dL_law_1172 : decode cL_law 1172 = .ok (.iconst 2, 1) := by decide +kernel
theorem dL_law_1173 : decode cL_law 1173 = .ok (.iadd, 1) := by decide +kernel
theorem dL_law_1174 : decode cL_law 1174 = .ok (.iaload, 1) := by decide +kernel
theorem dL_law_1175 : decode cL_law 1175 = .ok (.aload_n 0, 1) := by decide +kernel
theorem dL_law_1176 : decode cL_law 1176 = .ok (.iload 4, 2) := by decide +kernel
theorem dL_law_1178 : decode cL_law 1178 = .ok (.iconst 3, 1) := by decide +kernel
theorem dL_law_1179 : decode cL_law 1179 = .ok (.iadd, 1) := by decide +kernel
theorem dL_law_1180 : decode cL_law 1180 = .ok (.iaload, 1) := by decide +kernel
theorem dL_law_1181 : decode cL_law 1181 = .ok (.invokevirtual 147, 3) := by decide +kernel
theorem dL_law_1184 : decode cL_law 1184 = .ok (.istore 6, 2) := by decide +kernel
theorem dL_law_1186 : decode cL_law 1186 = .ok (.aload_n 2, 1) := by decide +kernel
theorem dL_law_1187 : decode cL_law 1187 = .ok (.invokevirtual 91, 3) := by decide +kernel
theorem dL_law_1190 : decode cL_law 1190 = .ok (.iload 5, 2) := by decide +kernel
theorem dL_law_1192 : decode cL_law 1192 = .ok (.if_icmp .eq 5, 3) := by decide +kernel
theorem dL_law_1195 : decode cL_law 1195 = .ok (.iconst 0, 1) := by decide +kernel
theorem dL_law_1196 : decode cL_law 1196 = .ok (.ireturn, 1) := by decide +kernel
theorem dL_law_1197 : decode cL_law 1197 = .ok (.iload 5, 2) := by decide +kernel
theorem dL_law_1199 : decode cL_law 1199 = .ok (.ifCond .ne 15, 3) := by decide +kernel
theorem dL_law_1202 : decode cL_law 1202 = .ok (.aload_n 3, 1) := by decide +kernel
theorem dL_law_1203 : decode cL_law 1203 = .ok (.iconst 0, 1) := by decide +kernel
theorem dL_law_1204 : decode cL_law 1204 = .ok (.laload, 1) := by decide +kernel
theorem dL_law_1205 : decode cL_law 1205 = .ok (.iload 6, 2) := by decide +kernel
theorem dL_law_1207 : decode cL_law 1207 = .ok (.i2l, 1) := by decide +kernel
theorem dL_law_1208 : decode cL_law 1208 = .ok (.lcmp, 1) := by decide +kernel
theorem dL_law_1209 : decode cL_law 1209 = .ok (.ifCond .eq 5, 3) := by decide +kernel
theorem dL_law_1212 : decode cL_law 1212 = .ok (.iconst 0, 1) := by decide +kernel
theorem dL_law_1213 : decode cL_law 1213 = .ok (.ireturn, 1) := by decide +kernel
theorem dL_law_1214 : decode cL_law 1214 = .ok (.goto 424, 3) := by decide +kernel
theorem dL_law_1217 : decode cL_law 1217 = .ok (.aload_n 1, 1) := by decide +kernel
theorem dL_law_1218 : decode cL_law 1218 = .ok (.aload_n 0, 1) := by decide +kernel
theorem dL_law_1219 : decode cL_law 1219 = .ok (.iload 4, 2) := by decide +kernel
theorem dL_law_1221 : decode cL_law 1221 = .ok (.iconst 1, 1) := by decide +kernel
theorem dL_law_1222 : decode cL_law 1222 = .ok (.iadd, 1) := by decide +kernel
theorem dL_law_1223 : decode cL_law 1223 = .ok (.iaload, 1) := by decide +kernel
theorem dL_law_1224 : decode cL_law 1224 = .ok (.aload_n 0, 1) := by decide +kernel
theorem dL_law_1225 : decode cL_law 1225 = .ok (.iload 4, 2) := by decide +kernel
theorem dL_law_1227 : decode cL_law 1227 = .ok (.iconst 2, 1) := by decide +kernel
theorem dL_law_1228 : decode cL_law 1228 = .ok (.iadd, 1) := by decide +kernel
theorem dL_law_1229 : decode cL_law 1229 = .ok (.iaload, 1) := by decide +kernel
theorem dL_law_1230 : decode cL_law 1230 = .ok (.aload_n 0, 1) := by decide +kernel
theorem dL_law_1231 : decode cL_law 1231 = .ok (.iload 4, 2) := by decide +kernel
theorem dL_law_1233 : decode cL_law 1233 = .ok (.iconst 3, 1) := by decide +kernel
theorem dL_law_1234 : decode cL_law 1234 = .ok (.iadd, 1) := by decide +kernel
theorem dL_law_1235 : decode cL_law 1235 = .ok (.iaload, 1) := by decide +kernel
theorem dL_law_1236 : decode cL_law 1236 = .ok (.aload_n 3, 1) := by decide +kernel
theorem dL_law_1237 : decode cL_law 1237 = .ok (.invokestatic 148, 3) := by decide +kernel
theorem dL_law_1240 : decode cL_law 1240 = .ok (.istore 5, 2) := by decide +kernel
theorem dL_law_1242 : decode cL_law 1242 = .ok (.aload_n 2, 1) := by decide +kernel
theorem dL_law_1243 : decode cL_law 1243 = .ok (.aload_n 0, 1) := by decide +kernel
theorem dL_law_1244 : decode cL_law 1244 = .ok (.iload 4, 2) := by decide +kernel
theorem dL_law_1246 : decode cL_law 1246 = .ok (.iconst 1, 1) := by decide +kernel
theorem dL_law_1247 : decode cL_law 1247 = .ok (.iadd, 1) := by decide +kernel
theorem dL_law_1248 : decode cL_law 1248 = .ok (.iaload, 1) := by decide +kernel
theorem dL_law_1249 : decode cL_law 1249 = .ok (.aload_n 0, 1) := by decide +kernel
theorem dL_law_1250 : decode cL_law 1250 = .ok (.iload 4, 2) := by decide +kernel
theorem dL_law_1252 : decode cL_law 1252 = .ok (.iconst 2, 1) := by decide +kernel
theorem dL_law_1253 : decode cL_law 1253 = .ok (.iadd, 1) := by decide +kernel
theorem dL_law_1254 : decode cL_law 1254 = .ok (.iaload, 1) := by decide +kernel
theorem dL_law_1255 : decode cL_law 1255 = .ok (.aload_n 0, 1) := by decide +kernel
theorem dL_law_1256 : decode cL_law 1256 = .ok (.iload 4, 2) := by decide +kernel
theorem dL_law_1258 : decode cL_law 1258 = .ok (.iconst 3, 1) := by decide +kernel
theorem dL_law_1259 : decode cL_law 1259 = .ok (.iadd, 1) := by decide +kernel
theorem dL_law_1260 : decode cL_law 1260 = .ok (.iaload, 1) := by decide +kernel
theorem dL_law_1261 : decode cL_law 1261 = .ok (.invokevirtual 150, 3) := by decide +kernel
theorem dL_law_1264 : decode cL_law 1264 = .ok (.istore 6, 2) := by decide +kernel
theorem dL_law_1266 : decode cL_law 1266 = .ok (.aload_n 2, 1) := by decide +kernel
theorem dL_law_1267 : decode cL_law 1267 = .ok (.invokevirtual 91, 3) := by decide +kernel
theorem dL_law_1270 : decode cL_law 1270 = .ok (.iload 5, 2) := by decide +kernel
theorem dL_law_1272 : decode cL_law 1272 = .ok (.if_icmp .eq 5, 3) := by decide +kernel
theorem dL_law_1275 : decode cL_law 1275 = .ok (.iconst 0, 1) := by decide +kernel
theorem dL_law_1276 : decode cL_law 1276 = .ok (.ireturn, 1) := by decide +kernel
theorem dL_law_1277 : decode cL_law 1277 = .ok (.iload 5, 2) := by decide +kernel
theorem dL_law_1279 : decode cL_law 1279 = .ok (.ifCond .ne 15, 3) := by decide +kernel
theorem dL_law_1282 : decode cL_law 1282 = .ok (.aload_n 3, 1) := by decide +kernel
theorem dL_law_1283 : decode cL_law 1283 = .ok (.iconst 0, 1) := by decide +kernel
theorem dL_law_1284 : decode cL_law 1284 = .ok (.laload, 1) := by decide +kernel
theorem dL_law_1285 : decode cL_law 1285 = .ok (.iload 6, 2) := by decide +kernel
theorem dL_law_1287 : decode cL_law 1287 = .ok (.i2l, 1) := by decide +kernel
theorem dL_law_1288 : decode cL_law 1288 = .ok (.lcmp, 1) := by decide +kernel
theorem dL_law_1289 : decode cL_law 1289 = .ok (.ifCond .eq 5, 3) := by decide +kernel
theorem dL_law_1292 : decode cL_law 1292 = .ok (.iconst 0, 1) := by decide +kernel
theorem dL_law_1293 : decode cL_law 1293 = .ok (.ireturn, 1) := by decide +kernel
theorem dL_law_1294 : decode cL_law 1294 = .ok (.goto 344, 3) := by decide +kernel
theorem dL_law_1297 : decode cL_law 1297 = .ok (.aload_n 1, 1) := by decide +kernel
theorem dL_law_1298 : decode cL_law 1298 = .ok (.aload_n 0, 1) := by decide +kernel
theorem dL_law_1299 : decode cL_law 1299 = .ok (.iload 4, 2) := by decide +kernel
theorem dL_law_1301 : decode cL_law 1301 = .ok (.iconst 1, 1) := by decide +kernel
theorem dL_law_1302 : decode cL_law 1302 = .ok (.iadd, 1) := by decide +kernel
theorem dL_law_1303 : decode cL_law 1303 = .ok (.iaload, 1) := by decide +kernel
theorem dL_law_1304 : decode cL_law 1304 = .ok (.aload_n 0, 1) := by decide +kernel
theorem dL_law_1305 : decode cL_law 1305 = .ok (.iload 4, 2) := by decide +kernel
theorem dL_law_1307 : decode cL_law 1307 = .ok (.iconst 2, 1) := by decide +kernel
theorem dL_law_1308 : decode cL_law 1308 = .ok (.iadd, 1) := by decide +kernel
theorem dL_law_1309 : decode cL_law 1309 = .ok (.iaload, 1) := by decide +kernel
theorem dL_law_1310 : decode cL_law 1310 = .ok (.aload_n 0, 1) := by decide +kernel
theorem dL_law_1311 : decode cL_law 1311 = .ok (.iload 4, 2) := by decide +kernel
theorem dL_law_1313 : decode cL_law 1313 = .ok (.iconst 3, 1) := by decide +kernel
theorem dL_law_1314 : decode cL_law 1314 = .ok (.iadd, 1) := by decide +kernel
theorem dL_law_1315 : decode cL_law 1315 = .ok (.iaload, 1) := by decide +kernel
theorem dL_law_1316 : decode cL_law 1316 = .ok (.aload_n 3, 1) := by decide +kernel
theorem dL_law_1317 : decode cL_law 1317 = .ok (.invokestatic 151, 3) := by decide +kernel
theorem dL_law_1320 : decode cL_law 1320 = .ok (.istore 5, 2) := by decide +kernel
theorem dL_law_1322 : decode cL_law 1322 = .ok (.aload_n 2, 1) := by decide +kernel
theorem dL_law_1323 : decode cL_law 1323 = .ok (.aload_n 0, 1) := by decide +kernel
theorem dL_law_1324 : decode cL_law 1324 = .ok (.iload 4, 2) := by decide +kernel
theorem dL_law_1326 : decode cL_law 1326 = .ok (.iconst 1, 1) := by decide +kernel
theorem dL_law_1327 : decode cL_law 1327 = .ok (.iadd, 1) := by decide +kernel
theorem dL_law_1328 : decode cL_law 1328 = .ok (.iaload, 1) := by decide +kernel
theorem dL_law_1329 : decode cL_law 1329 = .ok (.aload_n 0, 1) := by decide +kernel
theorem dL_law_1330 : decode cL_law 1330 = .ok (.iload 4, 2) := by decide +kernel
theorem dL_law_1332 : decode cL_law 1332 = .ok (.iconst 2, 1) := by decide +kernel
theorem dL_law_1333 : decode cL_law 1333 = .ok (.iadd, 1) := by decide +kernel
theorem dL_law_1334 : decode cL_law 1334 = .ok (.iaload, 1) := by decide +kernel
theorem dL_law_1335 : decode cL_law 1335 = .ok (.aload_n 0, 1) := by decide +kernel
theorem dL_law_1336 : decode cL_law 1336 = .ok (.iload 4, 2) := by decide +kernel
theorem dL_law_1338 : decode cL_law 1338 = .ok (.iconst 3, 1) := by decide +kernel
theorem dL_law_1339 : decode cL_law 1339 = .ok (.iadd, 1) := by decide +kernel
theorem dL_law_1340 : decode cL_law 1340 = .ok (.iaload, 1) := by decide +kernel
theorem dL_law_1341 : decode cL_law 1341 = .ok (.invokevirtual 153, 3) := by decide +kernel
theorem dL_law_1344 : decode cL_law 1344 = .ok (.istore 6, 2) := by decide +kernel
theorem dL_law_1346 : decode cL_law 1346 = .ok (.aload_n 2, 1) := by decide +kernel
theorem dL_law_1347 : decode cL_law 1347 = .ok (.invokevirtual 91, 3) := by decide +kernel
theorem dL_law_1350 : decode cL_law 1350 = .ok (.iload 5, 2) := by decide +kernel
theorem dL_law_1352 : decode cL_law 1352 = .ok (.if_icmp .eq 5, 3) := by decide +kernel
theorem dL_law_1355 : decode cL_law 1355 = .ok (.iconst 0, 1) := by decide +kernel
theorem dL_law_1356 : decode cL_law 1356 = .ok (.ireturn, 1) := by decide +kernel
theorem dL_law_1357 : decode cL_law 1357 = .ok (.iload 5, 2) := by decide +kernel
theorem dL_law_1359 : decode cL_law 1359 = .ok (.ifCond .ne 15, 3) := by decide +kernel
theorem dL_law_1362 : decode cL_law 1362 = .ok (.aload_n 3, 1) := by decide +kernel
theorem dL_law_1363 : decode cL_law 1363 = .ok (.iconst 0, 1) := by decide +kernel
theorem dL_law_1364 : decode cL_law 1364 = .ok (.laload, 1) := by decide +kernel
theorem dL_law_1365 : decode cL_law 1365 = .ok (.iload 6, 2) := by decide +kernel
theorem dL_law_1367 : decode cL_law 1367 = .ok (.i2l, 1) := by decide +kernel
theorem dL_law_1368 : decode cL_law 1368 = .ok (.lcmp, 1) := by decide +kernel
theorem dL_law_1369 : decode cL_law 1369 = .ok (.ifCond .eq 5, 3) := by decide +kernel
theorem dL_law_1372 : decode cL_law 1372 = .ok (.iconst 0, 1) := by decide +kernel
theorem dL_law_1373 : decode cL_law 1373 = .ok (.ireturn, 1) := by decide +kernel
theorem dL_law_1374 : decode cL_law 1374 = .ok (.goto 264, 3) := by decide +kernel
theorem dL_law_1377 : decode cL_law 1377 = .ok (.aload_n 1, 1) := by decide +kernel
theorem dL_law_1378 : decode cL_law 1378 = .ok (.aload_n 0, 1) := by decide +kernel
theorem dL_law_1379 : decode cL_law 1379 = .ok (.iload 4, 2) := by decide +kernel
theorem dL_law_1381 : decode cL_law 1381 = .ok (.iconst 1, 1) := by decide +kernel
theorem dL_law_1382 : decode cL_law 1382 = .ok (.iadd, 1) := by decide +kernel
theorem dL_law_1383 : decode cL_law 1383 = .ok (.iaload, 1) := by decide +kernel
theorem dL_law_1384 : decode cL_law 1384 = .ok (.aload_n 0, 1) := by decide +kernel
theorem dL_law_1385 : decode cL_law 1385 = .ok (.iload 4, 2) := by decide +kernel
theorem dL_law_1387 : decode cL_law 1387 = .ok (.iconst 2, 1) := by decide +kernel
theorem dL_law_1388 : decode cL_law 1388 = .ok (.iadd, 1) := by decide +kernel
theorem dL_law_1389 : decode cL_law 1389 = .ok (.iaload, 1) := by decide +kernel
theorem dL_law_1390 : decode cL_law 1390 = .ok (.aload_n 0, 1) := by decide +kernel
theorem dL_law_1391 : decode cL_law 1391 = .ok (.iload 4, 2) := by decide +kernel
theorem dL_law_1393 : decode cL_law 1393 = .ok (.iconst 3, 1) := by decide +kernel
theorem dL_law_1394 : decode cL_law 1394 = .ok (.iadd, 1) := by decide +kernel
theorem dL_law_1395 : decode cL_law 1395 = .ok (.iaload, 1) := by decide +kernel
theorem dL_law_1396 : decode cL_law 1396 = .ok (.aload_n 0, 1) := by decide +kernel
theorem dL_law_1397 : decode cL_law 1397 = .ok (.iload 4, 2) := by decide +kernel
theorem dL_law_1399 : decode cL_law 1399 = .ok (.iconst 4, 1) := by decide +kernel
theorem dL_law_1400 : decode cL_law 1400 = .ok (.iadd, 1) := by decide +kernel
theorem dL_law_1401 : decode cL_law 1401 = .ok (.iaload, 1) := by decide +kernel
theorem dL_law_1402 : decode cL_law 1402 = .ok (.aload_n 0, 1) := by decide +kernel
theorem dL_law_1403 : decode cL_law 1403 = .ok (.iload 4, 2) := by decide +kernel
theorem dL_law_1405 : decode cL_law 1405 = .ok (.iconst 5, 1) := by decide +kernel
theorem dL_law_1406 : decode cL_law 1406 = .ok (.iadd, 1) := by decide +kernel
theorem dL_law_1407 : decode cL_law 1407 = .ok (.iaload, 1) := by decide +kernel
theorem dL_law_1408 : decode cL_law 1408 = .ok (.aload_n 3, 1) := by decide +kernel
theorem dL_law_1409 : decode cL_law 1409 = .ok (.invokestatic 154, 3) := by decide +kernel
theorem dL_law_1412 : decode cL_law 1412 = .ok (.istore 5, 2) := by decide +kernel
theorem dL_law_1414 : decode cL_law 1414 = .ok (.aload_n 2, 1) := by decide +kernel
theorem dL_law_1415 : decode cL_law 1415 = .ok (.aload_n 0, 1) := by decide +kernel
theorem dL_law_1416 : decode cL_law 1416 = .ok (.iload 4, 2) := by decide +kernel
theorem dL_law_1418 : decode cL_law 1418 = .ok (.iconst 1, 1) := by decide +kernel
theorem dL_law_1419 : decode cL_law 1419 = .ok (.iadd, 1) := by decide +kernel
theorem dL_law_1420 : decode cL_law 1420 = .ok (.iaload, 1) := by decide +kernel
theorem dL_law_1421 : decode cL_law 1421 = .ok (.aload_n 0, 1) := by decide +kernel
theorem dL_law_1422 : decode cL_law 1422 = .ok (.iload 4, 2) := by decide +kernel
theorem dL_law_1424 : decode cL_law 1424 = .ok (.iconst 2, 1) := by decide +kernel
theorem dL_law_1425 : decode cL_law 1425 = .ok (.iadd, 1) := by decide +kernel
theorem dL_law_1426 : decode cL_law 1426 = .ok (.iaload, 1) := by decide +kernel
theorem dL_law_1427 : decode cL_law 1427 = .ok (.aload_n 0, 1) := by decide +kernel
theorem dL_law_1428 : decode cL_law 1428 = .ok (.iload 4, 2) := by decide +kernel
theorem dL_law_1430 : decode cL_law 1430 = .ok (.iconst 3, 1) := by decide +kernel
theorem dL_law_1431 : decode cL_law 1431 = .ok (.iadd, 1) := by decide +kernel
theorem dL_law_1432 : decode cL_law 1432 = .ok (.iaload, 1) := by decide +kernel
theorem dL_law_1433 : decode cL_law 1433 = .ok (.aload_n 0, 1) := by decide +kernel
theorem dL_law_1434 : decode cL_law 1434 = .ok (.iload 4, 2) := by decide +kernel
theorem dL_law_1436 : decode cL_law 1436 = .ok (.iconst 4, 1) := by decide +kernel
theorem dL_law_1437 : decode cL_law 1437 = .ok (.iadd, 1) := by decide +kernel
theorem dL_law_1438 : decode cL_law 1438 = .ok (.iaload, 1) := by decide +kernel
theorem dL_law_1439 : decode cL_law 1439 = .ok (.aload_n 0, 1) := by decide +kernel
theorem dL_law_1440 : decode cL_law 1440 = .ok (.iload 4, 2) := by decide +kernel
theorem dL_law_1442 : decode cL_law 1442 = .ok (.iconst 5, 1) := by decide +kernel
theorem dL_law_1443 : decode cL_law 1443 = .ok (.iadd, 1) := by decide +kernel
theorem dL_law_1444 : decode cL_law 1444 = .ok (.iaload, 1) := by decide +kernel
theorem dL_law_1445 : decode cL_law 1445 = .ok (.invokevirtual 157, 3) := by decide +kernel
theorem dL_law_1448 : decode cL_law 1448 = .ok (.istore 6, 2) := by decide +kernel
theorem dL_law_1450 : decode cL_law 1450 = .ok (.aload_n 2, 1) := by decide +kernel
theorem dL_law_1451 : decode cL_law 1451 = .ok (.invokevirtual 91, 3) := by decide +kernel
theorem dL_law_1454 : decode cL_law 1454 = .ok (.iload 5, 2) := by decide +kernel
theorem dL_law_1456 : decode cL_law 1456 = .ok (.if_icmp .eq 5, 3) := by decide +kernel
theorem dL_law_1459 : decode cL_law 1459 = .ok (.iconst 0, 1) := by decide +kernel
theorem dL_law_1460 : decode cL_law 1460 = .ok (.ireturn, 1) := by decide +kernel
theorem dL_law_1461 : decode cL_law 1461 = .ok (.iload 5, 2) := by decide +kernel
theorem dL_law_1463 : decode cL_law 1463 = .ok (.ifCond .ne 22, 3) := by decide +kernel
theorem dL_law_1466 : decode cL_law 1466 = .ok (.aload_n 3, 1) := by decide +kernel
theorem dL_law_1467 : decode cL_law 1467 = .ok (.iconst 0, 1) := by decide +kernel
theorem dL_law_1468 : decode cL_law 1468 = .ok (.laload, 1) := by decide +kernel
theorem dL_law_1469 : decode cL_law 1469 = .ok (.iload 6, 2) := by decide +kernel
theorem dL_law_1471 : decode cL_law 1471 = .ok (.ifCond .eq 7, 3) := by decide +kernel
theorem dL_law_1474 : decode cL_law 1474 = .ok (.lconst 1, 1) := by decide +kernel
theorem dL_law_1475 : decode cL_law 1475 = .ok (.goto 4, 3) := by decide +kernel
theorem dL_law_1478 : decode cL_law 1478 = .ok (.lconst 0, 1) := by decide +kernel
theorem dL_law_1479 : decode cL_law 1479 = .ok (.lcmp, 1) := by decide +kernel
theorem dL_law_1480 : decode cL_law 1480 = .ok (.ifCond .eq 5, 3) := by decide +kernel
theorem dL_law_1483 : decode cL_law 1483 = .ok (.iconst 0, 1) := by decide +kernel
theorem dL_law_1484 : decode cL_law 1484 = .ok (.ireturn, 1) := by decide +kernel
theorem dL_law_1485 : decode cL_law 1485 = .ok (.goto 153, 3) := by decide +kernel
theorem dL_law_1488 : decode cL_law 1488 = .ok (.aload_n 1, 1) := by decide +kernel
theorem dL_law_1489 : decode cL_law 1489 = .ok (.invokevirtual 158, 3) := by decide +kernel
theorem dL_law_1492 : decode cL_law 1492 = .ok (.aload_n 2, 1) := by decide +kernel
theorem dL_law_1493 : decode cL_law 1493 = .ok (.invokevirtual 162, 3) := by decide +kernel
theorem dL_law_1496 : decode cL_law 1496 = .ok (.if_icmp .eq 142, 3) := by decide +kernel
theorem dL_law_1499 : decode cL_law 1499 = .ok (.iconst 0, 1) := by decide +kernel
theorem dL_law_1500 : decode cL_law 1500 = .ok (.ireturn, 1) := by decide +kernel
theorem dL_law_1501 : decode cL_law 1501 = .ok (.aload_n 1, 1) := by decide +kernel
theorem dL_law_1502 : decode cL_law 1502 = .ok (.invokevirtual 163, 3) := by decide +kernel
theorem dL_law_1505 : decode cL_law 1505 = .ok (.aload_n 2, 1) := by decide +kernel
theorem dL_law_1506 : decode cL_law 1506 = .ok (.invokevirtual 166, 3) := by decide +kernel
theorem dL_law_1509 : decode cL_law 1509 = .ok (.if_icmp .eq 129, 3) := by decide +kernel
theorem dL_law_1512 : decode cL_law 1512 = .ok (.iconst 0, 1) := by decide +kernel
theorem dL_law_1513 : decode cL_law 1513 = .ok (.ireturn, 1) := by decide +kernel
theorem dL_law_1514 : decode cL_law 1514 = .ok (.aload_n 1, 1) := by decide +kernel
theorem dL_law_1515 : decode cL_law 1515 = .ok (.aload_n 0, 1) := by decide +kernel
theorem dL_law_1516 : decode cL_law 1516 = .ok (.iload 4, 2) := by decide +kernel
theorem dL_law_1518 : decode cL_law 1518 = .ok (.iconst 1, 1) := by decide +kernel
theorem dL_law_1519 : decode cL_law 1519 = .ok (.iadd, 1) := by decide +kernel
theorem dL_law_1520 : decode cL_law 1520 = .ok (.iaload, 1) := by decide +kernel
theorem dL_law_1521 : decode cL_law 1521 = .ok (.aload_n 3, 1) := by decide +kernel
theorem dL_law_1522 : decode cL_law 1522 = .ok (.invokestatic 167, 3) := by decide +kernel
theorem dL_law_1525 : decode cL_law 1525 = .ok (.istore 5, 2) := by decide +kernel
theorem dL_law_1527 : decode cL_law 1527 = .ok (.aload_n 2, 1) := by decide +kernel
theorem dL_law_1528 : decode cL_law 1528 = .ok (.aload_n 0, 1) := by decide +kernel
theorem dL_law_1529 : decode cL_law 1529 = .ok (.iload 4, 2) := by decide +kernel
theorem dL_law_1531 : decode cL_law 1531 = .ok (.iconst 1, 1) := by decide +kernel
theorem dL_law_1532 : decode cL_law 1532 = .ok (.iadd, 1) := by decide +kernel
theorem dL_law_1533 : decode cL_law 1533 = .ok (.iaload, 1) := by decide +kernel
theorem dL_law_1534 : decode cL_law 1534 = .ok (.invokevirtual 169, 3) := by decide +kernel
theorem dL_law_1537 : decode cL_law 1537 = .ok (.istore 6, 2) := by decide +kernel
theorem dL_law_1539 : decode cL_law 1539 = .ok (.aload_n 2, 1) := by decide +kernel
theorem dL_law_1540 : decode cL_law 1540 = .ok (.invokevirtual 91, 3) := by decide +kernel
theorem dL_law_1543 : decode cL_law 1543 = .ok (.iload 5, 2) := by decide +kernel
theorem dL_law_1545 : decode cL_law 1545 = .ok (.if_icmp .eq 5, 3) := by decide +kernel
theorem dL_law_1548 : decode cL_law 1548 = .ok (.iconst 0, 1) := by decide +kernel
theorem dL_law_1549 : decode cL_law 1549 = .ok (.ireturn, 1) := by decide +kernel
theorem dL_law_1550 : decode cL_law 1550 = .ok (.iload 5, 2) := by decide +kernel
theorem dL_law_1552 : decode cL_law 1552 = .ok (.ifCond .ne 15, 3) := by decide +kernel
theorem dL_law_1555 : decode cL_law 1555 = .ok (.aload_n 3, 1) := by decide +kernel
theorem dL_law_1556 : decode cL_law 1556 = .ok (.iconst 0, 1) := by decide +kernel
theorem dL_law_1557 : decode cL_law 1557 = .ok (.laload, 1) := by decide +kernel
theorem dL_law_1558 : decode cL_law 1558 = .ok (.iload 6, 2) := by decide +kernel
theorem dL_law_1560 : decode cL_law 1560 = .ok (.i2l, 1) := by decide +kernel
theorem dL_law_1561 : decode cL_law 1561 = .ok (.lcmp, 1) := by decide +kernel
theorem dL_law_1562 : decode cL_law 1562 = .ok (.ifCond .eq 5, 3) := by decide +kernel
theorem dL_law_1565 : decode cL_law 1565 = .ok (.iconst 0, 1) := by decide +kernel
theorem dL_law_1566 : decode cL_law 1566 = .ok (.ireturn, 1) := by decide +kernel
theorem dL_law_1567 : decode cL_law 1567 = .ok (.goto 71, 3) := by decide +kernel
theorem dL_law_1570 : decode cL_law 1570 = .ok (.aload_n 1, 1) := by decide +kernel
theorem dL_law_1571 : decode cL_law 1571 = .ok (.aload_n 0, 1) := by decide +kernel
theorem dL_law_1572 : decode cL_law 1572 = .ok (.iload 4, 2) := by decide +kernel
theorem dL_law_1574 : decode cL_law 1574 = .ok (.iconst 1, 1) := by decide +kernel
theorem dL_law_1575 : decode cL_law 1575 = .ok (.iadd, 1) := by decide +kernel
theorem dL_law_1576 : decode cL_law 1576 = .ok (.iaload, 1) := by decide +kernel
theorem dL_law_1577 : decode cL_law 1577 = .ok (.aload_n 0, 1) := by decide +kernel
theorem dL_law_1578 : decode cL_law 1578 = .ok (.iload 4, 2) := by decide +kernel
theorem dL_law_1580 : decode cL_law 1580 = .ok (.iconst 2, 1) := by decide +kernel
theorem dL_law_1581 : decode cL_law 1581 = .ok (.iadd, 1) := by decide +kernel
theorem dL_law_1582 : decode cL_law 1582 = .ok (.iaload, 1) := by decide +kernel
theorem dL_law_1583 : decode cL_law 1583 = .ok (.aload_n 3, 1) := by decide +kernel
theorem dL_law_1584 : decode cL_law 1584 = .ok (.invokestatic 170, 3) := by decide +kernel
theorem dL_law_1587 : decode cL_law 1587 = .ok (.istore 5, 2) := by decide +kernel
theorem dL_law_1589 : decode cL_law 1589 = .ok (.aload_n 2, 1) := by decide +kernel
theorem dL_law_1590 : decode cL_law 1590 = .ok (.aload_n 0, 1) := by decide +kernel
theorem dL_law_1591 : decode cL_law 1591 = .ok (.iload 4, 2) := by decide +kernel
theorem dL_law_1593 : decode cL_law 1593 = .ok (.iconst 1, 1) := by decide +kernel
theorem dL_law_1594 : decode cL_law 1594 = .ok (.iadd, 1) := by decide +kernel
theorem dL_law_1595 : decode cL_law 1595 = .ok (.iaload, 1) := by decide +kernel
theorem dL_law_1596 : decode cL_law 1596 = .ok (.aload_n 0, 1) := by decide +kernel
theorem dL_law_1597 : decode cL_law 1597 = .ok (.iload 4, 2) := by decide +kernel
theorem dL_law_1599 : decode cL_law 1599 = .ok (.iconst 2, 1) := by decide +kernel
theorem dL_law_1600 : decode cL_law 1600 = .ok (.iadd, 1) := by decide +kernel
theorem dL_law_1601 : decode cL_law 1601 = .ok (.iaload, 1) := by decide +kernel
theorem dL_law_1602 : decode cL_law 1602 = .ok (.invokevirtual 172, 3) := by decide +kernel
theorem dL_law_1605 : decode cL_law 1605 = .ok (.istore 6, 2) := by decide +kernel
theorem dL_law_1607 : decode cL_law 1607 = .ok (.aload_n 2, 1) := by decide +kernel
theorem dL_law_1608 : decode cL_law 1608 = .ok (.invokevirtual 91, 3) := by decide +kernel
theorem dL_law_1611 : decode cL_law 1611 = .ok (.iload 5, 2) := by decide +kernel
theorem dL_law_1613 : decode cL_law 1613 = .ok (.if_icmp .eq 5, 3) := by decide +kernel
theorem dL_law_1616 : decode cL_law 1616 = .ok (.iconst 0, 1) := by decide +kernel
theorem dL_law_1617 : decode cL_law 1617 = .ok (.ireturn, 1) := by decide +kernel
theorem dL_law_1618 : decode cL_law 1618 = .ok (.iload 5, 2) := by decide +kernel
theorem dL_law_1620 : decode cL_law 1620 = .ok (.ifCond .ne 15, 3) := by decide +kernel
theorem dL_law_1623 : decode cL_law 1623 = .ok (.aload_n 3, 1) := by decide +kernel
theorem dL_law_1624 : decode cL_law 1624 = .ok (.iconst 0, 1) := by decide +kernel
theorem dL_law_1625 : decode cL_law 1625 = .ok (.laload, 1) := by decide +kernel
theorem dL_law_1626 : decode cL_law 1626 = .ok (.iload 6, 2) := by decide +kernel
theorem dL_law_1628 : decode cL_law 1628 = .ok (.i2l, 1) := by decide +kernel
theorem dL_law_1629 : decode cL_law 1629 = .ok (.lcmp, 1) := by decide +kernel
theorem dL_law_1630 : decode cL_law 1630 = .ok (.ifCond .eq 5, 3) := by decide +kernel
theorem dL_law_1633 : decode cL_law 1633 = .ok (.iconst 0, 1) := by decide +kernel
theorem dL_law_1634 : decode cL_law 1634 = .ok (.ireturn, 1) := by decide +kernel
theorem dL_law_1635 : decode cL_law 1635 = .ok (.goto 3, 3) := by decide +kernel
theorem dL_law_1638 : decode cL_law 1638 = .ok (.iinc 4 6, 3) := by decide +kernel
theorem dL_law_1641 : decode cL_law 1641 = .ok (.goto (-1618), 3) := by decide +kernel
theorem dL_law_1644 : decode cL_law 1644 = .ok (.iconst 1, 1) := by decide +kernel
theorem dL_law_1645 : decode cL_law 1645 = .ok (.ireturn, 1) := by decide +kernel
end
section
/-! The world of this claim as a map from addresses to cells: a write is an update, so no apartness is carried; what is not named stays. -/
abbrev Hp : Type := Nat → Option va_E
def hup (h : Hp) (a : Nat) (e : va_E) : Hp := fun b => if b = a then some e else h b
theorem hup_s (h : Hp) (a : Nat) (e : va_E) : hup h a e a = some e := if_pos rfl
theorem hup_n {h : Hp} {a b : Nat} {e : va_E} (hb : b ≠ a) : hup h a e b = h b := if_neg hb
theorem hup_or {h : Hp} {a b : Nat} {e e1 : va_E} (hb : hup h a e b = some e1) : (b = a ∧ e1 = e) ∨ (b ≠ a ∧ h b = some e1) := by
  by_cases q : b = a
  · subst q
    rw [hup_s] at hb
    exact Or.inl ⟨rfl, (Option.some.inj hb).symm⟩
  · rw [hup_n q] at hb
    exact Or.inr ⟨q, hb⟩
abbrev zA (z : Nat) : Nat → Prop := fun q => z ≤ q
def Rp (D : va_G) (z : Nat) (h : Hp) (H : Heap) : Prop := z ≤ H.size ∧ ∀ (a : Nat) (e : va_E), h a = some e → z ≤ a ∧ va_at D vwCl (a, e) H
theorem Rp.one {D : va_G} {z : Nat} {h : Hp} {H : Heap} (hR : Rp D z h H) {a : Nat} {e : va_E} (he : h a = some e) : va_P D vwCl [(a, e)] H := by
  intro k q hk
  cases k with
  | zero =>
    cases hk
    exact (hR.2 a e he).2
  | succ k => simp at hk
theorem Rp.lt {D : va_G} {z : Nat} {h : Hp} {H : Heap} (hR : Rp D z h H) {a : Nat} {e : va_E} (he : h a = some e) : a < H.size := (hR.2 a e he).2.lt
theorem Rp.none {D : va_G} {z : Nat} {h : Hp} {H : Heap} (hR : Rp D z h H) {a : Nat} (ha : H.size ≤ a) : h a = none := by
  cases q : h a with
  | none => rfl
  | some e => exact absurd (hR.lt q) (Nat.not_lt.mpr ha)
theorem Rp.kept {D : va_G} {z : Nat} {h : Hp} {H H1 : Heap} (hR : Rp D z h H) (hz : H.size ≤ H1.size) (hq : ∀ q : Nat, q < H.size → H1[q]? = H[q]?) : Rp D z h H1 :=
  ⟨Nat.le_trans hR.1 hz, fun a e he => ⟨(hR.2 a e he).1, (hR.2 a e he).2.kept (hq a (hR.lt he))⟩⟩
theorem Rp.up {D : va_G} {z : Nat} {h : Hp} {H H1 : Heap} (hR : Rp D z h H) {a : Nat} {e0 e : va_E} (he : h a = some e0) (h1 : va_at D vwCl (a, e) H1) (z1 : H1.size = H.size) (oq : ∀ q : Nat, q ≠ a → H1[q]? = H[q]?) : Rp D z (hup h a e) H1 := by
  refine ⟨by rw [z1]; exact hR.1, fun b e1 hb => ?_⟩
  rcases hup_or hb with ⟨rfl, rfl⟩ | ⟨q, hb⟩
  · exact ⟨(hR.2 _ e0 he).1, h1⟩
  · exact ⟨(hR.2 b e1 hb).1, (hR.2 b e1 hb).2.kept (oq b q)⟩
theorem Rp.new {D : va_G} {z : Nat} {h : Hp} {H H1 : Heap} (hR : Rp D z h H) {e : va_E} (h1 : va_at D vwCl (H.size, e) H1) (z1 : H1.size = H.size + 1) (oq : ∀ q : Nat, q < H.size → H1[q]? = H[q]?) : Rp D z (hup h H.size e) H1 := by
  refine ⟨by rw [z1]; exact Nat.le_succ_of_le hR.1, fun b e1 hb => ?_⟩
  rcases hup_or hb with ⟨rfl, rfl⟩ | ⟨q, hb⟩
  · exact ⟨hR.1, h1⟩
  · exact ⟨(hR.2 b e1 hb).1, (hR.2 b e1 hb).2.kept (oq b (hR.lt hb))⟩
/-- the machine's heap H holds the map h; outside the law's own cells nothing has changed since H0 -/
def Bk (D : va_G) (z : Nat) (H0 : Heap) (h : Hp) (H : Heap) (locs : List Loc) : Prop := Rp D z h H ∧ va_S (zA z) H0 H locs
/-! what the tables say, past the words: nest links, casts, declarations, texts -/
def nE1 : String := "java/lang/IllegalArgumentException"
def nE2 : String := "java/lang/IllegalStateException"
def nE3 : String := "java/lang/IndexOutOfBoundsException"
def nEs : List String := ["java/lang/RuntimeException", "java/lang/Exception"]
def xwC : List (String × String) := [(nE1, nE1), (nE2, nE2), (nE3, nE3)]
def xwD : List MethodName := [⟨"java/lang/Throwable", "<init>", "(Ljava/lang/String;)V"⟩, ⟨"java/lang/RuntimeException", "<init>", "(Ljava/lang/String;)V"⟩, ⟨"java/lang/Exception", "<init>", "(Ljava/lang/String;)V"⟩]
def xwN : List (String × String) := [(nE1, nE2), (nE1, nE3), (nE2, nE1), (nE2, nE3), (nE3, nE1), (nE3, nE2)]
def xwS : List (Nat × String) := [(116, "200 rows were inserted"), (184, "the wide index is stale"), (189, "key is out of range"), (191, "sort is out of range"), (193, "value is out of range"), (195, "to is out of range"), (197, "kind is out of range"), (206, "detail is out of range"), (208, "high is out of range"), (210, "sorts is out of range"), (219, "there is no such part"), (222, "the part is gone"), (224, "the part is the rest"), (229, "the part has no such leaf"), (231, "there is no such row, or it was removed"), (233, "the part is not attached"), (235, "the part is not detached"), (241, "the range overlaps that of an attached part"), (247, "the rest has a row with a key of the range"), (249, "a row has a key outside the range it would come to"), (258, "15 parts were made"), (66, "the part can not be split at this key"), (82, "the other part does not begin where the part ends"), (85, "kind or detail are not the same")]
def Ws (U : State) : Prop := va_Nw (.methodLinkNest RX0 30 yX3_hasSort "ParcelledTable") U ∧ va_Nw (.methodLinkNest RX2 45 yX3_hasSort "ParcelledTable") U ∧ (∀ q ∈ xwC, va_Nw (.castable q.1 q.2) U) ∧ (∀ q ∈ xwD, va_Nw (.declares q) U) ∧ (∀ q ∈ xwN, va_Nc q.1 q.2 U) ∧ (∀ q ∈ xwS, ∃ a : Nat, vk_R RX3 q.1 q.2 a U)
theorem Ws.warm {s U : State} (hW : s.WarmedH U.vm) (h : Ws s) : Ws U :=
  ⟨va_Nw.warmM hW h.1, va_Nw.warmM hW h.2.1, fun q hq => va_Nw.warmC hW (h.2.2.1 q hq), fun q hq => va_Nw.warmD hW (h.2.2.2.1 q hq), fun q hq => va_Nc.moved hW.alike (h.2.2.2.2.1 q hq), fun q hq => by
    obtain ⟨a, ha⟩ := h.2.2.2.2.2 q hq
    exact ⟨a, ha.warm hW⟩⟩
theorem Ws.same {u U : State} (hv : u.vm = U.vm) (h : Ws u) : Ws U :=
  ⟨va_Nw.same rfl hv h.1, va_Nw.same rfl hv h.2.1, fun q hq => va_Nw.same rfl hv (h.2.2.1 q hq), fun q hq => va_Nw.same rfl hv (h.2.2.2.1 q hq), fun q hq => va_Nc.moved (by rw [hv]; exact Vm.Alike.refl _) (h.2.2.2.2.1 q hq), fun q hq => by
    obtain ⟨a, ha⟩ := h.2.2.2.2.2 q hq
    exact ⟨a, ha.same hv.symm⟩⟩
def Zs (z : Nat) (U : State) (H : Heap) : Prop := vx_Zq Bundle.tN "UNASSIGNED_STACK" Bundle.steD (zA z) U H ∧ vx_Zq Bundle.tN "SUPPRESSED_SENTINEL" Bundle.listD (zA z) U H
/-- a method's start: the heap holds h; the tables -/
def Kp (D : va_G) (z : Nat) (tys : List (ClassId × FieldType)) (h : Hp) (U : State) : Prop := Rp D z h U.heap ∧ va_K D vwCl tys U ∧ Ws U ∧ Zs z U U.heap
theorem Kp.blind (D : va_G) (z : Nat) (tys : List (ClassId × FieldType)) (h : Hp) (As : List Value) : FrameBlind (va_Pc As (Kp D z tys h)) := fun a U g mk q =>
  ⟨q.1, q.2.1, va_K.moved (u := U) (U := U.calling g mk a) (Vm.Alike.refl U.vm) q.2.2.1, Ws.same (u := U) (U := U.calling g mk a) rfl q.2.2.2.1, vx_Zq.moved (u := U) (U := U.calling g mk a) (Vm.Alike.refl U.vm) q.2.2.2.2.1, vx_Zq.moved (u := U) (U := U.calling g mk a) (Vm.Alike.refl U.vm) q.2.2.2.2.2⟩
/-- what stands fixed in a method's body, of the state s at its start -/
def Kb (D : va_G) (z : Nat) (tys : List (ClassId × FieldType)) (s : State) : Prop := va_K D vwCl tys s ∧ Ws s ∧ Zs z s s.heap ∧ z ≤ s.heap.size
theorem Kb.pass {D : va_G} {z : Nat} {tys : List (ClassId × FieldType)} {s : State} (hK : Kb D z tys s) {h : Hp} {H : Heap} {locs : List Loc} (hB : Bk D z s.heap h H locs) {As : List Value} (U : State) (hU : U.heap = H) (hW : s.WarmedH U.vm) : va_Pc As (Kp D z tys h) As.toArray U := by
  refine ⟨rfl, by rw [hU]; exact hB.1, va_K.moved hW.alike hK.1, hK.2.1.warm hW, ?_, ?_⟩
  · rw [hU]; exact vx_Zq.moved hW.alike (hK.2.2.1.1.kept hB.2.2.1)
  · rw [hU]; exact vx_Zq.moved hW.alike (hK.2.2.1.2.kept hB.2.2.1)
/-- a method's end: an answer, the map behind it -/
def Qx (D : va_G) (z : Nat) (post : Option Value → Hp → Prop) : Array Value → State → Outcome → State → Prop := fun _ st oc t => ∃ (v : Option Value) (u : Hp), oc = .returned v ∧ post v u ∧ Rp D z u t.heap ∧ va_F (zA z) st t
/-- .. or a throw -/
def Xp (D : va_G) (z : Nat) (PX : String → Hp → Prop) : String → State → State → Prop := fun E st t => ∃ u : Hp, PX E u ∧ Rp D z u t.heap ∧ va_F (zA z) st t
abbrev Ct (l : Launch) (D : va_G) (z : Nat) (tys : List (ClassId × FieldType)) (y : MethodName) (ws : List Cond) (rm : Room) (As : List Value) (h : Hp) (post : Option Value → Hp → Prop) : Prop := Met l y ws rm (va_Pc As (Kp D z tys h)) (Qx D z post) rm.cells rm.slots (zA z)
abbrev Cx (l : Launch) (D : va_G) (z : Nat) (tys : List (ClassId × FieldType)) (y : MethodName) (ws : List Cond) (rm : Room) (As : List Value) (h : Hp) (post : Option Value → Hp → Prop) (PX : String → Hp → Prop) : Prop := vx_Met l y ws rm (va_Pc As (Kp D z tys h)) (Qx D z post) (Xp D z PX) rm.cells rm.slots (zA z)
section MB
variable {p : Program} {l : Launch} {e : Env} {R : Room} {s : State} {m : MethodId} {args : Array Value} {below : List Frame} {meth : Method} {c : Code} {H : Heap} {locs : List Loc} {cells slots : Nat} {Q : State → Prop}
variable {cc : ByteArray} {pc : Nat} {ls : Array Slot} {rest st0 : List Value} {D : va_G} {z : Nat} {h : Hp} {H0 : Heap} {tys : List (ClassId × FieldType)} {a : Nat} {Ts : List Cond} {mc ms : Nat} {av : Array Value}
theorem m_get (hexec : p.tables.exec = Jvm.exec) (hb : c.code = cc) {own ref C : String} {T : u_T} {N ci index : Nat} (hts : ∀ w ∈ Ts, w.before args s = true) (hin : ∀ w ∈ u_ws C T N, w ∈ Ts) (hown : s.vm.findClass own = some m.cls) (hK : Kb D z tys s) (hB : Bk D z H0 h H locs) {fs : List Value} (he : h a = some (.inr (ci, fs))) (hc : vwCl[ci]? = some (C, T, N)) (k : Nat) (hk : k < N) (hlink : (Cond.fieldLink own index ref (T k).2.1 (T k).2.2.1) ∈ Ts) (hsame : (T k).1 = ref) {v : Value} (hv : fs[k]? = some v) (hdg : decode cc pc = .ok (.getfield index, 3))
    (kk : W p l e R s m args below meth c H locs cells slots Q (F0 m (pc + 3) ls (v :: rest))) : W p l e R s m args below meth c H locs cells slots Q (F0 m pc ls (.ref a :: rest)) :=
  va_get hexec hb hts hin hown hK.1 (hB.1.one he) 0 rfl hc k hk (hts _ hlink) (fun x q => by rw [← hsame]; exact q) hv hdg kk
theorem Bk.put (hB : Bk D z H0 h H locs) {e0 e1 : va_E} (he : h a = some e0) {H1 : Heap} (h1 : va_at D vwCl (a, e1) H1) (z1 : H1.size = H.size) (oq : ∀ q : Nat, q ≠ a → H1[q]? = H[q]?) {k : Nat} : Bk D z H0 (hup h a e1) H1 (locs ++ [⟨a, k⟩]) :=
  ⟨hB.1.up he h1 z1 oq, hB.2.put z1 oq (hB.1.2 a e0 he).1⟩
theorem m_put (hexec : p.tables.exec = Jvm.exec) (hb : c.code = cc) {own ref C : String} {T : u_T} {N ci index : Nat} (hts : ∀ w ∈ Ts, w.before args s = true) (hin : ∀ w ∈ u_ws C T N, w ∈ Ts) (ty0 : Nat → FieldType) (hty : ∀ k, k < N → parseFieldDescriptor (T k).2.2.1 = some (ty0 k)) (hnm : ∀ a, a < N → ∀ b, b < N → a ≠ b → (T a).2.1 ≠ (T b).2.1) (hown : s.vm.findClass own = some m.cls) (hK : Kb D z tys s) (hB : Bk D z H0 h H locs) {fs : List Value} (he : h a = some (.inr (ci, fs))) (hc : vwCl[ci]? = some (C, T, N)) (k : Nat) (hk : k < N) (hlink : (Cond.fieldLink own index ref (T k).2.1 (T k).2.2.1) ∈ Ts) (hsame : (T k).1 = ref) (hfin : (T k).2.2.2 = false) {v : Value} (hn : narrow (ty0 k) v = v) (hfit : fits (ty0 k) v = true) (hl : k < fs.length)
    (hdg : decode cc pc = .ok (.putfield index, 3)) (kk : ∀ (H1 : Heap) (locs1 : List Loc), Bk D z H0 (hup h a (.inr (ci, fs.set k v))) H1 locs1 → W p l e R s m args below meth c H1 locs1 cells slots Q (F0 m (pc + 3) ls rest)) : W p l e R s m args below meth c H locs cells slots Q (F0 m pc ls (v :: .ref a :: rest)) := by
  have hap := va_apart (own := own) hts hin ty0 hty hnm hK.1 hc
  obtain ⟨r, h1, cell, q1, q2, q3, q4⟩ := (hB.1.2 a _ he).2
  have hr : r = (C, T, N) := Option.some.inj (h1.symm.trans hc)
  subst hr
  obtain ⟨hS, hfc, kC, hkC, hkind⟩ := hK.1.1 ci _ hc
  obtain ⟨cf, kf, fi, f, hi, hsl⟩ := hS k hk
  have hlay := hts _ (hin _ (u_in_lay hk))
  unfold u_lay at hlay
  rw [if_neg (by rw [hfin]; decide)] at hlay
  have hst := (u_facts hfc hkC (u_lays hts hin hk) hi).1
  have h6 := u_store hfc hkC hkind hlay hi (hty k hk) hn hfit
  refine W.putK hexec hb (f := f) ⟨hown, hts _ hlink, ⟨_, _, _, by rw [← hsame]; exact hi⟩, hst⟩ (by rw [q2]; exact h6) q1 q3 (by rw [hsl]; exact k2_hasslot (q4 k hk)) rfl rfl hdg fun H' e1 e2 e3 => ?_
  rw [hsl] at e1 ⊢
  exact kk H' _ (hB.put (e1 := .inr (ci, fs.set k v)) he ⟨_, hc, t_OB.to (V := updV (vp_V fs) k v) ⟨_, e1, q2, q3, t_set q4 hap hk v⟩ (fun j _ => vp_updV_set hl v j)⟩ e2 e3)
theorem m_putF (hexec : p.tables.exec = Jvm.exec) (hb : c.code = cc) {own ref C : String} {T : u_T} {N ci index : Nat} (hts : ∀ w ∈ Ts, w.before args s = true) (hin : ∀ w ∈ u_ws C T N, w ∈ Ts) (ty0 : Nat → FieldType) (hty : ∀ k, k < N → parseFieldDescriptor (T k).2.2.1 = some (ty0 k)) (hnm : ∀ a, a < N → ∀ b, b < N → a ≠ b → (T a).2.1 ≠ (T b).2.1) (hown : s.vm.findClass own = some m.cls) (hK : Kb D z tys s) (hB : Bk D z H0 h H locs) {fs : List Value} (he : h a = some (.inr (ci, fs))) (hc : vwCl[ci]? = some (C, T, N)) (k : Nat) (hk : k < N) (hlink : (Cond.fieldLink own index ref (T k).2.1 (T k).2.2.1) ∈ Ts) (hsame : (T k).1 = ref) (hfin : (T k).2.2.2 = true) (hin2 : meth.name = "<init>") (hdecl : (T k).1 = own) {v : Value} (hn : narrow (ty0 k) v = v) (hfit : fits (ty0 k) v = true) (hl : k < fs.length)
    (hdg : decode cc pc = .ok (.putfield index, 3)) (kk : ∀ (H1 : Heap) (locs1 : List Loc), Bk D z H0 (hup h a (.inr (ci, fs.set k v))) H1 locs1 → W p l e R s m args below meth c H1 locs1 cells slots Q (F0 m (pc + 3) ls rest)) : W p l e R s m args below meth c H locs cells slots Q (F0 m pc ls (v :: .ref a :: rest)) := by
  have hap := va_apart (own := own) hts hin ty0 hty hnm hK.1 hc
  obtain ⟨r, h1, cell, q1, q2, q3, q4⟩ := (hB.1.2 a _ he).2
  have hr : r = (C, T, N) := Option.some.inj (h1.symm.trans hc)
  subst hr
  obtain ⟨hS, hfc, kC, hkC, hkind⟩ := hK.1.1 ci _ hc
  obtain ⟨cf, kf, fi, f, hi, hsl⟩ := hS k hk
  have hlay := hts _ (hin _ (u_in_lay hk))
  unfold u_lay at hlay
  rw [if_pos hfin] at hlay
  have hst := (u_facts hfc hkC (u_lays hts hin hk) hi).1
  have hcf : m.cls = cf := by
    obtain ⟨_, _, c', _, _, _, -, -, hf', -, -, -, hown2, -⟩ := Cond.laysFinal_spec hlay
    have e1 : c' = cf := by have := hi.symm.trans hf'; simp at this; exact this.1.symm
    rw [hdecl] at hown2
    rw [← e1]; exact Option.some.inj (hown.symm.trans hown2)
  have h6 := u_fits hfc hkC hkind (Or.inr hlay) hi (hty k hk) hn hfit
  refine W.putFinK hexec hb hown (hts _ hlink) (by rw [← hsame]; exact hi) hst hcf hin2 (by rw [q2]; exact h6) q1 q3 (by rw [hsl]; exact k2_hasslot (q4 k hk)) rfl rfl hdg fun H' e1 e2 e3 => ?_
  rw [hsl] at e1 ⊢
  exact kk H' _ (hB.put (e1 := .inr (ci, fs.set k v)) he ⟨_, hc, t_OB.to (V := updV (vp_V fs) k v) ⟨_, e1, q2, q3, t_set q4 hap hk v⟩ (fun j _ => vp_updV_set hl v j)⟩ e2 e3)
theorem m_iald (hexec : p.tables.exec = Jvm.exec) (hb : c.code = cc) (hK : Kb D z tys s) (hB : Bk D z H0 h H locs) (t0 : Nat) {cA : ClassId} {n : Nat} {f : Nat → Int32} (he : h a = some (.inl (cA, n, .inl f))) (ht : tys[t0]? = some (cA, .int)) {i : Int32} (hin : vp_in i n) (hdg : decode cc pc = .ok (.iaload, 1))
    (kk : W p l e R s m args below meth c H locs cells slots Q (F0 m (pc + 1) ls (.int (f i.toNatClampNeg) :: rest))) : W p l e R s m args below meth c H locs cells slots Q (F0 m pc ls (.int i :: .ref a :: rest)) :=
  va_iald hexec hb hK.1 (hB.1.one he) 0 t0 rfl ht hin hdg kk
theorem m_lald (hexec : p.tables.exec = Jvm.exec) (hb : c.code = cc) (hK : Kb D z tys s) (hB : Bk D z H0 h H locs) (t0 : Nat) {cA : ClassId} {n : Nat} {f : Nat → Int64} (he : h a = some (.inl (cA, n, .inr (.inl f)))) (ht : tys[t0]? = some (cA, .long)) {i : Int32} (hin : vp_in i n) (hdg : decode cc pc = .ok (.laload, 1))
    (kk : W p l e R s m args below meth c H locs cells slots Q (F0 m (pc + 1) ls (.long (f i.toNatClampNeg) :: rest))) : W p l e R s m args below meth c H locs cells slots Q (F0 m pc ls (.int i :: .ref a :: rest)) :=
  va_lald hexec hb hK.1 (hB.1.one he) 0 t0 rfl ht hin hdg kk
theorem m_aldq (hexec : p.tables.exec = Jvm.exec) (hb : c.code = cc) (hK : Kb D z tys s) (hB : Bk D z H0 h H locs) (t0 : Nat) {cA : ClassId} {C : String} {n : Nat} {f : Nat → Option Nat} (he : h a = some (.inl (cA, n, .inr (.inr (.inr (.inr f)))))) (ht : tys[t0]? = some (cA, .object C)) {i : Int32} (hin : vp_in i n) (hdg : decode cc pc = .ok (.aaload, 1))
    (kk : W p l e R s m args below meth c H locs cells slots Q (F0 m (pc + 1) ls (va_rf (f i.toNatClampNeg) :: rest))) : W p l e R s m args below meth c H locs cells slots Q (F0 m pc ls (.int i :: .ref a :: rest)) :=
  va_aldq hexec hb hK.1 (hB.1.one he) 0 t0 rfl ht hin hdg kk
theorem m_alen (hexec : p.tables.exec = Jvm.exec) (hb : c.code = cc) (hK : Kb D z tys s) (hB : Bk D z H0 h H locs) (t0 : Nat) {cA : ClassId} {x : vp_A} (he : h a = some (.inl (cA, x))) {ty : FieldType} (ht : tys[t0]? = some (cA, ty)) {v : Int32} (hv : Int32.ofNat x.1 = v) (hdg : decode cc pc = .ok (.arraylength, 1))
    (kk : W p l e R s m args below meth c H locs cells slots Q (F0 m (pc + 1) ls (.int v :: rest))) : W p l e R s m args below meth c H locs cells slots Q (F0 m pc ls (.ref a :: rest)) :=
  va_alen hexec hb hK.1 (hB.1.one he) 0 t0 rfl ht hv hdg kk
theorem m_iast (hexec : p.tables.exec = Jvm.exec) (hb : c.code = cc) (hK : Kb D z tys s) (hB : Bk D z H0 h H locs) (t0 : Nat) {cA : ClassId} {n : Nat} {f : Nat → Int32} (he : h a = some (.inl (cA, n, .inl f))) (ht : tys[t0]? = some (cA, .int)) {i : Int32} {x : Int32} (hin : vp_in i n) (hdg : decode cc pc = .ok (.iastore, 1))
    (kk : ∀ (H1 : Heap) (locs1 : List Loc), Bk D z H0 (hup h a (.inl (cA, n, .inl (upd f i.toNatClampNeg x)))) H1 locs1 → W p l e R s m args below meth c H1 locs1 cells slots Q (F0 m (pc + 1) ls rest)) : W p l e R s m args below meth c H locs cells slots Q (F0 m pc ls (.int x :: .int i :: .ref a :: rest)) := by
  refine W.iast hexec hb ((hB.1.2 a _ he).2) ((hK.1.2 t0 _ ht).1 n (fun j => .int (f j))) (fun q => by cases q) (by show ¬ (i < 0 ∨ (arrV _ _ _).slots.size ≤ _); rw [arrV_size]; exact hin) rfl rfl hdg fun H1 e1 z1 oq => ?_
  refine kk H1 _ (hB.put he ?_ z1 oq)
  show H1[a]? = some (vp_cell _ _)
  rw [e1, vp_cell_i, vp_cell_i, arrV_store]
  congr 2
  funext q
  by_cases hq : q = i.toNatClampNeg
  · subst hq
    simp [updV, upd]
  · simp [updV, upd, hq]
theorem m_last (hexec : p.tables.exec = Jvm.exec) (hb : c.code = cc) (hK : Kb D z tys s) (hB : Bk D z H0 h H locs) (t0 : Nat) {cA : ClassId} {n : Nat} {f : Nat → Int64} (he : h a = some (.inl (cA, n, .inr (.inl f)))) (ht : tys[t0]? = some (cA, .long)) {i : Int32} {x : Int64} (hin : vp_in i n) (hdg : decode cc pc = .ok (.lastore, 1))
    (kk : ∀ (H1 : Heap) (locs1 : List Loc), Bk D z H0 (hup h a (.inl (cA, n, .inr (.inl (vp_updL f i.toNatClampNeg x))))) H1 locs1 → W p l e R s m args below meth c H1 locs1 cells slots Q (F0 m (pc + 1) ls rest)) : W p l e R s m args below meth c H locs cells slots Q (F0 m pc ls (.long x :: .int i :: .ref a :: rest)) := by
  refine W.last hexec hb ((hB.1.2 a _ he).2) ((hK.1.2 t0 _ ht).1 n (fun j => .long (f j))) (fun q => by cases q) (by show ¬ (i < 0 ∨ (arrV _ _ _).slots.size ≤ _); rw [arrV_size]; exact hin) rfl rfl hdg fun H1 e1 z1 oq => ?_
  refine kk H1 _ (hB.put he ?_ z1 oq)
  show H1[a]? = some (vp_cell _ _)
  rw [e1, vp_cell_l, vp_cell_l, arrV_store]
  congr 2
  funext q
  by_cases hq : q = i.toNatClampNeg
  · subst hq
    simp [updV, vp_updL]
  · simp [updV, vp_updL, hq]
theorem m_astq (hexec : p.tables.exec = Jvm.exec) (hb : c.code = cc) (hK : Kb D z tys s) (hB : Bk D z H0 h H locs) (t0 ci : Nat) {cA : ClassId} {r : vw_C} {n v : Nat} {vs : List Value} {f : Nat → Option Nat} (he : h a = some (.inl (cA, n, .inr (.inr (.inr (.inr f)))))) (ht : tys[t0]? = some (cA, .object r.1)) (hv : h v = some (.inr (ci, vs))) (hc : vwCl[ci]? = some r) {i : Int32} (hin : vp_in i n) (hdg : decode cc pc = .ok (.aastore, 1))
    (kk : ∀ (H1 : Heap) (locs1 : List Loc), Bk D z H0 (hup h a (.inl (cA, n, .inr (.inr (.inr (.inr (va_up f i.toNatClampNeg (some v)))))))) H1 locs1 → W p l e R s m args below meth c H1 locs1 cells slots Q (F0 m (pc + 1) ls rest)) : W p l e R s m args below meth c H locs cells slots Q (F0 m pc ls (.ref v :: .int i :: .ref a :: rest)) := by
  have hlt : i.toNatClampNeg < n := Nat.not_le.mp fun q => hin (Or.inr q)
  have h0 : ¬ i < 0 := fun q => hin (Or.inl q)
  obtain ⟨r', hr', cellV, g1, g2, g3, -⟩ := (hB.1.2 v _ hv).2
  have hcls := (hK.1.1 ci r hc).2
  obtain ⟨kA, comp, k1, k2, k3, -⟩ := (hK.1.2 t0 _ ht).2
  have hcomp : comp = D.1 ci := Option.some.inj (k3.symm.trans hcls.1)
  subst hcomp
  obtain ⟨kC, hkC, -⟩ := hcls.2
  refine W.aast hexec hb ((hB.1.2 a _ he).2) (fun q h => by cases h) (fun h => by cases h) k1 k2 rfl hkC ⟨h0, by show _ < (arrV _ _ _).slots.size; rw [arrV_size]; exact hlt⟩ g1 (fun q h => by rw [g3] at h; cases h) (by rw [g2]; exact hkC) (by rw [g2]; exact va_assign hcls) rfl rfl hdg fun H1 e1 z1 oq => ?_
  refine kk H1 _ (hB.put he ?_ z1 oq)
  show H1[a]? = some (vp_cell _ _)
  rw [e1, vp_cell_q, vp_cell_q, arrV_store]
  congr 2
  funext q
  by_cases hq : q = i.toNatClampNeg
  · subst hq
    simp [updV, va_up, va_rf]
  · simp [updV, va_up, hq]
theorem m_astqN (hexec : p.tables.exec = Jvm.exec) (hb : c.code = cc) (hK : Kb D z tys s) (hB : Bk D z H0 h H locs) (t0 : Nat) {cA : ClassId} {C : String} {n : Nat} {f : Nat → Option Nat} (he : h a = some (.inl (cA, n, .inr (.inr (.inr (.inr f)))))) (ht : tys[t0]? = some (cA, .object C)) {i : Int32} (hin : vp_in i n) (hdg : decode cc pc = .ok (.aastore, 1))
    (kk : ∀ (H1 : Heap) (locs1 : List Loc), Bk D z H0 (hup h a (.inl (cA, n, .inr (.inr (.inr (.inr (va_up f i.toNatClampNeg none))))))) H1 locs1 → W p l e R s m args below meth c H1 locs1 cells slots Q (F0 m (pc + 1) ls rest)) : W p l e R s m args below meth c H locs cells slots Q (F0 m pc ls (.null :: .int i :: .ref a :: rest)) := by
  refine va_WaastN (C := C) hexec hb ((hB.1.2 a _ he).2) ((hK.1.2 t0 _ ht).1 n (fun j => va_rf (f j))) (fun h => by cases h) (by show ¬ (i < 0 ∨ (arrV _ _ _).slots.size ≤ _); rw [arrV_size]; exact hin) rfl rfl hdg fun H1 e1 z1 oq => ?_
  refine kk H1 _ (hB.put he ?_ z1 oq)
  show H1[a]? = some (vp_cell _ _)
  rw [e1, vp_cell_q, vp_cell_q, arrV_store]
  congr 2
  funext q
  by_cases hq : q = i.toNatClampNeg
  · subst hq
    simp [updV, va_up, va_rf]
  · simp [updV, va_up, hq]
theorem Bk.new (hB : Bk D z H0 h H locs) {e1 : va_E} {H1 : Heap} (h1 : va_at D vwCl (H.size, e1) H1) (z1 : H1.size = H.size + 1) (oq : ∀ q : Nat, q < H.size → H1[q]? = H[q]?) : Bk D z H0 (hup h H.size e1) H1 locs :=
  ⟨hB.1.new h1 z1 oq, Nat.le_trans hB.2.1 (by omega), fun x h1 h2 => (oq x (Nat.lt_of_lt_of_le h1 hB.2.1)).trans (hB.2.2.1 x h1 h2), hB.2.2.2⟩
theorem m_new (hexec : p.tables.exec = Jvm.exec) (hb : c.code = cc) {own C : String} {T : u_T} {N ci index : Nat} (hts : ∀ w ∈ Ts, w.before args s = true) (hin : ∀ w ∈ u_ws C T N, w ∈ Ts) (ty : Nat → FieldType) (hty : ∀ k, k < N → parseFieldDescriptor (T k).2.2.1 = some (ty k)) (hown : s.vm.findClass own = some m.cls) (hcl : (Cond.classLink own index C) ∈ Ts) (hinst : (Cond.instantiable C N) ∈ Ts) (hini : (Cond.initialized C) ∈ Ts)
    (hK : Kb D z tys s) (hB : Bk D z H0 h H locs) (hc : vwCl[ci]? = some (C, T, N)) {fs : List Value} (hfs : ∀ j, j < N → defaultValue (ty j) = vp_V fs j) (hcells : cells + 1 ≤ R.cells) (hslots : slots + N ≤ R.slots) (hdg : decode cc pc = .ok (.new index, 3))
    (kk : ∀ (q : Nat) (H1 : Heap), h q = none → Bk D z H0 (hup h q (.inr (ci, fs))) H1 locs →
      W p l e R s m args below meth c H1 locs (cells + 1) (slots + N) Q (F0 m (pc + 3) ls (.ref q :: rest))) : W p l e R s m args below meth c H locs cells slots Q (F0 m pc ls rest) := by
  have hKn := hK.1.1 ci _ hc
  refine W.newcK hexec hb hown (hts _ hcl) (hts _ hinst) (hts _ hini) rfl hdg hcells hslots hKn.2.1 rfl fun H1 kC hkC e1 z1 o1 => ?_
  exact kk H.size H1 (hB.1.none (Nat.le_refl _)) (hB.new ⟨_, hc, (u_born ty hts hin hKn hkC e1 hty).to hfs⟩ z1 o1)
/-- a new array: its class is the one that the tables name -/
theorem m_newa (hexec : p.tables.exec = Jvm.exec) (hb : c.code = cc) {atype : ArrayType} (harr : (Cond.arrayClass (newarray.typeOf atype)).before args s = true) {ty : FieldType} (hty : newarray.typeOf atype = ty) (hK : Kb D z tys s) (hB : Bk D z H0 h H locs) (t0 : Nat) {cA : ClassId} (ht : tys[t0]? = some (cA, ty)) (hp : ∀ C : String, ty ≠ .object C)
    {n : Int32} {N' : Nat} {a0 : vp_A} (ha : ∀ cA : ClassId, vp_cell cA a0 = arrV cA N' (fun _ => defaultValue ty)) (hn : ¬ n < 0) (hN : n.toNatClampNeg = N') (hbytes : N' * componentBytes ty ≤ 536870912) (hcells : cells + 1 ≤ R.cells) (hslots : slots + N' ≤ R.slots) (hdg : decode cc pc = .ok (.newarray atype, 2))
    (kk : ∀ (q : Nat) (H1 : Heap), h q = none → Bk D z H0 (hup h q (.inl (cA, a0))) H1 locs →
      W p l e R s m args below meth c H1 locs (cells + 1) (slots + N') Q (F0 m (pc + 2) ls (.ref q :: rest))) : W p l e R s m args below meth c H locs cells slots Q (F0 m pc ls (.int n :: rest)) := by
  subst hty
  refine va_newaK hexec hb harr rfl hdg rfl hn hN hbytes hcells hslots rfl fun H1 cA1 e1 z1 o1 hAr hNm => ?_
  have hc : cA1 = cA := by
    have h2 := (hK.1.2 t0 _ ht).2
    revert h2 hp hNm
    cases newarray.typeOf atype with
    | object C => intro hp; exact absurd rfl (hp C)
    | _ => intro _ hNm h2; exact Option.some.inj (hNm.symm.trans h2)
  subst hc
  exact kk H.size H1 (hB.1.none (Nat.le_refl _)) (hB.new (show H1[H.size]? = some (vp_cell _ _) by rw [ha]; exact e1) z1 o1)
theorem m_newq (hexec : p.tables.exec = Jvm.exec) (hb : c.code = cc) {own C : String} {index : Nat} (hts : ∀ w ∈ Ts, w.before args s = true) (hown : s.vm.findClass own = some m.cls) (hclink : (Cond.classLink own index C) ∈ Ts) (hover : va_AO C s) (hK : Kb D z tys s) (hB : Bk D z H0 h H locs) (t0 : Nat) {cA : ClassId} (ht : tys[t0]? = some (cA, .object C))
    {n : Int32} {N' : Nat} (hn : ¬ n < 0) (hN : n.toNatClampNeg = N') (hbytes : N' * 4 ≤ 536870912) (hcells : cells + 1 ≤ R.cells) (hslots : slots + N' ≤ R.slots) (hdg : decode cc pc = .ok (.anewarray index, 3))
    (kk : ∀ (q : Nat) (H1 : Heap), h q = none → Bk D z H0 (hup h q (.inl (cA, N', .inr (.inr (.inr (.inr (fun _ => none))))))) H1 locs →
      W p l e R s m args below meth c H1 locs (cells + 1) (slots + N') Q (F0 m (pc + 3) ls (.ref q :: rest))) : W p l e R s m args below meth c H locs cells slots Q (F0 m pc ls (.int n :: rest)) := by
  subst hN
  refine W.anew hexec hb hown (hts _ hclink) (va_AO.use hover) rfl hdg rfl hn hbytes hcells hslots fun cA1 kA comp f1 f2 f3 f4 => ?_
  have hc : cA1 = cA := by
    obtain ⟨kA', comp', g1, g2, g3, g4⟩ := (hK.1.2 t0 _ ht).2
    exact Option.some.inj (f1.symm.trans g4)
  subst hc
  generalize hH1 : H.push ({ cls := cA1, slots := Array.replicate n.toNatClampNeg .null, vm := .none } : Cell) = H1
  have z1 : H1.size = H.size + 1 := by rw [← hH1, Array.size_push]
  have e1 : H1[H.size]? = some (arrV cA1 n.toNatClampNeg (fun _ => .null)) := by rw [← hH1, Array.getElem?_push_size, ← arrV_new]
  have o1 : ∀ q : Nat, q < H.size → H1[q]? = H[q]? := fun q hq => by rw [← hH1, Array.getElem?_push, if_neg (Nat.ne_of_lt hq)]
  exact kk H.size H1 (hB.1.none (Nat.le_refl _)) (hB.new (show H1[H.size]? = some (vp_cell _ _) by rw [vp_cell_q]; exact e1) z1 o1)
/-! calls -/
theorem m_bk {st₀ t T' : State} {L : List Loc} {u : Hp} (h0 : st₀.heap = H) (e1 : T'.heap = t.heap) (hB : Bk D z H0 h H locs) (hL : ∀ q ∈ L, zA z q.base) (hR : Rp D z u t.heap) (hF : va_F (zA z) st₀ t) : Bk D z H0 u T'.heap (locs ++ L) := by
  obtain ⟨-, -, k3⟩ := vx_keep h0 e1 hB.2 (fun q _ hq => hq) (fun q hq => hq) hL hF
  exact ⟨by rw [e1]; exact hR, k3⟩
theorem m_run {post : Option Value → Hp → Prop} (hr : va_Run p l e R s m args below meth c H locs cells slots mc ms (F0 m pc ls st0) rest (Qx D z post av) (zA z)) (hB : Bk D z H0 h H locs)
    (kk : ∀ (v : Option Value) (u : Hp) (H1 : Heap) (locs1 : List Loc), post v u → Bk D z H0 u H1 locs1 → W p l e R s m args below meth c H1 locs1 (cells + mc) (slots + ms) Q (F0 m (pc + 3) ls (v.toList ++ rest))) : W p l e R s m args below meth c H locs cells slots Q (F0 m pc ls st0) := by
  intro T hT X
  obtain ⟨v, st₀, t, T', L, h0, X', hL, e1, e2, ⟨v', u, hv, hp, hR, hF⟩, st⟩ := hr T hT X
  cases hv
  obtain ⟨t2, a1, b1⟩ := kk v u T'.heap (locs ++ L) hp (m_bk h0 e1 hB hL hR hF) T' rfl X'
  exact ⟨t2, st t2 a1, b1⟩
theorem m_runX {post : Option Value → Hp → Prop} {PX : String → Hp → Prop} (hr : vx_Run p l e R s m args below meth c H locs cells slots mc ms (F0 m pc ls st0) rest (Qx D z post av) (Xp D z PX) (zA z)) (hB : Bk D z H0 h H locs)
    (kx : ∀ (E : String) (u : Hp) (H1 : Heap) (locs1 : List Loc) (q9 : Addr) (ce : Cell), PX E u → Bk D z H0 u H1 locs1 → H1[q9]? = some ce → ce.vm = .none → s.vm.findClass E = some ce.cls → vx_W p l e R s m args below meth c H1 locs1 (cells + mc) (slots + ms) Q (F0 m pc ls rest) q9)
    (kk : ∀ (v : Option Value) (u : Hp) (H1 : Heap) (locs1 : List Loc), post v u → Bk D z H0 u H1 locs1 → W p l e R s m args below meth c H1 locs1 (cells + mc) (slots + ms) Q (F0 m (pc + 3) ls (v.toList ++ rest))) : W p l e R s m args below meth c H locs cells slots Q (F0 m pc ls st0) := by
  intro T hT X
  rcases hr T hT X with ⟨v, st₀, t, T', L, h0, X', hL, e1, e2, ⟨v', u, hv, hp, hR, hF⟩, st⟩ | ⟨q, st₀, t, T', L, E, ce, h0, X', hL, e1, e2, ⟨u, hp, hR, hF⟩, hce, hcv, hcl, st⟩
  · cases hv
    obtain ⟨t2, a1, b1⟩ := kk v u T'.heap (locs ++ L) hp (m_bk h0 e1 hB hL hR hF) T' rfl X'
    exact ⟨t2, st t2 a1, b1⟩
  · obtain ⟨t2, a1, b1⟩ := kx E u T'.heap (locs ++ L) q ce hp (m_bk h0 e1 hB hL hR hF) (by rw [e1]; exact hce) hcv hcl T' rfl X'
    exact ⟨t2, st.trans a1, b1⟩
theorem m_recv (hK : Kb D z tys s) (hB : Bk D z H0 h H locs) {ci : Nat} {q : vw_C} {fs : List Value} (hc : vwCl[ci]? = some q) (he : h a = some (.inr (ci, fs))) : ∃ cell : Cell, H[a]? = some cell ∧ cell.vm.isStatics = false ∧ s.vm.findClass q.1 = some cell.cls := va_recv hK.1 (hB.1.one he) (q0 := 0) hc rfl
/-! ends -/
theorem m_F (hB : Bk D z s.heap h H locs) {t : State} (ht : t.heap = H) : Rp D z h t.heap ∧ va_F (zA z) s t := by
  refine ⟨by rw [ht]; exact hB.1, ?_, fun q h1 h2 => ?_⟩
  · rw [ht]; exact hB.2.1
  · rw [ht]; exact hB.2.2.1 q h1 h2
theorem m_zret {post : Option Value → Hp → Prop} {v : Int32} {ty : FieldType} (hexec : p.tables.exec = Jvm.exec) (hb : c.code = cc) (hr : meth.sig.returnType = some ty) (hn : narrow ty (.int v) = .int v) (hlocks : meth.locks = false) (hB : Bk D z s.heap h H locs) (hc : cells ≤ mc) (hs : slots ≤ ms) (hdg : decode cc pc = .ok (.ireturn, 1)) (hp : post (some (.int v)) h) :
    W p l e R s m args below meth c H locs cells slots (MQ below (Qx D z post) args s mc ms (zA z)) (F0 m pc ls [.int v]) :=
  W.widen hc hs (W.zret hexec hb hr hn (fun t ht _ => ⟨_, h, rfl, hp, m_F hB ht⟩) (fun q hq => hB.2.2.2 q hq) hdg hlocks)
theorem m_vret {post : Option Value → Hp → Prop} (hexec : p.tables.exec = Jvm.exec) (hb : c.code = cc) (hr : meth.sig.returnType = none) (hlocks : meth.locks = false) (hB : Bk D z s.heap h H locs) (hc : cells ≤ mc) (hs : slots ≤ ms) (hdg : decode cc pc = .ok (.return_, 1)) (hp : post none h) :
    W p l e R s m args below meth c H locs cells slots (MQ below (Qx D z post) args s mc ms (zA z)) (F0 m pc ls []) :=
  W.widen hc hs (W.vret hexec hb hr (fun t ht _ => ⟨_, h, rfl, hp, m_F hB ht⟩) (fun q hq => hB.2.2.2 q hq) hdg hlocks)
theorem m_aret {post : Option Value → Hp → Prop} {x : Nat} {nm : String} (hexec : p.tables.exec = Jvm.exec) (hb : c.code = cc) (hr : meth.sig.returnType = some (.object nm)) (hlocks : meth.locks = false) (hB : Bk D z s.heap h H locs) (hc : cells ≤ mc) (hs : slots ≤ ms) (hdg : decode cc pc = .ok (.areturn, 1)) (hp : post (some (.ref x)) h) :
    W p l e R s m args below meth c H locs cells slots (MQ below (Qx D z post) args s mc ms (zA z)) (F0 m pc ls [.ref x]) :=
  W.widen hc hs (W.aret hexec hb hr (Or.inl ⟨nm, rfl⟩) (Or.inr ⟨x, rfl⟩) (fun t ht _ => ⟨_, h, rfl, hp, m_F hB ht⟩) (fun q hq => hB.2.2.2 q hq) hdg hlocks)
theorem m_out {post : Option Value → Hp → Prop} {PX : String → Hp → Prop} {E : String} {ce : Cell} {q : Addr} (hout : ∀ x ∈ c.exceptionTable.toList, False) (hlocks : meth.locks = false) (hB : Bk D z s.heap h H locs) (hcell : H[q]? = some ce) (hv : ce.vm = .none) (hcl : s.vm.findClass E = some ce.cls) (hc : cells ≤ mc) (hs : slots ≤ ms) (hp : PX E h) :
    vx_W p l e R s m args below meth c H locs cells slots (vx_MQ below (Qx D z post) (Xp D z PX) args s mc ms (zA z)) (F0 m pc ls rest) q :=
  vx_out (fun x hx => (hout x hx).elim) hlocks hcell hv hcl (fun t ht _ => ⟨h, hp, m_F hB ht⟩) (fun q hq => hB.2.2.2 q hq) hc hs
theorem m_throw {post : Option Value → Hp → Prop} {PX : String → Hp → Prop} (hexec : p.tables.exec = Jvm.exec) (hb : c.code = cc) (hl : l.stackTraces = false) {cls text : String} {ik is ic : Nat} (hown : s.vm.findClass RX3 = some m.cls) (hcls : Bundle.fit cls = true) (hts : ∀ w ∈ Ts, w.before args s = true) (hk : (Cond.classLink RX3 ik cls) ∈ Ts) (hini : (Cond.initialized cls) ∈ Ts)
    (h1 : ∀ w ∈ (vx_atS RX3 ic cls nEs).filter goodWord, w ∈ Ts) (h2 : ∀ w ∈ (vx_atS RX3 ic cls nEs).filter (fun w => !goodWord w), w ∈ xwC.map (fun q => Cond.castable q.1 q.2) ++ xwD.map Cond.declares) (hgood : ∀ w ∈ Cond.classLink RX3 ik cls :: Cond.initialized cls :: vx_atS RX3 ic cls nEs, vx_ot w = true)
    (hstr : (is, text) ∈ xwS) (hK : Kb D z tys s) (hB : Bk D z s.heap h H locs) (hsize : ls.size = c.maxLocals) (hout : ∀ x ∈ c.exceptionTable.toList, False) (hlocks : meth.locks = false)
    (d0 : decode cc pc = .ok (.new ik, 3)) (d3 : decode cc (pc + 3) = .ok (.dup, 1)) (d4 : decode cc (pc + 4) = .ok (.ldc is, 2)) (d6 : decode cc (pc + 6) = .ok (.invokespecial ic, 3)) (d9 : decode cc (pc + 9) = .ok (.athrow, 1))
    (hRf : 6 ≤ R.frames) (hRl : (rest.map fun v => v.category).sum + 82 ≤ R.locals) (hRc : cells + 1 ≤ R.cells) (hRs : slots + 6 ≤ R.slots) (hc : cells + 1 ≤ mc) (hs : slots + 6 ≤ ms) (hp : PX cls h) :
    W p l e R s m args below meth c H locs cells slots (vx_MQ below (Qx D z post) (Xp D z PX) args s mc ms (zA z)) (F0 m pc ls rest) := by
  obtain ⟨sa, hsa⟩ := hK.2.1.2.2.2.2.2 _ hstr
  have h3 : ∀ w ∈ xwC.map (fun q => Cond.castable q.1 q.2) ++ xwD.map Cond.declares, w.before args s = true := by
    intro w hw
    rcases List.mem_append.mp hw with hw | hw
    · obtain ⟨q, hq, rfl⟩ := List.mem_map.mp hw
      exact va_Nw.use rfl (hK.2.1.2.2.1 q hq)
    · obtain ⟨q, hq, rfl⟩ := List.mem_map.mp hw
      exact va_Nw.use rfl (hK.2.1.2.2.2.1 q hq)
  refine vx_throwS (A := zA z) hexec hb hl hown hcls (by decide) (hts _ hk) (hts _ hini) hsa (vx_hat (fun w hw => hts w (h1 w hw)) h2 h3) hgood hK.2.2.1.1 hK.2.2.1.2 hB.2 hsize d0 d3 d4 d6 d9 (fun x hx => (hout x hx).elim) (by show 2 + 3 < R.frames; omega) (by show _ + (13 * (2 + 1) + 43) ≤ R.locals; omega) hRc hRs hlocks (fun t _ hz hq => ⟨h, hp, hB.1.kept hz hq, Nat.le_trans hB.2.1 hz, fun q h1 h2 => ?_⟩) (fun q hq => hB.2.2.2 q hq) hc hs
  exact (hq q (Nat.lt_of_lt_of_le h1 hB.2.1)).trans (hB.2.2.1 q h1 h2)
end MB
end
section
/-! whole numbers as Int, the machine's by iI; truth values by b2; counts -/
def iI (a : Int) : Int32 := Int32.ofInt a
abbrev rg (a : Int) : Prop := -2147483648 ≤ a ∧ a < 2147483648
theorem iI_t {a : Int} (h : rg a) : (iI a).toInt = a := Int32.toInt_ofInt_of_le (by omega) (by omega)
theorem iI_of (x : Int32) : x = iI x.toInt := (Int32.ofInt_toInt x).symm
theorem iI_rg (x : Int32) : rg x.toInt := ⟨by have := Int32.le_toInt x; omega, by have := Int32.toInt_lt x; omega⟩
theorem iI_add (a b : Int) : iI a + iI b = iI (a + b) := (Int32.ofInt_add a b).symm
theorem iI_sub (a b : Int) : iI a - iI b = iI (a - b) := (Int32.ofInt_sub a b).symm
theorem iI_mul (a b : Int) : iI a * iI b = iI (a * b) := (Int32.ofInt_mul a b).symm
theorem iI_lt {a b : Int} (ha : rg a) (hb : rg b) : iI a < iI b ↔ a < b := by rw [Int32.lt_iff_toInt_lt, iI_t ha, iI_t hb]
theorem iI_le {a b : Int} (ha : rg a) (hb : rg b) : iI a ≤ iI b ↔ a ≤ b := by rw [Int32.le_iff_toInt_le, iI_t ha, iI_t hb]
theorem iI_eq {a b : Int} (ha : rg a) (hb : rg b) : iI a = iI b ↔ a = b := by rw [← Int32.toInt_inj, iI_t ha, iI_t hb]
theorem iI_0 : (0 : Int32) = iI 0 := by decide
theorem iI_nat (n : Nat) : iI (n : Int) = nI n := Int32.ofInt_eq_ofNat
theorem iI_clamp {a : Int} (h : rg a) : (iI a).toNatClampNeg = a.toNat := by
  show (iI a).toInt.toNat = a.toNat
  rw [iI_t h]
theorem iI_in {n N : Nat} (h : n < N) (hN : N ≤ 1000000) : vp_in (iI (n : Int)) N := by rw [iI_nat]; exact vp_in_nI h (by omega)
theorem iI_cn {n : Nat} (h : n < 1000000) : (iI (n : Int)).toNatClampNeg = n := by rw [iI_clamp ⟨by omega, by omega⟩]; rfl
/-- 1 where P holds, else 0 -/
noncomputable def b2 (P : Prop) : Int := @ite Int P (Classical.propDecidable P) 1 0
theorem b2_t {P : Prop} (h : P) : b2 P = 1 := if_pos h
theorem b2_f {P : Prop} (h : ¬ P) : b2 P = 0 := if_neg h
theorem b2_c {P P' : Prop} (h : P ↔ P') : b2 P = b2 P' := by rw [propext h]
theorem b2_01 (P : Prop) : b2 P = 0 ∨ b2 P = 1 := by
  by_cases h : P
  · exact Or.inr (b2_t h)
  · exact Or.inl (b2_f h)
theorem b2_iff (P : Prop) : b2 P = 1 ↔ P := by
  by_cases h : P
  · rw [b2_t h]; exact ⟨fun _ => h, fun _ => rfl⟩
  · rw [b2_f h]; exact ⟨fun q => by omega, fun q => absurd q h⟩
theorem b2_nb (P : Prop) : narrow .boolean (.int (iI (b2 P))) = .int (iI (b2 P)) := by
  rcases b2_01 P with h | h <;> rw [h] <;> decide
theorem b2_fb (P : Prop) : fits .boolean (.int (iI (b2 P))) = true := by
  rcases b2_01 P with h | h <;> rw [h] <;> decide
/-- how many of the first n have P -/
noncomputable def cnt (P : Nat → Prop) : Nat → Int
  | 0 => 0
  | n + 1 => cnt P n + b2 (P n)
theorem cnt_t {P : Nat → Prop} {n : Nat} (h : P n) : cnt P (n + 1) = cnt P n + 1 := by rw [cnt, b2_t h]
theorem cnt_f {P : Nat → Prop} {n : Nat} (h : ¬ P n) : cnt P (n + 1) = cnt P n := by rw [cnt, b2_f h]; omega
theorem cnt_rg (P : Nat → Prop) (n : Nat) : 0 ≤ cnt P n ∧ cnt P n ≤ n := by
  induction n with
  | zero => exact ⟨Int.le_refl _, Int.le_refl _⟩
  | succ n ih =>
    have h := b2_01 (P n)
    rw [cnt]
    omega
theorem cnt_c {P P' : Nat → Prop} {n : Nat} (h : ∀ i, i < n → (P i ↔ P' i)) : cnt P n = cnt P' n := by
  induction n with
  | zero => rfl
  | succ n ih => rw [cnt, cnt, ih (fun i hi => h i (Nat.lt_succ_of_lt hi)), b2_c (h n (Nat.lt_succ_self n))]
theorem cnt_more {P : Nat → Prop} {n k : Nat} (h : ∀ i, n ≤ i → i < n + k → ¬ P i) : cnt P (n + k) = cnt P n := by
  induction k with
  | zero => rfl
  | succ k ih => rw [← Nat.add_assoc, cnt_f (h (n + k) (by omega) (by omega)), ih (fun i h1 h2 => h i h1 (by omega))]
theorem cnt_cut {P : Nat → Prop} {n N : Nat} (hn : n ≤ N) (h : ∀ i, n ≤ i → i < N → ¬ P i) : cnt P N = cnt P n := by
  have := cnt_more (P := P) (n := n) (k := N - n) (fun i h1 h2 => h i h1 (by omega))
  rwa [show n + (N - n) = N by omega] at this
/-! for-all and there-is up to a bound, a step -/
theorem fa_s {P : Nat → Prop} {n : Nat} (h : ∀ i, i < n → P i) (hn : P n) : ∀ i, i < n + 1 → P i := fun i hi => by
  rcases Nat.lt_succ_iff_lt_or_eq.mp hi with q | rfl
  · exact h i q
  · exact hn
theorem ex_s {P : Nat → Prop} {n : Nat} (h : ∃ i, i < n ∧ P i) : ∃ i, i < n + 1 ∧ P i := by
  obtain ⟨i, h1, h2⟩ := h
  exact ⟨i, Nat.lt_succ_of_lt h1, h2⟩
theorem ex_n {P : Nat → Prop} {n : Nat} (h : P n) : ∃ i, i < n + 1 ∧ P i := ⟨n, Nat.lt_succ_self n, h⟩
theorem ex_f {P : Nat → Prop} {n : Nat} (h : ¬ ∃ i, i < n ∧ P i) (hn : ¬ P n) : ¬ ∃ i, i < n + 1 ∧ P i := fun ⟨i, h1, h2⟩ => by
  rcases Nat.lt_succ_iff_lt_or_eq.mp h1 with q | rfl
  · exact h ⟨i, q, h2⟩
  · exact hn h2
/-- the first of i, i+1 .. (n of them) with P; 0 if none -/
noncomputable def fnd (P : Nat → Prop) : Nat → Nat → Nat
  | _, 0 => 0
  | i, n + 1 => @ite Nat (P i) (Classical.propDecidable (P i)) i (fnd P (i + 1) n)
theorem fnd_t {P : Nat → Prop} {i n : Nat} (h : P i) : fnd P i (n + 1) = i := if_pos h
theorem fnd_f {P : Nat → Prop} {i n : Nat} (h : ¬ P i) : fnd P i (n + 1) = fnd P (i + 1) n := if_neg h
theorem fnd_at {P : Nat → Prop} {n : Nat} : ∀ {i k : Nat}, i ≤ k → k < i + n → (∀ j, i ≤ j → j < k → ¬ P j) → P k → fnd P i n = k := by
  induction n with
  | zero => intro i k h1 h2; omega
  | succ n ih =>
    intro i k h1 h2 h3 h4
    by_cases q : P i
    · rw [fnd_t q]
      rcases Nat.lt_or_ge i k with w | w
      · exact absurd q (h3 i (Nat.le_refl i) w)
      · omega
    · rw [fnd_f q]
      rcases Nat.lt_or_ge i k with w | w
      · exact ih (by omega) (by omega) (fun j a b => h3 j (by omega) b) h4
      · have : i = k := by omega
        subst this
        exact absurd h4 q
theorem fnd_no {P : Nat → Prop} {n : Nat} : ∀ {i : Nat}, (∀ j, i ≤ j → j < i + n → ¬ P j) → fnd P i n = 0 := by
  induction n with
  | zero => intro i _; rfl
  | succ n ih =>
    intro i h
    rw [fnd_f (h i (Nat.le_refl i) (by omega))]
    exact ih (fun j a b => h j (by omega) (by omega))
/-- what was found: 0 with none, or the first -/
theorem fnd_is (P : Nat → Prop) (n : Nat) : ∀ (i : Nat), (fnd P i n = 0 ∧ ∀ j, i ≤ j → j < i + n → ¬ P j) ∨ (i ≤ fnd P i n ∧ fnd P i n < i + n ∧ P (fnd P i n) ∧ ∀ j, i ≤ j → j < fnd P i n → ¬ P j) := by
  induction n with
  | zero => intro i; exact Or.inl ⟨rfl, fun j h1 h2 => by omega⟩
  | succ n ih =>
    intro i
    by_cases q : P i
    · rw [fnd_t q]
      exact Or.inr ⟨Nat.le_refl i, by omega, q, fun j h1 h2 => by omega⟩
    · rw [fnd_f q]
      rcases ih (i + 1) with ⟨h1, h2⟩ | ⟨h1, h2, h3, h4⟩
      · refine Or.inl ⟨h1, fun j a b => ?_⟩
        rcases Nat.eq_or_lt_of_le a with w | w
        · subst w; exact q
        · exact h2 j w (by omega)
      · refine Or.inr ⟨by omega, by omega, h3, fun j a b => ?_⟩
        rcases Nat.eq_or_lt_of_le a with w | w
        · subst w; exact q
        · exact h4 j w b
/-! bits -/
theorem iI_shr {a : Int} {k : Nat} (h0 : 0 ≤ a) (h1 : a < 2147483648) (hk : k < 32) : iI a >>> (iI (k : Int) &&& 31) = iI (a / 2 ^ k) := by
  obtain ⟨n, rfl⟩ : ∃ n : Nat, a = n := ⟨a.toNat, by omega⟩
  have hs : ((nI k &&& 31).toBitVec.smod 32).toNat = k := by
    revert hk
    revert k
    decide
  rw [iI_nat, iI_nat, pk_shrN (by omega) _ k hs, ← iI_nat]
  congr 1
theorem iI_and {a b : Int} (ha : 0 ≤ a) (hb : 0 ≤ b) : iI a &&& iI b = iI ((a.toNat &&& b.toNat : Nat) : Int) := by
  obtain ⟨n, rfl⟩ : ∃ n : Nat, a = n := ⟨a.toNat, by omega⟩
  obtain ⟨k, rfl⟩ : ∃ k : Nat, b = k := ⟨b.toNat, by omega⟩
  apply Int32.toBitVec.inj
  rw [iI_nat, iI_nat, iI_nat]
  show BitVec.ofNat 32 n &&& BitVec.ofNat 32 k = BitVec.ofNat 32 (n &&& k)
  apply BitVec.eq_of_toNat_eq
  simp [BitVec.toNat_and, Nat.and_mod_two_pow]
theorem iI_and1 {a : Int} (ha : 0 ≤ a) : iI a &&& iI 1 = iI (a % 2) := by
  rw [iI_and ha (by decide)]
  congr 1
  obtain ⟨n, rfl⟩ : ∃ n : Nat, a = n := ⟨a.toNat, by omega⟩
  show ((n &&& 1 : Nat) : Int) = (n : Int) % 2
  rw [Nat.and_one_is_mod]
  rfl
theorem iI_rem {a b : Int} (ha : 0 ≤ a) (ha2 : a < 2147483648) (hb : 0 < b) (hb2 : b < 2147483648) : iI a - iI a / iI b * iI b = iI (a % b) := by
  obtain ⟨n, rfl⟩ : ∃ n : Nat, a = n := ⟨a.toNat, by omega⟩
  obtain ⟨k, rfl⟩ : ∃ k : Nat, b = k := ⟨b.toNat, by omega⟩
  rw [iI_nat, iI_nat, pk_rem (by omega) (by omega) (by omega), ← iI_nat]
  rfl
section JR
variable {p : Program} {l : Launch} {e : Env} {R : Room} {s : State} {m : MethodId} {args : Array Value} {below : List Frame} {meth : Method} {c : Code} {H : Heap} {locs : List Loc} {cells slots : Nat} {Q : State → Prop}
variable {cc : ByteArray} {pc : Nat} {ls : Array Slot} {rest st0 : List Value}
theorem j_iconst (hexec : p.tables.exec = Jvm.exec) (hb : c.code = cc) {n : Int} (hdg : decode cc pc = .ok (.iconst n, 1)) (k : W p l e R s m args below meth c H locs cells slots Q (F0 m (pc + 1) ls (.int (iI n) :: rest))) : W p l e R s m args below meth c H locs cells slots Q (F0 m pc ls rest) := lv_iconst hexec hb hdg rfl k
theorem j_bipush (hexec : p.tables.exec = Jvm.exec) (hb : c.code = cc) {n : Int} (hdg : decode cc pc = .ok (.bipush n, 2)) (hv : (Int8.ofInt n).toInt32 = iI n) (k : W p l e R s m args below meth c H locs cells slots Q (F0 m (pc + 2) ls (.int (iI n) :: rest))) : W p l e R s m args below meth c H locs cells slots Q (F0 m pc ls rest) := lv_bipush hexec hb hdg hv k
theorem j_sipush (hexec : p.tables.exec = Jvm.exec) (hb : c.code = cc) {n : Int} (hdg : decode cc pc = .ok (.sipush n, 3)) (hv : (Int16.ofInt n).toInt32 = iI n) (k : W p l e R s m args below meth c H locs cells slots Q (F0 m (pc + 3) ls (.int (iI n) :: rest))) : W p l e R s m args below meth c H locs cells slots Q (F0 m pc ls rest) := lv_sipush hexec hb hdg hv k
theorem j_iadd (hexec : p.tables.exec = Jvm.exec) (hb : c.code = cc) {x y : Int} (hdg : decode cc pc = .ok (.iadd, 1)) (k : W p l e R s m args below meth c H locs cells slots Q (F0 m (pc + 1) ls (.int (iI (x + y)) :: rest))) : W p l e R s m args below meth c H locs cells slots Q (F0 m pc ls (.int (iI y) :: .int (iI x) :: rest)) := lv_iadd hexec hb hdg (by rw [iI_add]; exact k)
theorem j_isub (hexec : p.tables.exec = Jvm.exec) (hb : c.code = cc) {x y : Int} (hdg : decode cc pc = .ok (.isub, 1)) (k : W p l e R s m args below meth c H locs cells slots Q (F0 m (pc + 1) ls (.int (iI (x - y)) :: rest))) : W p l e R s m args below meth c H locs cells slots Q (F0 m pc ls (.int (iI y) :: .int (iI x) :: rest)) := lv_isub hexec hb hdg (by rw [iI_sub]; exact k)
theorem j_imul (hexec : p.tables.exec = Jvm.exec) (hb : c.code = cc) {x y : Int} (hdg : decode cc pc = .ok (.imul, 1)) (k : W p l e R s m args below meth c H locs cells slots Q (F0 m (pc + 1) ls (.int (iI (x * y)) :: rest))) : W p l e R s m args below meth c H locs cells slots Q (F0 m pc ls (.int (iI y) :: .int (iI x) :: rest)) := lv_imul hexec hb hdg (by rw [iI_mul]; exact k)
theorem j_irem (hexec : p.tables.exec = Jvm.exec) (hb : c.code = cc) {x y : Int} (hx : 0 ≤ x ∧ x < 2147483648) (hy : 0 < y ∧ y < 2147483648) (hdg : decode cc pc = .ok (.irem, 1)) (k : W p l e R s m args below meth c H locs cells slots Q (F0 m (pc + 1) ls (.int (iI (x % y)) :: rest))) : W p l e R s m args below meth c H locs cells slots Q (F0 m pc ls (.int (iI y) :: .int (iI x) :: rest)) := by
  refine lv_irem hexec hb hdg (fun h => ?_) (by rw [iI_rem hx.1 hx.2 hy.1 hy.2]; exact k)
  rw [iI_0] at h
  have := (iI_eq (a := y) (b := 0) ⟨by omega, by omega⟩ ⟨by omega, by omega⟩).mp h
  omega
theorem j_ishr (hexec : p.tables.exec = Jvm.exec) (hb : c.code = cc) {x : Int} {n : Nat} (hx : 0 ≤ x ∧ x < 2147483648) (hn : n < 32) (hdg : decode cc pc = .ok (.ishr, 1)) (k : W p l e R s m args below meth c H locs cells slots Q (F0 m (pc + 1) ls (.int (iI (x / 2 ^ n)) :: rest))) : W p l e R s m args below meth c H locs cells slots Q (F0 m pc ls (.int (iI (n : Int)) :: .int (iI x) :: rest)) := lv_ishr hexec hb hdg (by rw [iI_shr hx.1 hx.2 hn]; exact k)
theorem j_iand1 (hexec : p.tables.exec = Jvm.exec) (hb : c.code = cc) {x : Int} (hx : 0 ≤ x) (hdg : decode cc pc = .ok (.iand, 1)) (k : W p l e R s m args below meth c H locs cells slots Q (F0 m (pc + 1) ls (.int (iI (x % 2)) :: rest))) : W p l e R s m args below meth c H locs cells slots Q (F0 m pc ls (.int (iI 1) :: .int (iI x) :: rest)) := lv_iand hexec hb hdg (by rw [iI_and1 hx]; exact k)
theorem j_iand (hexec : p.tables.exec = Jvm.exec) (hb : c.code = cc) {x y : Int} (hx : 0 ≤ x) (hy : 0 ≤ y) (hdg : decode cc pc = .ok (.iand, 1)) (k : W p l e R s m args below meth c H locs cells slots Q (F0 m (pc + 1) ls (.int (iI ((x.toNat &&& y.toNat : Nat) : Int)) :: rest))) : W p l e R s m args below meth c H locs cells slots Q (F0 m pc ls (.int (iI y) :: .int (iI x) :: rest)) := lv_iand hexec hb hdg (by rw [iI_and hx hy]; exact k)
theorem j_iinc (hexec : p.tables.exec = Jvm.exec) (hb : c.code = cc) {i nL k : Nat} {n x : Int} {lv lv' : List (Nat × Value)} (hdg : decode cc pc = .ok (.iinc i n, 3)) (h : lv_has ls nL lv) (hk : lv[k]? = some (i, .int (iI x))) (hn : i < nL) (hl : (i, Value.int (iI (x + n))) :: lv.filter (fun q => !(q.1 == i) && !(q.1 + 1 == i && q.2.category == 2)) = lv')
    (kk : ∀ ls', lv_has ls' nL lv' → W p l e R s m args below meth c H locs cells slots Q (F0 m (pc + 3) ls' rest)) : W p l e R s m args below meth c H locs cells slots Q (F0 m pc ls rest) := lv_iinc hexec hb hdg h hk (show iI x + iI n = iI (x + n) from iI_add x n) hn hl kk
theorem j_icmp_eq (hexec : p.tables.exec = Jvm.exec) (hb : c.code = cc) {x y : Int} {off : Int} {tgt : Nat} (hdg : decode cc pc = .ok (.if_icmp .eq off, 3)) (ht : (pc : Int) + off = (tgt : Int)) (hx : rg x) (hy : rg y) (kt : x = y → W p l e R s m args below meth c H locs cells slots Q (F0 m tgt ls rest)) (kf : x ≠ y → W p l e R s m args below meth c H locs cells slots Q (F0 m (pc + 3) ls rest)) : W p l e R s m args below meth c H locs cells slots Q (F0 m pc ls (.int (iI y) :: .int (iI x) :: rest)) := lv_icmp_eq hexec hb hdg ht (fun q => kt ((iI_eq hx hy).mp q)) (fun q => kf (fun w => q ((iI_eq hx hy).mpr w)))
theorem j_icmp_ne (hexec : p.tables.exec = Jvm.exec) (hb : c.code = cc) {x y : Int} {off : Int} {tgt : Nat} (hdg : decode cc pc = .ok (.if_icmp .ne off, 3)) (ht : (pc : Int) + off = (tgt : Int)) (hx : rg x) (hy : rg y) (kt : x ≠ y → W p l e R s m args below meth c H locs cells slots Q (F0 m tgt ls rest)) (kf : x = y → W p l e R s m args below meth c H locs cells slots Q (F0 m (pc + 3) ls rest)) : W p l e R s m args below meth c H locs cells slots Q (F0 m pc ls (.int (iI y) :: .int (iI x) :: rest)) := lv_icmp_ne hexec hb hdg ht (fun q => kt (fun w => q ((iI_eq hx hy).mpr w))) (fun q => kf ((iI_eq hx hy).mp q))
theorem j_icmp_lt (hexec : p.tables.exec = Jvm.exec) (hb : c.code = cc) {x y : Int} {off : Int} {tgt : Nat} (hdg : decode cc pc = .ok (.if_icmp .lt off, 3)) (ht : (pc : Int) + off = (tgt : Int)) (hx : rg x) (hy : rg y) (kt : x < y → W p l e R s m args below meth c H locs cells slots Q (F0 m tgt ls rest)) (kf : ¬ x < y → W p l e R s m args below meth c H locs cells slots Q (F0 m (pc + 3) ls rest)) : W p l e R s m args below meth c H locs cells slots Q (F0 m pc ls (.int (iI y) :: .int (iI x) :: rest)) := lv_icmp_lt hexec hb hdg ht (fun q => kt ((iI_lt hx hy).mp q)) (fun q => kf (fun w => q ((iI_lt hx hy).mpr w)))
theorem j_icmp_ge (hexec : p.tables.exec = Jvm.exec) (hb : c.code = cc) {x y : Int} {off : Int} {tgt : Nat} (hdg : decode cc pc = .ok (.if_icmp .ge off, 3)) (ht : (pc : Int) + off = (tgt : Int)) (hx : rg x) (hy : rg y) (kt : y ≤ x → W p l e R s m args below meth c H locs cells slots Q (F0 m tgt ls rest)) (kf : ¬ y ≤ x → W p l e R s m args below meth c H locs cells slots Q (F0 m (pc + 3) ls rest)) : W p l e R s m args below meth c H locs cells slots Q (F0 m pc ls (.int (iI y) :: .int (iI x) :: rest)) := lv_icmp_ge hexec hb hdg ht (fun q => kt ((iI_le hy hx).mp q)) (fun q => kf (fun w => q ((iI_le hy hx).mpr w)))
theorem j_icmp_gt (hexec : p.tables.exec = Jvm.exec) (hb : c.code = cc) {x y : Int} {off : Int} {tgt : Nat} (hdg : decode cc pc = .ok (.if_icmp .gt off, 3)) (ht : (pc : Int) + off = (tgt : Int)) (hx : rg x) (hy : rg y) (kt : y < x → W p l e R s m args below meth c H locs cells slots Q (F0 m tgt ls rest)) (kf : ¬ y < x → W p l e R s m args below meth c H locs cells slots Q (F0 m (pc + 3) ls rest)) : W p l e R s m args below meth c H locs cells slots Q (F0 m pc ls (.int (iI y) :: .int (iI x) :: rest)) := lv_icmp_gt hexec hb hdg ht (fun q => kt ((iI_lt hy hx).mp q)) (fun q => kf (fun w => q ((iI_lt hy hx).mpr w)))
theorem j_icmp_le (hexec : p.tables.exec = Jvm.exec) (hb : c.code = cc) {x y : Int} {off : Int} {tgt : Nat} (hdg : decode cc pc = .ok (.if_icmp .le off, 3)) (ht : (pc : Int) + off = (tgt : Int)) (hx : rg x) (hy : rg y) (kt : x ≤ y → W p l e R s m args below meth c H locs cells slots Q (F0 m tgt ls rest)) (kf : ¬ x ≤ y → W p l e R s m args below meth c H locs cells slots Q (F0 m (pc + 3) ls rest)) : W p l e R s m args below meth c H locs cells slots Q (F0 m pc ls (.int (iI y) :: .int (iI x) :: rest)) := lv_icmp_le hexec hb hdg ht (fun q => kt ((iI_le hx hy).mp q)) (fun q => kf (fun w => q ((iI_le hx hy).mpr w)))
theorem j_if_eq (hexec : p.tables.exec = Jvm.exec) (hb : c.code = cc) {x : Int} {off : Int} {tgt : Nat} (hdg : decode cc pc = .ok (.ifCond .eq off, 3)) (ht : (pc : Int) + off = (tgt : Int)) (hx : rg x) (kt : x = 0 → W p l e R s m args below meth c H locs cells slots Q (F0 m tgt ls rest)) (kf : x ≠ 0 → W p l e R s m args below meth c H locs cells slots Q (F0 m (pc + 3) ls rest)) : W p l e R s m args below meth c H locs cells slots Q (F0 m pc ls (.int (iI x) :: rest)) := lv_if_eq hexec hb hdg ht (fun q => kt ((iI_eq hx ⟨by omega, by omega⟩).mp (by rw [← iI_0]; exact q))) (fun q => kf (fun w => q (by rw [w, iI_0])))
theorem j_if_ne (hexec : p.tables.exec = Jvm.exec) (hb : c.code = cc) {x : Int} {off : Int} {tgt : Nat} (hdg : decode cc pc = .ok (.ifCond .ne off, 3)) (ht : (pc : Int) + off = (tgt : Int)) (hx : rg x) (kt : x ≠ 0 → W p l e R s m args below meth c H locs cells slots Q (F0 m tgt ls rest)) (kf : x = 0 → W p l e R s m args below meth c H locs cells slots Q (F0 m (pc + 3) ls rest)) : W p l e R s m args below meth c H locs cells slots Q (F0 m pc ls (.int (iI x) :: rest)) := lv_if_ne hexec hb hdg ht (fun q => kt (fun w => q (by rw [w, iI_0]))) (fun q => kf ((iI_eq hx ⟨by omega, by omega⟩).mp (by rw [← iI_0]; exact q)))
theorem j_if_lt (hexec : p.tables.exec = Jvm.exec) (hb : c.code = cc) {x : Int} {off : Int} {tgt : Nat} (hdg : decode cc pc = .ok (.ifCond .lt off, 3)) (ht : (pc : Int) + off = (tgt : Int)) (hx : rg x) (kt : x < 0 → W p l e R s m args below meth c H locs cells slots Q (F0 m tgt ls rest)) (kf : ¬ x < 0 → W p l e R s m args below meth c H locs cells slots Q (F0 m (pc + 3) ls rest)) : W p l e R s m args below meth c H locs cells slots Q (F0 m pc ls (.int (iI x) :: rest)) := lv_if_lt hexec hb hdg ht (fun q => kt ((iI_lt hx ⟨by omega, by omega⟩).mp (by rw [← iI_0]; exact q))) (fun q => kf (fun w => q (by rw [iI_0]; exact (iI_lt hx ⟨by omega, by omega⟩).mpr w)))
theorem j_if_ge (hexec : p.tables.exec = Jvm.exec) (hb : c.code = cc) {x : Int} {off : Int} {tgt : Nat} (hdg : decode cc pc = .ok (.ifCond .ge off, 3)) (ht : (pc : Int) + off = (tgt : Int)) (hx : rg x) (kt : 0 ≤ x → W p l e R s m args below meth c H locs cells slots Q (F0 m tgt ls rest)) (kf : ¬ 0 ≤ x → W p l e R s m args below meth c H locs cells slots Q (F0 m (pc + 3) ls rest)) : W p l e R s m args below meth c H locs cells slots Q (F0 m pc ls (.int (iI x) :: rest)) := lv_if_ge hexec hb hdg ht (fun q => kt ((iI_le ⟨by omega, by omega⟩ hx).mp (by rw [← iI_0]; exact q))) (fun q => kf (fun w => q (by rw [iI_0]; exact (iI_le ⟨by omega, by omega⟩ hx).mpr w)))
theorem j_if_gt (hexec : p.tables.exec = Jvm.exec) (hb : c.code = cc) {x : Int} {off : Int} {tgt : Nat} (hdg : decode cc pc = .ok (.ifCond .gt off, 3)) (ht : (pc : Int) + off = (tgt : Int)) (hx : rg x) (kt : 0 < x → W p l e R s m args below meth c H locs cells slots Q (F0 m tgt ls rest)) (kf : ¬ 0 < x → W p l e R s m args below meth c H locs cells slots Q (F0 m (pc + 3) ls rest)) : W p l e R s m args below meth c H locs cells slots Q (F0 m pc ls (.int (iI x) :: rest)) := lv_if_gt hexec hb hdg ht (fun q => kt ((iI_lt ⟨by omega, by omega⟩ hx).mp (by rw [← iI_0]; exact q))) (fun q => kf (fun w => q (by rw [iI_0]; exact (iI_lt ⟨by omega, by omega⟩ hx).mpr w)))
theorem j_if_le (hexec : p.tables.exec = Jvm.exec) (hb : c.code = cc) {x : Int} {off : Int} {tgt : Nat} (hdg : decode cc pc = .ok (.ifCond .le off, 3)) (ht : (pc : Int) + off = (tgt : Int)) (hx : rg x) (kt : x ≤ 0 → W p l e R s m args below meth c H locs cells slots Q (F0 m tgt ls rest)) (kf : ¬ x ≤ 0 → W p l e R s m args below meth c H locs cells slots Q (F0 m (pc + 3) ls rest)) : W p l e R s m args below meth c H locs cells slots Q (F0 m pc ls (.int (iI x) :: rest)) := lv_if_le hexec hb hdg ht (fun q => kt ((iI_le hx ⟨by omega, by omega⟩).mp (by rw [← iI_0]; exact q))) (fun q => kf (fun w => q (by rw [iI_0]; exact (iI_le hx ⟨by omega, by omega⟩).mpr w)))
/-- a truth value is asked -/
theorem j_ifeqP (hexec : p.tables.exec = Jvm.exec) (hb : c.code = cc) {P : Prop} {off : Int} {tgt : Nat} (hdg : decode cc pc = .ok (.ifCond .eq off, 3)) (ht : (pc : Int) + off = (tgt : Int)) (kt : ¬ P → W p l e R s m args below meth c H locs cells slots Q (F0 m tgt ls rest)) (kf : P → W p l e R s m args below meth c H locs cells slots Q (F0 m (pc + 3) ls rest)) : W p l e R s m args below meth c H locs cells slots Q (F0 m pc ls (.int (iI (b2 P)) :: rest)) := by
  have h01 := b2_01 P
  refine j_if_eq hexec hb hdg ht ⟨by omega, by omega⟩ (fun q => kt (fun w => by rw [b2_t w] at q; omega)) (fun q => kf (by
    by_cases w : P
    · exact w
    · exact absurd (b2_f w) q))
theorem j_ifneP (hexec : p.tables.exec = Jvm.exec) (hb : c.code = cc) {P : Prop} {off : Int} {tgt : Nat} (hdg : decode cc pc = .ok (.ifCond .ne off, 3)) (ht : (pc : Int) + off = (tgt : Int)) (kt : P → W p l e R s m args below meth c H locs cells slots Q (F0 m tgt ls rest)) (kf : ¬ P → W p l e R s m args below meth c H locs cells slots Q (F0 m (pc + 3) ls rest)) : W p l e R s m args below meth c H locs cells slots Q (F0 m pc ls (.int (iI (b2 P)) :: rest)) := by
  have h01 := b2_01 P
  refine j_if_ne hexec hb hdg ht ⟨by omega, by omega⟩ (fun q => kt (by
    by_cases w : P
    · exact w
    · exact absurd (b2_f w) q)) (fun q => kf (fun w => by rw [b2_t w] at q; omega))
theorem j_acmp_eq (hexec : p.tables.exec = Jvm.exec) (hb : c.code = cc) {x y : Nat} {off : Int} {tgt : Nat} (hdg : decode cc pc = .ok (.if_acmp .eq off, 3)) (ht : (pc : Int) + off = (tgt : Int)) (kt : x = y → W p l e R s m args below meth c H locs cells slots Q (F0 m tgt ls rest)) (kf : x ≠ y → W p l e R s m args below meth c H locs cells slots Q (F0 m (pc + 3) ls rest)) : W p l e R s m args below meth c H locs cells slots Q (F0 m pc ls (.ref y :: .ref x :: rest)) := lv_acmp_eq (rx := some x) (ry := some y) hexec hb hdg ht (fun q => kt (Option.some.inj q)) (fun q => kf (fun w => q (by rw [w])))
theorem j_acmp_ne (hexec : p.tables.exec = Jvm.exec) (hb : c.code = cc) {x y : Nat} {off : Int} {tgt : Nat} (hdg : decode cc pc = .ok (.if_acmp .ne off, 3)) (ht : (pc : Int) + off = (tgt : Int)) (kt : x ≠ y → W p l e R s m args below meth c H locs cells slots Q (F0 m tgt ls rest)) (kf : x = y → W p l e R s m args below meth c H locs cells slots Q (F0 m (pc + 3) ls rest)) : W p l e R s m args below meth c H locs cells slots Q (F0 m pc ls (.ref y :: .ref x :: rest)) := lv_acmp_ne (rx := some x) (ry := some y) hexec hb hdg ht (fun q => kt (fun w => q (by rw [w]))) (fun q => kf (Option.some.inj q))
end JR
end
section
/-! THE STATE, as both sides have it: σ g i. g = 0 from, 1 to, 2 kind, 3 detail, 4 state of the part i; 5 part, 6 key, 7 sort, 8 value of the row i; 9 parts made, 10 rows inserted, 11 stale (at 0) -/
abbrev Sg : Type := Nat → Nat → Int
def upS (σ : Sg) (g i : Nat) (v : Int) : Sg := fun g' i' => if g' = g ∧ i' = i then v else σ g' i'
theorem upS_s (σ : Sg) (g i : Nat) (v : Int) : upS σ g i v g i = v := if_pos ⟨rfl, rfl⟩
theorem upS_g {σ : Sg} {g i : Nat} {v : Int} {g' i' : Nat} (h : g' ≠ g) : upS σ g i v g' i' = σ g' i' := if_neg (fun q => h q.1)
theorem upS_i {σ : Sg} {g i : Nat} {v : Int} {g' i' : Nat} (h : i' ≠ i) : upS σ g i v g' i' = σ g' i' := if_neg (fun q => h q.2)
abbrev live (σ : Sg) (j : Nat) : Prop := (j : Int) < σ 10 0 ∧ σ 5 j ≠ -1
def pn (σ : Sg) (j : Nat) : Nat := (σ 5 j).toNat
abbrev prt (n f t k d st : Int) : va_E := .inr (0, [.int (iI n), .int (iI f), .int (iI t), .int (iI k), .int (iI d), .int (iI st)])
abbrev qst (lo hi so : Int) : va_E := .inr (1, [.int (iI lo), .int (iI hi), .int (iI so)])
abbrev rwE (k s v : Int) (pt : Nat) : va_E := .inr (2, [.int (iI k), .int (iI s), .int (iI v), .ref pt])
abbrev tbl (re ps : Nat) (n : Int) (rs : Nat) (r st : Int) : va_E := .inr (3, [.ref re, .ref ps, .int (iI n), .ref rs, .int (iI r), .int (iI st)])
abbrev mdl (xa : Nat → Nat) (th np nr st : Int) : va_E := .inr (4, [.int (iI th), .ref (xa 0), .ref (xa 1), .ref (xa 2), .ref (xa 3), .ref (xa 4), .int (iI np), .ref (xa 5), .ref (xa 6), .ref (xa 7), .ref (xa 8), .int (iI nr), .int (iI st)])
abbrev arI (cI : ClassId) (n : Nat) (f : Nat → Int32) : va_E := .inl (cI, n, .inl f)
abbrev arQ (cQ : ClassId) (n : Nat) (f : Nat → Option Nat) : va_E := .inl (cQ, n, .inr (.inr (.inr (.inr f))))
abbrev arJ (cJ : ClassId) (n : Nat) (f : Nat → Int64) : va_E := .inl (cJ, n, .inr (.inl f))
abbrev tyL (cI cP cR cJ : ClassId) : List (ClassId × FieldType) := [(cI, .int), (cP, .object RX0), (cR, .object RX2), (cJ, .long)]
/-- the class's side: the table at x, its arrays at xp, xr, part i at pa i, row j at ra j -/
def CR (cP cR : ClassId) (x xp xr : Nat) (pa ra : Nat → Nat) (σ : Sg) (h : Hp) : Prop :=
  h x = some (tbl (pa 0) xp (σ 9 0) xr (σ 10 0) (σ 11 0)) ∧
  (∃ f, h xp = some (arQ cP 16 f) ∧ ∀ i : Nat, i < 16 → ((i : Int) ≤ σ 9 0 → f i = some (pa i)) ∧ (¬ (i : Int) ≤ σ 9 0 → f i = none)) ∧
  (∃ f, h xr = some (arQ cR 200 f) ∧ ∀ j : Nat, j < 200 → (live σ j → f j = some (ra j)) ∧ (¬ live σ j → f j = none)) ∧
  (∀ i : Nat, (i : Int) ≤ σ 9 0 → h (pa i) = some (prt i (σ 0 i) (σ 1 i) (σ 2 i) (σ 3 i) (σ 4 i))) ∧
  (∀ j : Nat, live σ j → h (ra j) = some (rwE (σ 6 j) (σ 7 j) (σ 8 j) (pa (pn σ j)))) ∧
  (∀ i i' : Nat, (i : Int) ≤ σ 9 0 → (i' : Int) ≤ σ 9 0 → pa i = pa i' → i = i') ∧
  (∀ j j' : Nat, live σ j → live σ j' → ra j = ra j' → j = j')
abbrev lenG (g : Nat) : Nat := if g < 5 then 16 else 200
/-- the reference's side: the object at xm, its arrays at xa 0 .. xa 8; th: what it last threw -/
def MR (cI : ClassId) (xm : Nat) (xa : Nat → Nat) (σ : Sg) (th : Int) (h : Hp) : Prop :=
  h xm = some (mdl xa th (σ 9 0) (σ 10 0) (σ 11 0)) ∧
  (∀ g, g < 9 → ∃ f, h (xa g) = some (arI cI (lenG g) f) ∧ ∀ i, i < lenG g → f i = iI (σ g i)) ∧
  (∀ g g', g < 9 → g' < 9 → xa g = xa g' → g = g')
/-- which side a cell is of: 0 Part, 1 Question, 2 Row, 3 ParcelledTable, 4 the reference, 5 an int array, 6 an array of references, 7 an array of longs -/
def kd (e : va_E) : Nat := match e with
  | .inr o => o.1
  | .inl a => match a.2.2 with
    | .inl _ => 5
    | .inr (.inl _) => 7
    | .inr (.inr (.inl _)) => 8
    | .inr (.inr (.inr (.inl _))) => 8
    | .inr (.inr (.inr (.inr _))) => 6
/-- the reference's methods leave the class's cells -/
def FrM (h h' : Hp) : Prop := ∀ a e, h a = some e → kd e ≠ 4 → kd e ≠ 5 → h' a = some e
/-- the class's methods leave the reference's cells, and the law's -/
def FrC (h h' : Hp) : Prop := ∀ a e, h a = some e → (kd e = 4 ∨ kd e = 5 ∨ kd e = 7) → h' a = some e
theorem FrM.rf (h : Hp) : FrM h h := fun _ _ q _ _ => q
theorem FrC.rf (h : Hp) : FrC h h := fun _ _ q _ => q
theorem FrM.tr {h h1 h2 : Hp} (a : FrM h h1) (b : FrM h1 h2) : FrM h h2 := fun x e q k1 k2 => b x e (a x e q k1 k2) k1 k2
theorem FrC.tr {h h1 h2 : Hp} (a : FrC h h1) (b : FrC h1 h2) : FrC h h2 := fun x e q k => b x e (a x e q k) k
theorem FrM.up {h : Hp} {a : Nat} {e0 e1 : va_E} (h0 : h a = some e0) (hk : kd e0 = 4 ∨ kd e0 = 5) : FrM h (hup h a e1) := fun b e q k1 k2 => by
  by_cases w : b = a
  · subst w
    rw [h0] at q
    cases q
    exact absurd hk (fun z => z.elim k1 k2)
  · rw [hup_n w]; exact q
theorem FrC.up {h : Hp} {a : Nat} {e0 e1 : va_E} (h0 : h a = some e0) (hk : kd e0 = 0 ∨ kd e0 = 1 ∨ kd e0 = 2 ∨ kd e0 = 3 ∨ kd e0 = 6) : FrC h (hup h a e1) := fun b e q k => by
  by_cases w : b = a
  · subst w
    rw [h0] at q
    cases q
    omega
  · rw [hup_n w]; exact q
theorem hup_new {h : Hp} {a : Nat} {e1 : va_E} (h0 : h a = none) {b : Nat} {e : va_E} (q : h b = some e) : hup h a e1 b = some e := by
  rw [hup_n (fun w => by rw [w, h0] at q; cases q)]
  exact q
theorem FrM.new {h : Hp} {a : Nat} {e1 : va_E} (h0 : h a = none) : FrM h (hup h a e1) := fun _ _ q _ _ => hup_new h0 q
theorem FrC.new {h : Hp} {a : Nat} {e1 : va_E} (h0 : h a = none) : FrC h (hup h a e1) := fun _ _ q _ => hup_new h0 q
section RelC
variable {cP cR : ClassId} {x xp xr : Nat} {pa ra : Nat → Nat} {σ : Sg} {h h' : Hp}
theorem CR.tb (hC : CR cP cR x xp xr pa ra σ h) : h x = some (tbl (pa 0) xp (σ 9 0) xr (σ 10 0) (σ 11 0)) := hC.1
theorem CR.pt (hC : CR cP cR x xp xr pa ra σ h) (i : Nat) (hi : (i : Int) ≤ σ 9 0) : h (pa i) = some (prt i (σ 0 i) (σ 1 i) (σ 2 i) (σ 3 i) (σ 4 i)) := hC.2.2.2.1 i hi
theorem CR.rw (hC : CR cP cR x xp xr pa ra σ h) (j : Nat) (hj : live σ j) : h (ra j) = some (rwE (σ 6 j) (σ 7 j) (σ 8 j) (pa (pn σ j))) := hC.2.2.2.2.1 j hj
theorem CR.pinj (hC : CR cP cR x xp xr pa ra σ h) {i i' : Nat} (hi : (i : Int) ≤ σ 9 0) (hi' : (i' : Int) ≤ σ 9 0) : pa i = pa i' ↔ i = i' := ⟨hC.2.2.2.2.2.1 i i' hi hi', fun q => by rw [q]⟩
theorem CR.rinj (hC : CR cP cR x xp xr pa ra σ h) {j j' : Nat} (hj : live σ j) (hj' : live σ j') : ra j = ra j' ↔ j = j' := ⟨hC.2.2.2.2.2.2 j j' hj hj', fun q => by rw [q]⟩
/-- what is read of the class's cells stays, where they stay -/
theorem CR.keep (hC : CR cP cR x xp xr pa ra σ h) (hk : ∀ a e, h a = some e → (kd e = 0 ∨ kd e = 2 ∨ kd e = 3 ∨ kd e = 6) → h' a = some e) : CR cP cR x xp xr pa ra σ h' := by
  obtain ⟨h1, ⟨f, h2, h3⟩, ⟨g, h4, h5⟩, h6, h7, h8, h9⟩ := hC
  exact ⟨hk _ _ h1 (Or.inr (Or.inr (Or.inl rfl))), ⟨f, hk _ _ h2 (by simp [kd]), h3⟩, ⟨g, hk _ _ h4 (by simp [kd]), h5⟩, fun i hi => hk _ _ (h6 i hi) (Or.inl rfl), fun j hj => hk _ _ (h7 j hj) (Or.inr (Or.inl rfl)), h8, h9⟩
theorem CR.fr (hC : CR cP cR x xp xr pa ra σ h) (hF : FrM h h') : CR cP cR x xp xr pa ra σ h' := hC.keep (fun a e q k => hF a e q (by omega) (by omega))
theorem CR.new (hC : CR cP cR x xp xr pa ra σ h) {a : Nat} {e1 : va_E} (h0 : h a = none) : CR cP cR x xp xr pa ra σ (hup h a e1) := hC.keep (fun _ _ q _ => hup_new h0 q)
end RelC
section RelM
variable {cI : ClassId} {xm : Nat} {xa : Nat → Nat} {σ : Sg} {th : Int} {h h' : Hp}
theorem MR.fr (hM : MR cI xm xa σ th h) (hF : FrC h h') : MR cI xm xa σ th h' := by
  obtain ⟨h1, h2, h3⟩ := hM
  refine ⟨hF _ _ h1 (Or.inl rfl), fun g hg => ?_, h3⟩
  obtain ⟨f, q, w⟩ := h2 g hg
  exact ⟨f, hF _ _ q (by simp [kd]), w⟩
theorem MR.new (hM : MR cI xm xa σ th h) {a : Nat} {e1 : va_E} (h0 : h a = none) : MR cI xm xa σ th (hup h a e1) := hM.fr (FrC.new h0)
theorem lenG_le (g : Nat) : lenG g ≤ 1000000 := by unfold lenG; split <;> decide
/-- a place of an array is written -/
theorem MR.st (hM : MR cI xm xa σ th h) {g : Nat} (hg : g < 9) {i : Nat} {v : Int} {f : Nat → Int32} (hf : h (xa g) = some (arI cI (lenG g) f)) : MR cI xm xa (upS σ g i v) th (hup h (xa g) (arI cI (lenG g) (upd f i (iI v)))) := by
  obtain ⟨h1, h2, h3⟩ := hM
  have hne : xm ≠ xa g := fun q => by
    rw [q, hf] at h1
    cases h1
  refine ⟨?_, fun g' hg' => ?_, h3⟩
  · rw [hup_n hne, upS_g (by omega), upS_g (by omega), upS_g (by omega)]
    exact h1
  · obtain ⟨f', q1, q2⟩ := h2 g' hg'
    by_cases w : g' = g
    · subst w
      rw [hf] at q1
      cases q1
      refine ⟨_, hup_s _ _ _, fun j hj => ?_⟩
      by_cases u : j = i
      · subst u
        rw [upS_s]
        exact if_pos rfl
      · rw [upS_i u]
        exact (if_neg u).trans (q2 j hj)
    · refine ⟨f', ?_, fun j hj => ?_⟩
      · rw [hup_n (fun u => w (h3 _ _ hg' hg u))]
        exact q1
      · rw [upS_g w]
        exact q2 j hj
/-- the object's own numbers are written: what it last threw; parts made; rows inserted; stale -/
theorem MR.obj (hM : MR cI xm xa σ th h) {σ' : Sg} {th' : Int} (hs : ∀ g i, g < 9 → σ' g i = σ g i) : MR cI xm xa σ' th' (hup h xm (mdl xa th' (σ' 9 0) (σ' 10 0) (σ' 11 0))) := by
  obtain ⟨h1, h2, h3⟩ := hM
  refine ⟨hup_s _ _ _, fun g hg => ?_, h3⟩
  obtain ⟨f, q1, q2⟩ := h2 g hg
  refine ⟨f, ?_, fun j hj => by rw [hs g j hg]; exact q2 j hj⟩
  rw [hup_n (fun u => by rw [u, h1] at q1; cases q1)]
  exact q1
end RelM
section RulesR
variable {p : Program} {l : Launch} {e : Env} {R : Room} {s : State} {m : MethodId} {args : Array Value} {below : List Frame} {meth : Method} {c : Code} {H : Heap} {locs : List Loc} {cells slots : Nat} {Q : State → Prop}
variable {cc : ByteArray} {pc : Nat} {ls : Array Slot} {rest st0 : List Value} {D : va_G} {z : Nat} {h : Hp} {H0 : Heap} {cI cP cR cJ : ClassId}
variable {x xp xr : Nat} {pa ra : Nat → Nat} {xm : Nat} {xa : Nat → Nat} {σ : Sg} {th : Int}
theorem m_ldR (hexec : p.tables.exec = Jvm.exec) (hb : c.code = cc) (hK : Kb D z (tyL cI cP cR cJ) s) (hB : Bk D z H0 h H locs) (hC : CR cP cR x xp xr pa ra σ h) {j : Nat} (hj : j < 200) (hdg : decode cc pc = .ok (.aaload, 1))
    (kl : live σ j → W p l e R s m args below meth c H locs cells slots Q (F0 m (pc + 1) ls (.ref (ra j) :: rest))) (kd : ¬ live σ j → W p l e R s m args below meth c H locs cells slots Q (F0 m (pc + 1) ls (.null :: rest))) : W p l e R s m args below meth c H locs cells slots Q (F0 m pc ls (.int (iI (j : Int)) :: .ref xr :: rest)) := by
  obtain ⟨f, hf, h5⟩ := hC.2.2.1
  refine m_aldq hexec hb hK hB 2 hf rfl (iI_in hj (by decide)) hdg ?_
  rw [iI_cn (by omega)]
  by_cases q : live σ j
  · rw [(h5 j hj).1 q]; exact kl q
  · rw [(h5 j hj).2 q]; exact kd q
theorem m_ldP (hexec : p.tables.exec = Jvm.exec) (hb : c.code = cc) (hK : Kb D z (tyL cI cP cR cJ) s) (hB : Bk D z H0 h H locs) (hC : CR cP cR x xp xr pa ra σ h) {i : Nat} (hi : i < 16) (hdg : decode cc pc = .ok (.aaload, 1))
    (kl : (i : Int) ≤ σ 9 0 → W p l e R s m args below meth c H locs cells slots Q (F0 m (pc + 1) ls (.ref (pa i) :: rest))) (kd : ¬ (i : Int) ≤ σ 9 0 → W p l e R s m args below meth c H locs cells slots Q (F0 m (pc + 1) ls (.null :: rest))) : W p l e R s m args below meth c H locs cells slots Q (F0 m pc ls (.int (iI (i : Int)) :: .ref xp :: rest)) := by
  obtain ⟨f, hf, h5⟩ := hC.2.1
  refine m_aldq hexec hb hK hB 1 hf rfl (iI_in hi (by decide)) hdg ?_
  rw [iI_cn (by omega)]
  by_cases q : (i : Int) ≤ σ 9 0
  · rw [(h5 i hi).1 q]; exact kl q
  · rw [(h5 i hi).2 q]; exact kd q
theorem m_lenR (hexec : p.tables.exec = Jvm.exec) (hb : c.code = cc) (hK : Kb D z (tyL cI cP cR cJ) s) (hB : Bk D z H0 h H locs) (hC : CR cP cR x xp xr pa ra σ h) (hdg : decode cc pc = .ok (.arraylength, 1))
    (kk : W p l e R s m args below meth c H locs cells slots Q (F0 m (pc + 1) ls (.int (iI 200) :: rest))) : W p l e R s m args below meth c H locs cells slots Q (F0 m pc ls (.ref xr :: rest)) := by
  obtain ⟨f, hf, h5⟩ := hC.2.2.1
  exact m_alen (v := iI 200) hexec hb hK hB 2 hf rfl (show Int32.ofNat 200 = iI 200 by decide) hdg kk
theorem m_lenP (hexec : p.tables.exec = Jvm.exec) (hb : c.code = cc) (hK : Kb D z (tyL cI cP cR cJ) s) (hB : Bk D z H0 h H locs) (hC : CR cP cR x xp xr pa ra σ h) (hdg : decode cc pc = .ok (.arraylength, 1))
    (kk : W p l e R s m args below meth c H locs cells slots Q (F0 m (pc + 1) ls (.int (iI 16) :: rest))) : W p l e R s m args below meth c H locs cells slots Q (F0 m pc ls (.ref xp :: rest)) := by
  obtain ⟨f, hf, h5⟩ := hC.2.1
  exact m_alen (v := iI 16) hexec hb hK hB 1 hf rfl (show Int32.ofNat 16 = iI 16 by decide) hdg kk
theorem m_mld (hexec : p.tables.exec = Jvm.exec) (hb : c.code = cc) (hK : Kb D z (tyL cI cP cR cJ) s) (hB : Bk D z H0 h H locs) (hM : MR cI xm xa σ th h) (g : Nat) (hg : g < 9) {i : Nat} (hi : i < lenG g) (hdg : decode cc pc = .ok (.iaload, 1))
    (kk : W p l e R s m args below meth c H locs cells slots Q (F0 m (pc + 1) ls (.int (iI (σ g i)) :: rest))) : W p l e R s m args below meth c H locs cells slots Q (F0 m pc ls (.int (iI (i : Int)) :: .ref (xa g) :: rest)) := by
  obtain ⟨f, hf, h5⟩ := hM.2.1 g hg
  refine m_iald hexec hb hK hB 0 hf rfl (iI_in hi (lenG_le g)) hdg ?_
  rw [iI_cn (Nat.lt_of_lt_of_le hi (lenG_le g)), h5 i hi]
  exact kk
theorem m_mst (hexec : p.tables.exec = Jvm.exec) (hb : c.code = cc) (hK : Kb D z (tyL cI cP cR cJ) s) (hB : Bk D z H0 h H locs) (hM : MR cI xm xa σ th h) (g : Nat) (hg : g < 9) {i : Nat} {v : Int} (hi : i < lenG g) (hdg : decode cc pc = .ok (.iastore, 1))
    (kk : ∀ (h1 : Hp) (H1 : Heap) (locs1 : List Loc), MR cI xm xa (upS σ g i v) th h1 → FrM h h1 → Bk D z H0 h1 H1 locs1 → W p l e R s m args below meth c H1 locs1 cells slots Q (F0 m (pc + 1) ls rest)) : W p l e R s m args below meth c H locs cells slots Q (F0 m pc ls (.int (iI v) :: .int (iI (i : Int)) :: .ref (xa g) :: rest)) := by
  obtain ⟨f, hf, h5⟩ := hM.2.1 g hg
  refine m_iast hexec hb hK hB 0 hf rfl (iI_in hi (lenG_le g)) hdg (fun H1 locs1 hB1 => ?_)
  rw [iI_cn (Nat.lt_of_lt_of_le hi (lenG_le g))] at hB1
  exact kk _ H1 locs1 (hM.st hg hf) (FrM.up hf (Or.inr rfl)) hB1
/-- a part's row against a part: by the parts' numbers -/
theorem m_acmpP_ne (hexec : p.tables.exec = Jvm.exec) (hb : c.code = cc) (hC : CR cP cR x xp xr pa ra σ h) {i i' : Nat} (hi : (i : Int) ≤ σ 9 0) (hi' : (i' : Int) ≤ σ 9 0) {off : Int} {tgt : Nat} (hdg : decode cc pc = .ok (.if_acmp .ne off, 3)) (ht : (pc : Int) + off = (tgt : Int)) (kt : i ≠ i' → W p l e R s m args below meth c H locs cells slots Q (F0 m tgt ls rest)) (kf : i = i' → W p l e R s m args below meth c H locs cells slots Q (F0 m (pc + 3) ls rest)) : W p l e R s m args below meth c H locs cells slots Q (F0 m pc ls (.ref (pa i') :: .ref (pa i) :: rest)) :=
  j_acmp_ne hexec hb hdg ht (fun q => kt (fun w => q (by rw [w]))) (fun q => kf ((hC.pinj hi hi').mp q))
theorem m_acmpP_eq (hexec : p.tables.exec = Jvm.exec) (hb : c.code = cc) (hC : CR cP cR x xp xr pa ra σ h) {i i' : Nat} (hi : (i : Int) ≤ σ 9 0) (hi' : (i' : Int) ≤ σ 9 0) {off : Int} {tgt : Nat} (hdg : decode cc pc = .ok (.if_acmp .eq off, 3)) (ht : (pc : Int) + off = (tgt : Int)) (kt : i = i' → W p l e R s m args below meth c H locs cells slots Q (F0 m tgt ls rest)) (kf : i ≠ i' → W p l e R s m args below meth c H locs cells slots Q (F0 m (pc + 3) ls rest)) : W p l e R s m args below meth c H locs cells slots Q (F0 m pc ls (.ref (pa i') :: .ref (pa i) :: rest)) :=
  j_acmp_eq hexec hb hdg ht (fun q => kt ((hC.pinj hi hi').mp q)) (fun q => kf (fun w => q (by rw [w])))
end RulesR
/-! a method's proof begins -/
section Starts
variable {l : Launch} {D : va_G} {z : Nat} {tys : List (ClassId × FieldType)}
theorem Ct.of {y : MethodName} {ws ws' : List Cond} {rm : Room} {As : List Value} {h : Hp} {post : Option Value → Hp → Prop} {cc : ByteArray} {maxL : Nat} {ret : Option FieldType} (hy : plainName y.cls = true) (hw : ws = Cond.code y cc maxL ret :: ws') (hn : (lg_sl As).length ≤ maxL)
    (body : ∀ (p : Program) (e : Env) (s : State) (m : MethodId) (args : Array Value) (below : List Frame) (meth : Method) (c : Code), p.tables.exec = Jvm.exec → c.code = cc → meth.sig.returnType = ret → (∀ w ∈ ws, w.before args s = true) → s.vm.findClass y.cls = some m.cls → meth.locks = false → c.maxLocals = maxL → meth.name = y.name → Kb D z tys s → Bk D z s.heap h s.heap [] → ∀ ls : Array Slot, lv_has ls maxL (lv_args 0 As) →
      W p l e rm s m args below meth c s.heap [] 0 0 (MQ below (Qx D z post) args s rm.cells rm.slots (zA z)) (F0 m 0 ls [])) : Ct l D z tys y ws rm As h post := by
  refine Met.ofW (cc := cc) (maxL := maxL) (ret := ret) hy hw ?_
  intro p e s m args below meth c s₁ B hml hv
  obtain ⟨rfl, hR, hKK, hWW, hZZ⟩ := hv
  have hl := lv_entry As (n := maxL) hn
  rw [lg_entry_eq]
  exact body p e s m _ below meth c B.exec B.bytes B.returns (atoms_spec (ws := ws) B.pre) (findClass_of_methodNamed B.named) B.notSynchronized hml (name_of_methodNamed B.named B.method).1 ⟨hKK, hWW, hZZ, hR.1⟩ ⟨hR, va_S.rf⟩ _ hl
theorem Cx.of {y : MethodName} {ws ws' : List Cond} {rm : Room} {As : List Value} {h : Hp} {post : Option Value → Hp → Prop} {PX : String → Hp → Prop} {cc : ByteArray} {maxL : Nat} {ret : Option FieldType} (hy : plainName y.cls = true) (hw : ws = Cond.code y cc maxL ret :: ws') (hn : (lg_sl As).length ≤ maxL)
    (body : ∀ (p : Program) (e : Env) (s : State) (m : MethodId) (args : Array Value) (below : List Frame) (meth : Method) (c : Code), p.tables.exec = Jvm.exec → c.code = cc → meth.sig.returnType = ret → (∀ w ∈ ws, w.before args s = true) → s.vm.findClass y.cls = some m.cls → meth.locks = false → c.maxLocals = maxL → meth.name = y.name → (∀ x ∈ c.exceptionTable.toList, False) → Kb D z tys s → Bk D z s.heap h s.heap [] → ∀ ls : Array Slot, lv_has ls maxL (lv_args 0 As) →
      W p l e rm s m args below meth c s.heap [] 0 0 (vx_MQ below (Qx D z post) (Xp D z PX) args s rm.cells rm.slots (zA z)) (F0 m 0 ls [])) : Cx l D z tys y ws rm As h post PX := by
  refine vx_ofW (cc := cc) (maxL := maxL) (ret := ret) hy hw ?_
  intro p e s m args below meth c s₁ B hml hout hv
  obtain ⟨rfl, hR, hKK, hWW, hZZ⟩ := hv
  have hl := lv_entry As (n := maxL) hn
  rw [lg_entry_eq]
  exact body p e s m _ below meth c B.exec B.bytes B.returns (atoms_spec (ws := ws) B.pre) (findClass_of_methodNamed B.named) B.notSynchronized hml (name_of_methodNamed B.named B.method).1 hout ⟨hKK, hWW, hZZ, hR.1⟩ ⟨hR, va_S.rf⟩ _ hl
end Starts
end
section
theorem fitE1 : Bundle.fit nE1 = true := by decide +kernel
theorem fitE2 : Bundle.fit nE2 = true := by decide +kernel
theorem fitE3 : Bundle.fit nE3 = true := by decide +kernel
abbrev xwB : List Cond := xwC.map (fun q => Cond.castable q.1 q.2) ++ xwD.map Cond.declares
theorem ngE1 : ∀ w ∈ (vx_atS RX3 68 nE1 nEs).filter (fun w => !goodWord w), w ∈ xwB := by decide +kernel
theorem ngE2 : ∀ w ∈ (vx_atS RX3 84 nE2 nEs).filter (fun w => !goodWord w), w ∈ xwB := by decide +kernel
theorem ngE3 : ∀ w ∈ (vx_atS RX3 221 nE3 nEs).filter (fun w => !goodWord w), w ∈ xwB := by decide +kernel
theorem otE1 : ∀ w ∈ Cond.classLink RX3 64 nE1 :: Cond.initialized nE1 :: vx_atS RX3 68 nE1 nEs, vx_ot w = true := by decide +kernel
theorem otE2 : ∀ w ∈ Cond.classLink RX3 80 nE2 :: Cond.initialized nE2 :: vx_atS RX3 84 nE2 nEs, vx_ot w = true := by decide +kernel
theorem otE3 : ∀ w ∈ Cond.classLink RX3 217 nE3 :: Cond.initialized nE3 :: vx_atS RX3 221 nE3 nEs, vx_ot w = true := by decide +kernel
section More
variable {p : Program} {l : Launch} {e : Env} {R : Room} {s : State} {m : MethodId} {args : Array Value} {below : List Frame} {meth : Method} {c : Code} {H : Heap} {locs : List Loc} {cells slots : Nat} {Q : State → Prop}
variable {cc : ByteArray} {pc : Nat} {ls : Array Slot} {rest st0 : List Value} {D : va_G} {z : Nat} {h : Hp} {tys : List (ClassId × FieldType)} {Ts : List Cond} {mc ms : Nat}
/-- the text by a wide index -/
theorem m_throwW {post : Option Value → Hp → Prop} {PX : String → Hp → Prop} (hexec : p.tables.exec = Jvm.exec) (hb : c.code = cc) (hl : l.stackTraces = false) {cls text : String} {ik is ic : Nat} (hown : s.vm.findClass RX3 = some m.cls) (hcls : Bundle.fit cls = true) (hts : ∀ w ∈ Ts, w.before args s = true) (hk : (Cond.classLink RX3 ik cls) ∈ Ts) (hini : (Cond.initialized cls) ∈ Ts)
    (h1 : ∀ w ∈ (vx_atS RX3 ic cls nEs).filter goodWord, w ∈ Ts) (h2 : ∀ w ∈ (vx_atS RX3 ic cls nEs).filter (fun w => !goodWord w), w ∈ xwC.map (fun q => Cond.castable q.1 q.2) ++ xwD.map Cond.declares) (hgood : ∀ w ∈ Cond.classLink RX3 ik cls :: Cond.initialized cls :: vx_atS RX3 ic cls nEs, vx_ot w = true)
    (hstr : (is, text) ∈ xwS) (hK : Kb D z tys s) (hB : Bk D z s.heap h H locs) (hsize : ls.size = c.maxLocals) (hout : ∀ x ∈ c.exceptionTable.toList, False) (hlocks : meth.locks = false)
    (d0 : decode cc pc = .ok (.new ik, 3)) (d3 : decode cc (pc + 3) = .ok (.dup, 1)) (d4 : decode cc (pc + 4) = .ok (.ldc_w is, 3)) (d7 : decode cc (pc + 7) = .ok (.invokespecial ic, 3)) (d10 : decode cc (pc + 10) = .ok (.athrow, 1))
    (hRf : 6 ≤ R.frames) (hRl : (rest.map fun v => v.category).sum + 82 ≤ R.locals) (hRc : cells + 1 ≤ R.cells) (hRs : slots + 6 ≤ R.slots) (hc : cells + 1 ≤ mc) (hs : slots + 6 ≤ ms) (hp : PX cls h) :
    W p l e R s m args below meth c H locs cells slots (vx_MQ below (Qx D z post) (Xp D z PX) args s mc ms (zA z)) (F0 m pc ls rest) := by
  obtain ⟨sa, hsa⟩ := hK.2.1.2.2.2.2.2 _ hstr
  have h3 : ∀ w ∈ xwC.map (fun q => Cond.castable q.1 q.2) ++ xwD.map Cond.declares, w.before args s = true := by
    intro w hw
    rcases List.mem_append.mp hw with hw | hw
    · obtain ⟨q, hq, rfl⟩ := List.mem_map.mp hw
      exact va_Nw.use rfl (hK.2.1.2.2.1 q hq)
    · obtain ⟨q, hq, rfl⟩ := List.mem_map.mp hw
      exact va_Nw.use rfl (hK.2.1.2.2.2.1 q hq)
  refine vx_throwSW (A := zA z) hexec hb hl hown hcls (by decide) (hts _ hk) (hts _ hini) hsa (vx_hat (fun w hw => hts w (h1 w hw)) h2 h3) hgood hK.2.2.1.1 hK.2.2.1.2 hB.2 hsize d0 d3 d4 d7 d10 (fun x hx => (hout x hx).elim) (by show 2 + 3 < R.frames; omega) (by show _ + (13 * (2 + 1) + 43) ≤ R.locals; omega) hRc hRs hlocks (fun t _ hz hq => ⟨h, hp, hB.1.kept hz hq, Nat.le_trans hB.2.1 hz, fun q h1 h2 => ?_⟩) (fun q hq => hB.2.2.2 q hq) hc hs
  exact (hq q (Nat.lt_of_lt_of_le h1 hB.2.1)).trans (hB.2.2.1 q h1 h2)
theorem j_look12 (hexec : p.tables.exec = Jvm.exec) (hb : c.code = cc) {dflt o1 o2 : Int} {len : Nat} {x : Int} {t0 t1 t2 : Nat} (hdg : decode cc pc = .ok (.lookupswitch dflt #[(1, o1), (2, o2)], len)) (h0 : (pc : Int) + dflt = (t0 : Int)) (h1 : (pc : Int) + o1 = (t1 : Int)) (h2 : (pc : Int) + o2 = (t2 : Int)) (hx : rg x)
    (k1 : x = 1 → W p l e R s m args below meth c H locs cells slots Q (F0 m t1 ls rest)) (k2 : x = 2 → W p l e R s m args below meth c H locs cells slots Q (F0 m t2 ls rest)) (k0 : x ≠ 1 → x ≠ 2 → W p l e R s m args below meth c H locs cells slots Q (F0 m t0 ls rest)) : W p l e R s m args below meth c H locs cells slots Q (F0 m pc ls (.int (iI x) :: rest)) := by
  have hp : ((#[(1, o1), (2, o2)] : Array (Int × Int)).toList.zip ((#[(1, o1), (2, o2)] : Array (Int × Int)).toList.drop 1)).all (fun (a, next) => a.1 < next.1) = true := rfl
  by_cases q1 : x = 1
  · refine lv_lookup (off := o1) hexec hb hdg hp ?_ h1 (k1 q1)
    rw [iI_t hx, q1]
    rfl
  · by_cases q2 : x = 2
    · refine lv_lookup (off := o2) hexec hb hdg hp ?_ h2 (k2 q2)
      rw [iI_t hx, q2]
      rfl
    · refine lv_lookup (off := dflt) hexec hb hdg hp ?_ h0 (k0 q1 q2)
      rw [iI_t hx]
      simp [Op.lookupswitch.offset, Ne.symm q1, Ne.symm q2, q1, q2]
theorem j_mmax (hexec : p.tables.exec = Jvm.exec) (hb : c.code = cc) (hml : c.maxLocals = ls.size) {own : String} {index : Nat} (hown : s.vm.findClass own = some m.cls) (hlink : (Cond.methodLink own index Lib.Math.max.name).before args s = true) (hstat : (Cond.static Lib.Math.max.name).before args s = true) (hini : (Cond.initialized "java/lang/Math").before args s = true) (hcode : (Cond.code Lib.Math.max.name Lib.Math.max.code 2 (some .int)).before args s = true)
    (hframes : 1 ≤ R.frames) (hlocals : (rest.map fun v => v.category).sum + 13 ≤ R.locals) (hc : cells ≤ R.cells) (hs : slots ≤ R.slots) {x y : Int} (hx : rg x) (hy : rg y) (hdg : decode cc pc = .ok (.invokestatic index, 3))
    (kk : W p l e R s m args below meth c H locs cells slots Q (F0 m (pc + 3) ls (.int (iI (max x y)) :: rest))) : W p l e R s m args below meth c H locs cells slots Q (F0 m pc ls (.int (iI y) :: .int (iI x) :: rest)) := by
  refine va_mmax hexec hb hml hown hlink hstat hini hcode hframes hlocals hc hs hdg ?_
  have : (if iI x < iI y then iI y else iI x) = iI (max x y) := by
    by_cases q : x < y
    · rw [if_pos ((iI_lt hx hy).mpr q), Int.max_eq_right (by omega)]
    · rw [if_neg (fun w => q ((iI_lt hx hy).mp w)), Int.max_eq_left (by omega)]
  rw [this]
  exact kk
theorem j_mmin (hexec : p.tables.exec = Jvm.exec) (hb : c.code = cc) (hml : c.maxLocals = ls.size) {own : String} {index : Nat} (hown : s.vm.findClass own = some m.cls) (hlink : (Cond.methodLink own index Lib.Math.min.name).before args s = true) (hstat : (Cond.static Lib.Math.min.name).before args s = true) (hini : (Cond.initialized "java/lang/Math").before args s = true) (hcode : (Cond.code Lib.Math.min.name Lib.Math.min.code 2 (some .int)).before args s = true)
    (hframes : 1 ≤ R.frames) (hlocals : (rest.map fun v => v.category).sum + 13 ≤ R.locals) (hc : cells ≤ R.cells) (hs : slots ≤ R.slots) {x y : Int} (hx : rg x) (hy : rg y) (hdg : decode cc pc = .ok (.invokestatic index, 3))
    (kk : W p l e R s m args below meth c H locs cells slots Q (F0 m (pc + 3) ls (.int (iI (min x y)) :: rest))) : W p l e R s m args below meth c H locs cells slots Q (F0 m pc ls (.int (iI y) :: .int (iI x) :: rest)) := by
  refine va_mmin hexec hb hml hown hlink hstat hini hcode hframes hlocals hc hs hdg ?_
  have : (if iI y < iI x then iI y else iI x) = iI (min x y) := by
    by_cases q : y < x
    · rw [if_pos ((iI_lt hy hx).mpr q), Int.min_eq_right (by omega)]
    · rw [if_neg (fun w => q ((iI_lt hy hx).mp w)), Int.min_eq_left (by omega)]
  rw [this]
  exact kk
end More
end
