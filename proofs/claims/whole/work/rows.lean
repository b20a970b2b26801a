section
-- ===== PART A: goes FIRST, ahead of the names: the tables' words, and 'selects' of the private methods out of them =====
/-- a private method of a class that the tables say can be made, by its rows of tables_1 -/
def lw_okq (q : MethodName × Nat) : Prop := (q.1.cls ≠ "java/lang/invoke/MethodHandle" ∧ q.1.cls ≠ "java/lang/invoke/VarHandle") ∧ Cond.instantiable q.1.cls q.2 ∈ tables_1 ∧ Cond.privateMethod q.1 ∈ tables_1 ∧ Cond.instanceMethod q.1 ∈ tables_1
theorem lw_p0 : lw_okq (⟨"SliceSeller", "finding", "(I)I"⟩, 8) := ⟨⟨by decide +kernel, by decide +kernel⟩, List.mem_of_getElem? (i := 18) (by decide +kernel), List.mem_of_getElem? (i := 435) (by decide +kernel), List.mem_of_getElem? (i := 436) (by decide +kernel)⟩
theorem lw_p1 : lw_okq (⟨"SliceSeller$Ways", "extend", "(LSliceSeller$Net;IIII)V"⟩, 5) := ⟨⟨by decide +kernel, by decide +kernel⟩, List.mem_of_getElem? (i := 34) (by decide +kernel), List.mem_of_getElem? (i := 488) (by decide +kernel), List.mem_of_getElem? (i := 489) (by decide +kernel)⟩
theorem lw_p2 : lw_okq (⟨"SliceSeller$Ways", "insert", "(I)V"⟩, 5) := ⟨⟨by decide +kernel, by decide +kernel⟩, List.mem_of_getElem? (i := 34) (by decide +kernel), List.mem_of_getElem? (i := 492) (by decide +kernel), List.mem_of_getElem? (i := 493) (by decide +kernel)⟩
theorem lw_p3 : lw_okq (⟨"SliceSeller$Cut", "roomOutOf", "(LSliceSeller$Net;I)I"⟩, 3) := ⟨⟨by decide +kernel, by decide +kernel⟩, List.mem_of_getElem? (i := 285) (by decide +kernel), List.mem_of_getElem? (i := 556) (by decide +kernel), List.mem_of_getElem? (i := 557) (by decide +kernel)⟩
theorem lw_p4 : lw_okq (⟨"SliceSeller$Cut", "weigh", "(II)V"⟩, 3) := ⟨⟨by decide +kernel, by decide +kernel⟩, List.mem_of_getElem? (i := 285) (by decide +kernel), List.mem_of_getElem? (i := 561) (by decide +kernel), List.mem_of_getElem? (i := 562) (by decide +kernel)⟩
theorem lw_p5 : lw_okq (⟨"SliceSeller$Places", "gather", "(LSliceSeller$Net;LSliceSeller$Slice;LSliceSeller$Ways;)V"⟩, 5) := ⟨⟨by decide +kernel, by decide +kernel⟩, List.mem_of_getElem? (i := 143) (by decide +kernel), List.mem_of_getElem? (i := 658) (by decide +kernel), List.mem_of_getElem? (i := 659) (by decide +kernel)⟩
theorem lw_p6 : lw_okq (⟨"SliceSeller$Places", "gatherSpares", "(LSliceSeller$Net;LSliceSeller$Slice;LSliceSeller$Ways;I)V"⟩, 5) := ⟨⟨by decide +kernel, by decide +kernel⟩, List.mem_of_getElem? (i := 143) (by decide +kernel), List.mem_of_getElem? (i := 668) (by decide +kernel), List.mem_of_getElem? (i := 669) (by decide +kernel)⟩
theorem lw_p7 : lw_okq (⟨"SliceSeller$Places", "gatherHosts", "(LSliceSeller$Net;III)V"⟩, 5) := ⟨⟨by decide +kernel, by decide +kernel⟩, List.mem_of_getElem? (i := 143) (by decide +kernel), List.mem_of_getElem? (i := 677) (by decide +kernel), List.mem_of_getElem? (i := 678) (by decide +kernel)⟩
theorem lw_p8 : lw_okq (⟨"SliceSeller$Book", "linesHoldAt", "(LSliceSeller$Net;III)Z"⟩, 5) := ⟨⟨by decide +kernel, by decide +kernel⟩, List.mem_of_getElem? (i := 262) (by decide +kernel), List.mem_of_getElem? (i := 709) (by decide +kernel), List.mem_of_getElem? (i := 710) (by decide +kernel)⟩
theorem lw_p9 : lw_okq (⟨"SliceSeller$Book", "fallWith", "(IIII)I"⟩, 5) := ⟨⟨by decide +kernel, by decide +kernel⟩, List.mem_of_getElem? (i := 262) (by decide +kernel), List.mem_of_getElem? (i := 715) (by decide +kernel), List.mem_of_getElem? (i := 716) (by decide +kernel)⟩
theorem lw_p10 : lw_okq (⟨"SliceSeller", "comeIn", "(LSliceSeller$Slice;I)V"⟩, 8) := ⟨⟨by decide +kernel, by decide +kernel⟩, List.mem_of_getElem? (i := 18) (by decide +kernel), List.mem_of_getElem? (i := 737) (by decide +kernel), List.mem_of_getElem? (i := 738) (by decide +kernel)⟩
theorem lw_p11 : lw_okq (⟨"SliceSeller$Book", "enterLines", "(LSliceSeller$Net;III)V"⟩, 5) := ⟨⟨by decide +kernel, by decide +kernel⟩, List.mem_of_getElem? (i := 262) (by decide +kernel), List.mem_of_getElem? (i := 745) (by decide +kernel), List.mem_of_getElem? (i := 746) (by decide +kernel)⟩
theorem lw_p12 : lw_okq (⟨"SliceSeller$Book", "enterFalls", "(IIII)V"⟩, 5) := ⟨⟨by decide +kernel, by decide +kernel⟩, List.mem_of_getElem? (i := 262) (by decide +kernel), List.mem_of_getElem? (i := 749) (by decide +kernel), List.mem_of_getElem? (i := 750) (by decide +kernel)⟩
theorem lw_p13 : lw_okq (⟨"SliceSeller", "whyNoRoom", "(LSliceSeller$Slice;LSliceSeller$Places;)I"⟩, 8) := ⟨⟨by decide +kernel, by decide +kernel⟩, List.mem_of_getElem? (i := 18) (by decide +kernel), List.mem_of_getElem? (i := 763) (by decide +kernel), List.mem_of_getElem? (i := 764) (by decide +kernel)⟩
theorem lw_p14 : lw_okq (⟨"SliceSeller", "goOut", "(LSliceSeller$Slice;)V"⟩, 8) := ⟨⟨by decide +kernel, by decide +kernel⟩, List.mem_of_getElem? (i := 18) (by decide +kernel), List.mem_of_getElem? (i := 775) (by decide +kernel), List.mem_of_getElem? (i := 776) (by decide +kernel)⟩
theorem lw_p15 : lw_okq (⟨"SliceSeller$Net", "lineFrom", "(II)I"⟩, 6) := ⟨⟨by decide +kernel, by decide +kernel⟩, List.mem_of_getElem? (i := 26) (by decide +kernel), List.mem_of_getElem? (i := 787) (by decide +kernel), List.mem_of_getElem? (i := 788) (by decide +kernel)⟩
def lw_privs_1 : List (MethodName × Nat) := [(⟨"SliceSeller", "finding", "(I)I"⟩, 8), (⟨"SliceSeller$Ways", "extend", "(LSliceSeller$Net;IIII)V"⟩, 5), (⟨"SliceSeller$Ways", "insert", "(I)V"⟩, 5), (⟨"SliceSeller$Cut", "roomOutOf", "(LSliceSeller$Net;I)I"⟩, 3), (⟨"SliceSeller$Cut", "weigh", "(II)V"⟩, 3), (⟨"SliceSeller$Places", "gather", "(LSliceSeller$Net;LSliceSeller$Slice;LSliceSeller$Ways;)V"⟩, 5), (⟨"SliceSeller$Places", "gatherSpares", "(LSliceSeller$Net;LSliceSeller$Slice;LSliceSeller$Ways;I)V"⟩, 5), (⟨"SliceSeller$Places", "gatherHosts", "(LSliceSeller$Net;III)V"⟩, 5), (⟨"SliceSeller$Book", "linesHoldAt", "(LSliceSeller$Net;III)Z"⟩, 5), (⟨"SliceSeller$Book", "fallWith", "(IIII)I"⟩, 5), (⟨"SliceSeller", "comeIn", "(LSliceSeller$Slice;I)V"⟩, 8), (⟨"SliceSeller$Book", "enterLines", "(LSliceSeller$Net;III)V"⟩, 5), (⟨"SliceSeller$Book", "enterFalls", "(IIII)V"⟩, 5), (⟨"SliceSeller", "whyNoRoom", "(LSliceSeller$Slice;LSliceSeller$Places;)I"⟩, 8), (⟨"SliceSeller", "goOut", "(LSliceSeller$Slice;)V"⟩, 8), (⟨"SliceSeller$Net", "lineFrom", "(II)I"⟩, 6)]
theorem lw_r1 : ∀ q ∈ lw_privs_1, lw_okq q := List.forall_mem_cons.mpr ⟨lw_p0, List.forall_mem_cons.mpr ⟨lw_p1, List.forall_mem_cons.mpr ⟨lw_p2, List.forall_mem_cons.mpr ⟨lw_p3, List.forall_mem_cons.mpr ⟨lw_p4, List.forall_mem_cons.mpr ⟨lw_p5, List.forall_mem_cons.mpr ⟨lw_p6, List.forall_mem_cons.mpr ⟨lw_p7, List.forall_mem_cons.mpr ⟨lw_p8, List.forall_mem_cons.mpr ⟨lw_p9, List.forall_mem_cons.mpr ⟨lw_p10, List.forall_mem_cons.mpr ⟨lw_p11, List.forall_mem_cons.mpr ⟨lw_p12, List.forall_mem_cons.mpr ⟨lw_p13, List.forall_mem_cons.mpr ⟨lw_p14, List.forall_mem_cons.mpr ⟨lw_p15, fun _ h => absurd h List.not_mem_nil⟩⟩⟩⟩⟩⟩⟩⟩⟩⟩⟩⟩⟩⟩⟩⟩
theorem lw_p16 : lw_okq (⟨"SliceSeller$Layer", "findUnlikeTicks", "()V"⟩, 13) := ⟨⟨by decide +kernel, by decide +kernel⟩, List.mem_of_getElem? (i := 303) (by decide +kernel), List.mem_of_getElem? (i := 845) (by decide +kernel), List.mem_of_getElem? (i := 846) (by decide +kernel)⟩
theorem lw_p17 : lw_okq (⟨"SliceSeller$Layer", "countingAt", "(I)I"⟩, 13) := ⟨⟨by decide +kernel, by decide +kernel⟩, List.mem_of_getElem? (i := 303) (by decide +kernel), List.mem_of_getElem? (i := 849) (by decide +kernel), List.mem_of_getElem? (i := 850) (by decide +kernel)⟩
theorem lw_p18 : lw_okq (⟨"SliceSeller$Layer", "isKnown", "(I)Z"⟩, 13) := ⟨⟨by decide +kernel, by decide +kernel⟩, List.mem_of_getElem? (i := 303) (by decide +kernel), List.mem_of_getElem? (i := 855) (by decide +kernel), List.mem_of_getElem? (i := 856) (by decide +kernel)⟩
theorem lw_p19 : lw_okq (⟨"SliceSeller$Layer", "note", "(I)V"⟩, 13) := ⟨⟨by decide +kernel, by decide +kernel⟩, List.mem_of_getElem? (i := 303) (by decide +kernel), List.mem_of_getElem? (i := 859) (by decide +kernel), List.mem_of_getElem? (i := 860) (by decide +kernel)⟩
theorem lw_p20 : lw_okq (⟨"SliceSeller$Layer", "gatherMembers", "(I)V"⟩, 13) := ⟨⟨by decide +kernel, by decide +kernel⟩, List.mem_of_getElem? (i := 303) (by decide +kernel), List.mem_of_getElem? (i := 867) (by decide +kernel), List.mem_of_getElem? (i := 868) (by decide +kernel)⟩
theorem lw_p21 : lw_okq (⟨"SliceSeller$Layer", "nextPlace", "(II)I"⟩, 13) := ⟨⟨by decide +kernel, by decide +kernel⟩, List.mem_of_getElem? (i := 303) (by decide +kernel), List.mem_of_getElem? (i := 871) (by decide +kernel), List.mem_of_getElem? (i := 872) (by decide +kernel)⟩
theorem lw_p22 : lw_okq (⟨"SliceSeller$Layer", "put", "(II)V"⟩, 13) := ⟨⟨by decide +kernel, by decide +kernel⟩, List.mem_of_getElem? (i := 303) (by decide +kernel), List.mem_of_getElem? (i := 878) (by decide +kernel), List.mem_of_getElem? (i := 879) (by decide +kernel)⟩
theorem lw_p23 : lw_okq (⟨"SliceSeller$Layer", "takeBack", "(I)V"⟩, 13) := ⟨⟨by decide +kernel, by decide +kernel⟩, List.mem_of_getElem? (i := 303) (by decide +kernel), List.mem_of_getElem? (i := 883) (by decide +kernel), List.mem_of_getElem? (i := 884) (by decide +kernel)⟩
theorem lw_p24 : lw_okq (⟨"SliceSeller", "takeOver", "(I)I"⟩, 8) := ⟨⟨by decide +kernel, by decide +kernel⟩, List.mem_of_getElem? (i := 18) (by decide +kernel), List.mem_of_getElem? (i := 888) (by decide +kernel), List.mem_of_getElem? (i := 889) (by decide +kernel)⟩
theorem lw_p25 : lw_okq (⟨"SliceSeller$Layer", "orderSets", "()I"⟩, 13) := ⟨⟨by decide +kernel, by decide +kernel⟩, List.mem_of_getElem? (i := 303) (by decide +kernel), List.mem_of_getElem? (i := 909) (by decide +kernel), List.mem_of_getElem? (i := 910) (by decide +kernel)⟩
theorem lw_p26 : lw_okq (⟨"SliceSeller$Layer", "mergeShifted", "(II)V"⟩, 13) := ⟨⟨by decide +kernel, by decide +kernel⟩, List.mem_of_getElem? (i := 303) (by decide +kernel), List.mem_of_getElem? (i := 914) (by decide +kernel), List.mem_of_getElem? (i := 915) (by decide +kernel)⟩
theorem lw_p27 : lw_okq (⟨"SliceSeller$Day", "forgetLatest", "()V"⟩, 6) := ⟨⟨by decide +kernel, by decide +kernel⟩, List.mem_of_getElem? (i := 353) (by decide +kernel), List.mem_of_getElem? (i := 935) (by decide +kernel), List.mem_of_getElem? (i := 936) (by decide +kernel)⟩
theorem lw_p28 : lw_okq (⟨"SliceSeller$Day", "passNeeds", "()V"⟩, 6) := ⟨⟨by decide +kernel, by decide +kernel⟩, List.mem_of_getElem? (i := 353) (by decide +kernel), List.mem_of_getElem? (i := 941) (by decide +kernel), List.mem_of_getElem? (i := 942) (by decide +kernel)⟩
theorem lw_p29 : lw_okq (⟨"SliceSeller$Day", "wayNow", "(LSliceSeller$Slice;)I"⟩, 6) := ⟨⟨by decide +kernel, by decide +kernel⟩, List.mem_of_getElem? (i := 353) (by decide +kernel), List.mem_of_getElem? (i := 945) (by decide +kernel), List.mem_of_getElem? (i := 946) (by decide +kernel)⟩
theorem lw_p30 : lw_okq (⟨"SliceSeller$Day", "leftOn", "(I)I"⟩, 6) := ⟨⟨by decide +kernel, by decide +kernel⟩, List.mem_of_getElem? (i := 353) (by decide +kernel), List.mem_of_getElem? (i := 954) (by decide +kernel), List.mem_of_getElem? (i := 955) (by decide +kernel)⟩
theorem lw_p31 : lw_okq (⟨"SliceSeller$Day", "pass", "(LSliceSeller$Slice;II)V"⟩, 6) := ⟨⟨by decide +kernel, by decide +kernel⟩, List.mem_of_getElem? (i := 353) (by decide +kernel), List.mem_of_getElem? (i := 962) (by decide +kernel), List.mem_of_getElem? (i := 963) (by decide +kernel)⟩
def lw_privs_2 : List (MethodName × Nat) := [(⟨"SliceSeller$Layer", "findUnlikeTicks", "()V"⟩, 13), (⟨"SliceSeller$Layer", "countingAt", "(I)I"⟩, 13), (⟨"SliceSeller$Layer", "isKnown", "(I)Z"⟩, 13), (⟨"SliceSeller$Layer", "note", "(I)V"⟩, 13), (⟨"SliceSeller$Layer", "gatherMembers", "(I)V"⟩, 13), (⟨"SliceSeller$Layer", "nextPlace", "(II)I"⟩, 13), (⟨"SliceSeller$Layer", "put", "(II)V"⟩, 13), (⟨"SliceSeller$Layer", "takeBack", "(I)V"⟩, 13), (⟨"SliceSeller", "takeOver", "(I)I"⟩, 8), (⟨"SliceSeller$Layer", "orderSets", "()I"⟩, 13), (⟨"SliceSeller$Layer", "mergeShifted", "(II)V"⟩, 13), (⟨"SliceSeller$Day", "forgetLatest", "()V"⟩, 6), (⟨"SliceSeller$Day", "passNeeds", "()V"⟩, 6), (⟨"SliceSeller$Day", "wayNow", "(LSliceSeller$Slice;)I"⟩, 6), (⟨"SliceSeller$Day", "leftOn", "(I)I"⟩, 6), (⟨"SliceSeller$Day", "pass", "(LSliceSeller$Slice;II)V"⟩, 6)]
theorem lw_r2 : ∀ q ∈ lw_privs_2, lw_okq q := List.forall_mem_cons.mpr ⟨lw_p16, List.forall_mem_cons.mpr ⟨lw_p17, List.forall_mem_cons.mpr ⟨lw_p18, List.forall_mem_cons.mpr ⟨lw_p19, List.forall_mem_cons.mpr ⟨lw_p20, List.forall_mem_cons.mpr ⟨lw_p21, List.forall_mem_cons.mpr ⟨lw_p22, List.forall_mem_cons.mpr ⟨lw_p23, List.forall_mem_cons.mpr ⟨lw_p24, List.forall_mem_cons.mpr ⟨lw_p25, List.forall_mem_cons.mpr ⟨lw_p26, List.forall_mem_cons.mpr ⟨lw_p27, List.forall_mem_cons.mpr ⟨lw_p28, List.forall_mem_cons.mpr ⟨lw_p29, List.forall_mem_cons.mpr ⟨lw_p30, List.forall_mem_cons.mpr ⟨lw_p31, fun _ h => absurd h List.not_mem_nil⟩⟩⟩⟩⟩⟩⟩⟩⟩⟩⟩⟩⟩⟩⟩⟩
theorem lw_p32 : lw_okq (⟨"SliceSeller$Day", "lend", "()V"⟩, 6) := ⟨⟨by decide +kernel, by decide +kernel⟩, List.mem_of_getElem? (i := 353) (by decide +kernel), List.mem_of_getElem? (i := 970) (by decide +kernel), List.mem_of_getElem? (i := 971) (by decide +kernel)⟩
theorem lw_p33 : lw_okq (⟨"SliceSeller$Day", "canBorrow", "(LSliceSeller$Slice;)Z"⟩, 6) := ⟨⟨by decide +kernel, by decide +kernel⟩, List.mem_of_getElem? (i := 353) (by decide +kernel), List.mem_of_getElem? (i := 974) (by decide +kernel), List.mem_of_getElem? (i := 975) (by decide +kernel)⟩
theorem lw_p34 : lw_okq (⟨"SliceSeller$Sheet", "lowest", "(I)I"⟩, 3) := ⟨⟨by decide +kernel, by decide +kernel⟩, List.mem_of_getElem? (i := 382) (by decide +kernel), List.mem_of_getElem? (i := 1013) (by decide +kernel), List.mem_of_getElem? (i := 1014) (by decide +kernel)⟩
theorem lw_p35 : lw_okq (⟨"SliceSellerModel", "finds", "(I)I"⟩, 67) := ⟨⟨by decide +kernel, by decide +kernel⟩, List.mem_of_getElem? (i := 1058) (by decide +kernel), List.mem_of_getElem? (i := 1275) (by decide +kernel), List.mem_of_getElem? (i := 1276) (by decide +kernel)⟩
theorem lw_p36 : lw_okq (⟨"SliceSellerModel", "isNode", "(I)Z"⟩, 67) := ⟨⟨by decide +kernel, by decide +kernel⟩, List.mem_of_getElem? (i := 1058) (by decide +kernel), List.mem_of_getElem? (i := 1284) (by decide +kernel), List.mem_of_getElem? (i := 1285) (by decide +kernel)⟩
theorem lw_p37 : lw_okq (⟨"SliceSellerModel", "isLine", "(I)Z"⟩, 67) := ⟨⟨by decide +kernel, by decide +kernel⟩, List.mem_of_getElem? (i := 1058) (by decide +kernel), List.mem_of_getElem? (i := 1292) (by decide +kernel), List.mem_of_getElem? (i := 1293) (by decide +kernel)⟩
theorem lw_p38 : lw_okq (⟨"SliceSellerModel", "areNodes", "(II)Z"⟩, 67) := ⟨⟨by decide +kernel, by decide +kernel⟩, List.mem_of_getElem? (i := 1058) (by decide +kernel), List.mem_of_getElem? (i := 1300) (by decide +kernel), List.mem_of_getElem? (i := 1301) (by decide +kernel)⟩
theorem lw_p39 : lw_okq (⟨"SliceSellerModel", "gather", "(III)V"⟩, 67) := ⟨⟨by decide +kernel, by decide +kernel⟩, List.mem_of_getElem? (i := 1058) (by decide +kernel), List.mem_of_getElem? (i := 1304) (by decide +kernel), List.mem_of_getElem? (i := 1305) (by decide +kernel)⟩
theorem lw_p40 : lw_okq (⟨"SliceSellerModel", "record", "(III)V"⟩, 67) := ⟨⟨by decide +kernel, by decide +kernel⟩, List.mem_of_getElem? (i := 1058) (by decide +kernel), List.mem_of_getElem? (i := 1311) (by decide +kernel), List.mem_of_getElem? (i := 1312) (by decide +kernel)⟩
theorem lw_p41 : lw_okq (⟨"SliceSellerModel", "isAhead", "(IIII)Z"⟩, 67) := ⟨⟨by decide +kernel, by decide +kernel⟩, List.mem_of_getElem? (i := 1058) (by decide +kernel), List.mem_of_getElem? (i := 1315) (by decide +kernel), List.mem_of_getElem? (i := 1316) (by decide +kernel)⟩
theorem lw_p42 : lw_okq (⟨"SliceSellerModel", "isSlice", "(I)Z"⟩, 67) := ⟨⟨by decide +kernel, by decide +kernel⟩, List.mem_of_getElem? (i := 1058) (by decide +kernel), List.mem_of_getElem? (i := 1335) (by decide +kernel), List.mem_of_getElem? (i := 1336) (by decide +kernel)⟩
theorem lw_p43 : lw_okq (⟨"SliceSellerModel", "need", "(I)I"⟩, 67) := ⟨⟨by decide +kernel, by decide +kernel⟩, List.mem_of_getElem? (i := 1058) (by decide +kernel), List.mem_of_getElem? (i := 1356) (by decide +kernel), List.mem_of_getElem? (i := 1357) (by decide +kernel)⟩
theorem lw_p44 : lw_okq (⟨"SliceSellerModel", "countingAt", "(I)I"⟩, 67) := ⟨⟨by decide +kernel, by decide +kernel⟩, List.mem_of_getElem? (i := 1058) (by decide +kernel), List.mem_of_getElem? (i := 1364) (by decide +kernel), List.mem_of_getElem? (i := 1365) (by decide +kernel)⟩
theorem lw_p45 : lw_okq (⟨"SliceSellerModel", "does", "(II)Z"⟩, 67) := ⟨⟨by decide +kernel, by decide +kernel⟩, List.mem_of_getElem? (i := 1058) (by decide +kernel), List.mem_of_getElem? (i := 1368) (by decide +kernel), List.mem_of_getElem? (i := 1369) (by decide +kernel)⟩
theorem lw_p46 : lw_okq (⟨"SliceSellerModel", "loadOf", "(II)I"⟩, 67) := ⟨⟨by decide +kernel, by decide +kernel⟩, List.mem_of_getElem? (i := 1058) (by decide +kernel), List.mem_of_getElem? (i := 1372) (by decide +kernel), List.mem_of_getElem? (i := 1373) (by decide +kernel)⟩
theorem lw_p47 : lw_okq (⟨"SliceSellerModel", "fallOf", "(II)I"⟩, 67) := ⟨⟨by decide +kernel, by decide +kernel⟩, List.mem_of_getElem? (i := 1058) (by decide +kernel), List.mem_of_getElem? (i := 1380) (by decide +kernel), List.mem_of_getElem? (i := 1381) (by decide +kernel)⟩
def lw_privs_3 : List (MethodName × Nat) := [(⟨"SliceSeller$Day", "lend", "()V"⟩, 6), (⟨"SliceSeller$Day", "canBorrow", "(LSliceSeller$Slice;)Z"⟩, 6), (⟨"SliceSeller$Sheet", "lowest", "(I)I"⟩, 3), (⟨"SliceSellerModel", "finds", "(I)I"⟩, 67), (⟨"SliceSellerModel", "isNode", "(I)Z"⟩, 67), (⟨"SliceSellerModel", "isLine", "(I)Z"⟩, 67), (⟨"SliceSellerModel", "areNodes", "(II)Z"⟩, 67), (⟨"SliceSellerModel", "gather", "(III)V"⟩, 67), (⟨"SliceSellerModel", "record", "(III)V"⟩, 67), (⟨"SliceSellerModel", "isAhead", "(IIII)Z"⟩, 67), (⟨"SliceSellerModel", "isSlice", "(I)Z"⟩, 67), (⟨"SliceSellerModel", "need", "(I)I"⟩, 67), (⟨"SliceSellerModel", "countingAt", "(I)I"⟩, 67), (⟨"SliceSellerModel", "does", "(II)Z"⟩, 67), (⟨"SliceSellerModel", "loadOf", "(II)I"⟩, 67), (⟨"SliceSellerModel", "fallOf", "(II)I"⟩, 67)]
theorem lw_r3 : ∀ q ∈ lw_privs_3, lw_okq q := List.forall_mem_cons.mpr ⟨lw_p32, List.forall_mem_cons.mpr ⟨lw_p33, List.forall_mem_cons.mpr ⟨lw_p34, List.forall_mem_cons.mpr ⟨lw_p35, List.forall_mem_cons.mpr ⟨lw_p36, List.forall_mem_cons.mpr ⟨lw_p37, List.forall_mem_cons.mpr ⟨lw_p38, List.forall_mem_cons.mpr ⟨lw_p39, List.forall_mem_cons.mpr ⟨lw_p40, List.forall_mem_cons.mpr ⟨lw_p41, List.forall_mem_cons.mpr ⟨lw_p42, List.forall_mem_cons.mpr ⟨lw_p43, List.forall_mem_cons.mpr ⟨lw_p44, List.forall_mem_cons.mpr ⟨lw_p45, List.forall_mem_cons.mpr ⟨lw_p46, List.forall_mem_cons.mpr ⟨lw_p47, fun _ h => absurd h List.not_mem_nil⟩⟩⟩⟩⟩⟩⟩⟩⟩⟩⟩⟩⟩⟩⟩⟩
theorem lw_p48 : lw_okq (⟨"SliceSellerModel", "workOf", "(II)I"⟩, 67) := ⟨⟨by decide +kernel, by decide +kernel⟩, List.mem_of_getElem? (i := 1058) (by decide +kernel), List.mem_of_getElem? (i := 1388) (by decide +kernel), List.mem_of_getElem? (i := 1389) (by decide +kernel)⟩
theorem lw_p49 : lw_okq (⟨"SliceSellerModel", "leftOf", "(II)I"⟩, 67) := ⟨⟨by decide +kernel, by decide +kernel⟩, List.mem_of_getElem? (i := 1058) (by decide +kernel), List.mem_of_getElem? (i := 1396) (by decide +kernel), List.mem_of_getElem? (i := 1397) (by decide +kernel)⟩
theorem lw_p50 : lw_okq (⟨"SliceSellerModel", "findCut", "(III)V"⟩, 67) := ⟨⟨by decide +kernel, by decide +kernel⟩, List.mem_of_getElem? (i := 1058) (by decide +kernel), List.mem_of_getElem? (i := 1404) (by decide +kernel), List.mem_of_getElem? (i := 1405) (by decide +kernel)⟩
theorem lw_p51 : lw_okq (⟨"SliceSellerModel", "start", "(I)V"⟩, 67) := ⟨⟨by decide +kernel, by decide +kernel⟩, List.mem_of_getElem? (i := 1058) (by decide +kernel), List.mem_of_getElem? (i := 1420) (by decide +kernel), List.mem_of_getElem? (i := 1421) (by decide +kernel)⟩
theorem lw_p52 : lw_okq (⟨"SliceSellerModel", "advance", "(I)Z"⟩, 67) := ⟨⟨by decide +kernel, by decide +kernel⟩, List.mem_of_getElem? (i := 1058) (by decide +kernel), List.mem_of_getElem? (i := 1424) (by decide +kernel), List.mem_of_getElem? (i := 1425) (by decide +kernel)⟩
theorem lw_p53 : lw_okq (⟨"SliceSellerModel", "puts", "(I)Z"⟩, 67) := ⟨⟨by decide +kernel, by decide +kernel⟩, List.mem_of_getElem? (i := 1058) (by decide +kernel), List.mem_of_getElem? (i := 1432) (by decide +kernel), List.mem_of_getElem? (i := 1433) (by decide +kernel)⟩
theorem lw_p54 : lw_okq (⟨"SliceSellerModel", "areUp", "(I)Z"⟩, 67) := ⟨⟨by decide +kernel, by decide +kernel⟩, List.mem_of_getElem? (i := 1058) (by decide +kernel), List.mem_of_getElem? (i := 1436) (by decide +kernel), List.mem_of_getElem? (i := 1437) (by decide +kernel)⟩
theorem lw_p55 : lw_okq (⟨"SliceSellerModel", "holds", "(Z)Z"⟩, 67) := ⟨⟨by decide +kernel, by decide +kernel⟩, List.mem_of_getElem? (i := 1058) (by decide +kernel), List.mem_of_getElem? (i := 1440) (by decide +kernel), List.mem_of_getElem? (i := 1441) (by decide +kernel)⟩
theorem lw_p56 : lw_okq (⟨"SliceSellerModel", "linesHold", "(I)Z"⟩, 67) := ⟨⟨by decide +kernel, by decide +kernel⟩, List.mem_of_getElem? (i := 1058) (by decide +kernel), List.mem_of_getElem? (i := 1444) (by decide +kernel), List.mem_of_getElem? (i := 1445) (by decide +kernel)⟩
theorem lw_p57 : lw_okq (⟨"SliceSellerModel", "takes", "(II)I"⟩, 67) := ⟨⟨by decide +kernel, by decide +kernel⟩, List.mem_of_getElem? (i := 1058) (by decide +kernel), List.mem_of_getElem? (i := 1468) (by decide +kernel), List.mem_of_getElem? (i := 1469) (by decide +kernel)⟩
theorem lw_p58 : lw_okq (⟨"SliceSellerModel", "isOfThem", "(I)Z"⟩, 67) := ⟨⟨by decide +kernel, by decide +kernel⟩, List.mem_of_getElem? (i := 1058) (by decide +kernel), List.mem_of_getElem? (i := 1476) (by decide +kernel), List.mem_of_getElem? (i := 1477) (by decide +kernel)⟩
theorem lw_p59 : lw_okq (⟨"SliceSellerModel", "keeps", "()V"⟩, 67) := ⟨⟨by decide +kernel, by decide +kernel⟩, List.mem_of_getElem? (i := 1058) (by decide +kernel), List.mem_of_getElem? (i := 1480) (by decide +kernel), List.mem_of_getElem? (i := 1481) (by decide +kernel)⟩
theorem lw_p60 : lw_okq (⟨"SliceSellerModel", "lays", "(I)I"⟩, 67) := ⟨⟨by decide +kernel, by decide +kernel⟩, List.mem_of_getElem? (i := 1058) (by decide +kernel), List.mem_of_getElem? (i := 1484) (by decide +kernel), List.mem_of_getElem? (i := 1485) (by decide +kernel)⟩
theorem lw_p61 : lw_okq (⟨"SliceSellerModel", "after", "(II)I"⟩, 67) := ⟨⟨by decide +kernel, by decide +kernel⟩, List.mem_of_getElem? (i := 1058) (by decide +kernel), List.mem_of_getElem? (i := 1488) (by decide +kernel), List.mem_of_getElem? (i := 1489) (by decide +kernel)⟩
theorem lw_p62 : lw_okq (⟨"SliceSellerModel", "comesIn", "(I)I"⟩, 67) := ⟨⟨by decide +kernel, by decide +kernel⟩, List.mem_of_getElem? (i := 1058) (by decide +kernel), List.mem_of_getElem? (i := 1492) (by decide +kernel), List.mem_of_getElem? (i := 1493) (by decide +kernel)⟩
theorem lw_p63 : lw_okq (⟨"SliceSellerModel", "before", "(II)I"⟩, 67) := ⟨⟨by decide +kernel, by decide +kernel⟩, List.mem_of_getElem? (i := 1058) (by decide +kernel), List.mem_of_getElem? (i := 1497) (by decide +kernel), List.mem_of_getElem? (i := 1498) (by decide +kernel)⟩
def lw_privs_4 : List (MethodName × Nat) := [(⟨"SliceSellerModel", "workOf", "(II)I"⟩, 67), (⟨"SliceSellerModel", "leftOf", "(II)I"⟩, 67), (⟨"SliceSellerModel", "findCut", "(III)V"⟩, 67), (⟨"SliceSellerModel", "start", "(I)V"⟩, 67), (⟨"SliceSellerModel", "advance", "(I)Z"⟩, 67), (⟨"SliceSellerModel", "puts", "(I)Z"⟩, 67), (⟨"SliceSellerModel", "areUp", "(I)Z"⟩, 67), (⟨"SliceSellerModel", "holds", "(Z)Z"⟩, 67), (⟨"SliceSellerModel", "linesHold", "(I)Z"⟩, 67), (⟨"SliceSellerModel", "takes", "(II)I"⟩, 67), (⟨"SliceSellerModel", "isOfThem", "(I)Z"⟩, 67), (⟨"SliceSellerModel", "keeps", "()V"⟩, 67), (⟨"SliceSellerModel", "lays", "(I)I"⟩, 67), (⟨"SliceSellerModel", "after", "(II)I"⟩, 67), (⟨"SliceSellerModel", "comesIn", "(I)I"⟩, 67), (⟨"SliceSellerModel", "before", "(II)I"⟩, 67)]
theorem lw_r4 : ∀ q ∈ lw_privs_4, lw_okq q := List.forall_mem_cons.mpr ⟨lw_p48, List.forall_mem_cons.mpr ⟨lw_p49, List.forall_mem_cons.mpr ⟨lw_p50, List.forall_mem_cons.mpr ⟨lw_p51, List.forall_mem_cons.mpr ⟨lw_p52, List.forall_mem_cons.mpr ⟨lw_p53, List.forall_mem_cons.mpr ⟨lw_p54, List.forall_mem_cons.mpr ⟨lw_p55, List.forall_mem_cons.mpr ⟨lw_p56, List.forall_mem_cons.mpr ⟨lw_p57, List.forall_mem_cons.mpr ⟨lw_p58, List.forall_mem_cons.mpr ⟨lw_p59, List.forall_mem_cons.mpr ⟨lw_p60, List.forall_mem_cons.mpr ⟨lw_p61, List.forall_mem_cons.mpr ⟨lw_p62, List.forall_mem_cons.mpr ⟨lw_p63, fun _ h => absurd h List.not_mem_nil⟩⟩⟩⟩⟩⟩⟩⟩⟩⟩⟩⟩⟩⟩⟩⟩
theorem lw_p64 : lw_okq (⟨"SliceSellerModel", "backTo", "()V"⟩, 67) := ⟨⟨by decide +kernel, by decide +kernel⟩, List.mem_of_getElem? (i := 1058) (by decide +kernel), List.mem_of_getElem? (i := 1501) (by decide +kernel), List.mem_of_getElem? (i := 1502) (by decide +kernel)⟩
theorem lw_p65 : lw_okq (⟨"SliceSellerModel", "worthOf", "(I)I"⟩, 67) := ⟨⟨by decide +kernel, by decide +kernel⟩, List.mem_of_getElem? (i := 1058) (by decide +kernel), List.mem_of_getElem? (i := 1513) (by decide +kernel), List.mem_of_getElem? (i := 1514) (by decide +kernel)⟩
theorem lw_p66 : lw_okq (⟨"SliceSellerModel", "oneTick", "()V"⟩, 67) := ⟨⟨by decide +kernel, by decide +kernel⟩, List.mem_of_getElem? (i := 1058) (by decide +kernel), List.mem_of_getElem? (i := 1529) (by decide +kernel), List.mem_of_getElem? (i := 1530) (by decide +kernel)⟩
theorem lw_p67 : lw_okq (⟨"SliceSellerModel", "leftIn", "(I)I"⟩, 67) := ⟨⟨by decide +kernel, by decide +kernel⟩, List.mem_of_getElem? (i := 1058) (by decide +kernel), List.mem_of_getElem? (i := 1533) (by decide +kernel), List.mem_of_getElem? (i := 1534) (by decide +kernel)⟩
theorem lw_p68 : lw_okq (⟨"SliceSellerModel", "passes", "(III)V"⟩, 67) := ⟨⟨by decide +kernel, by decide +kernel⟩, List.mem_of_getElem? (i := 1058) (by decide +kernel), List.mem_of_getElem? (i := 1537) (by decide +kernel), List.mem_of_getElem? (i := 1538) (by decide +kernel)⟩
theorem lw_p69 : lw_okq (⟨"SliceSellerModel", "countIn", "()I"⟩, 67) := ⟨⟨by decide +kernel, by decide +kernel⟩, List.mem_of_getElem? (i := 1058) (by decide +kernel), List.mem_of_getElem? (i := 1570) (by decide +kernel), List.mem_of_getElem? (i := 1571) (by decide +kernel)⟩
def lw_privs_5 : List (MethodName × Nat) := [(⟨"SliceSellerModel", "backTo", "()V"⟩, 67), (⟨"SliceSellerModel", "worthOf", "(I)I"⟩, 67), (⟨"SliceSellerModel", "oneTick", "()V"⟩, 67), (⟨"SliceSellerModel", "leftIn", "(I)I"⟩, 67), (⟨"SliceSellerModel", "passes", "(III)V"⟩, 67), (⟨"SliceSellerModel", "countIn", "()I"⟩, 67)]
theorem lw_r5 : ∀ q ∈ lw_privs_5, lw_okq q := List.forall_mem_cons.mpr ⟨lw_p64, List.forall_mem_cons.mpr ⟨lw_p65, List.forall_mem_cons.mpr ⟨lw_p66, List.forall_mem_cons.mpr ⟨lw_p67, List.forall_mem_cons.mpr ⟨lw_p68, List.forall_mem_cons.mpr ⟨lw_p69, fun _ h => absurd h List.not_mem_nil⟩⟩⟩⟩⟩⟩
def lw_privs : List (MethodName × Nat) := lw_privs_1 ++ (lw_privs_2 ++ (lw_privs_3 ++ (lw_privs_4 ++ (lw_privs_5))))
def lw_tbl : List Cond := k2_sels lw_privs ++ tables_1
theorem lw_privs_ok : ∀ q ∈ lw_privs, lw_okq q := by
  show ∀ q ∈ lw_privs_1 ++ (lw_privs_2 ++ (lw_privs_3 ++ (lw_privs_4 ++ (lw_privs_5)))), lw_okq q
  exact List.forall_mem_append.mpr ⟨lw_r1, List.forall_mem_append.mpr ⟨lw_r2, List.forall_mem_append.mpr ⟨lw_r3, List.forall_mem_append.mpr ⟨lw_r4, lw_r5⟩⟩⟩⟩
end
section
def RX0 : String := "SliceSeller$Book"
def TX0 : u_T := fun k => match k with
  | 0 => ("SliceSeller$Book", "loads", "[I", true)
  | 1 => ("SliceSeller$Book", "falls", "[I", true)
  | 2 => ("SliceSeller$Book", "pairs", "[I", true)
  | 3 => ("SliceSeller$Book", "works", "[I", true)
  | _ => ("SliceSeller$Book", "ticks", "I", false)
def tyX0 : Nat → FieldType := fun k => match k with
  | 0 => .array .int
  | 1 => .array .int
  | 2 => .array .int
  | 3 => .array .int
  | _ => .int
abbrev wsX00 : List Cond := u_ws RX0 TX0 5
theorem nmX0 : ∀ a, a < 5 → ∀ b, b < 5 → a ≠ b → (TX0 a).2.1 ≠ (TX0 b).2.1 := by decide +kernel
theorem tyX0_ok : ∀ k, k < 5 → parseFieldDescriptor (TX0 k).2.2.1 = some (tyX0 k) := by decide +kernel
abbrev cX0_init : ByteArray := prog_2_method_1_code
def yX0_init : MethodName := ⟨RX0, "<init>", "()V"⟩
abbrev cX0_loadAt : ByteArray := prog_2_method_2_code
def yX0_loadAt : MethodName := ⟨RX0, "loadAt", "(II)I"⟩
abbrev cX0_fallAt : ByteArray := prog_2_method_3_code
def yX0_fallAt : MethodName := ⟨RX0, "fallAt", "(II)I"⟩
abbrev cX0_worksAt : ByteArray := prog_2_method_4_code
def yX0_worksAt : MethodName := ⟨RX0, "worksAt", "(II)I"⟩
abbrev cX0_freeAt : ByteArray := prog_2_method_5_code
def yX0_freeAt : MethodName := ⟨RX0, "freeAt", "(LSliceSeller$Net;II)I"⟩
abbrev cX0_linesHold : ByteArray := prog_2_method_6_code
def yX0_linesHold : MethodName := ⟨RX0, "linesHold", "(LSliceSeller$Net;LSliceSeller$Slice;II)Z"⟩
abbrev cX0_hostHolds : ByteArray := prog_2_method_7_code
def yX0_hostHolds : MethodName := ⟨RX0, "hostHolds", "(LSliceSeller$Net;LSliceSeller$Slice;II)Z"⟩
abbrev cX0_linesHoldAt : ByteArray := prog_2_method_8_code
def yX0_linesHoldAt : MethodName := ⟨RX0, "linesHoldAt", "(LSliceSeller$Net;III)Z"⟩
abbrev cX0_fallWith : ByteArray := prog_2_method_9_code
def yX0_fallWith : MethodName := ⟨RX0, "fallWith", "(IIII)I"⟩
abbrev cX0_enter : ByteArray := prog_2_method_10_code
def yX0_enter : MethodName := ⟨RX0, "enter", "(LSliceSeller$Net;LSliceSeller$Slice;III)V"⟩
abbrev cX0_enterLines : ByteArray := prog_2_method_11_code
def yX0_enterLines : MethodName := ⟨RX0, "enterLines", "(LSliceSeller$Net;III)V"⟩
abbrev cX0_enterFalls : ByteArray := prog_2_method_12_code
def yX0_enterFalls : MethodName := ⟨RX0, "enterFalls", "(IIII)V"⟩
def RX1 : String := "SliceSeller$Cut"
def TX1 : u_T := fun k => match k with
  | 0 => ("SliceSeller$Cut", "free", "[I", true)
  | 1 => ("SliceSeller$Cut", "room", "I", false)
  | _ => ("SliceSeller$Cut", "set", "I", false)
def tyX1 : Nat → FieldType := fun k => match k with
  | 0 => .array .int
  | 1 => .int
  | _ => .int
abbrev wsX10 : List Cond := u_ws RX1 TX1 3
theorem nmX1 : ∀ a, a < 3 → ∀ b, b < 3 → a ≠ b → (TX1 a).2.1 ≠ (TX1 b).2.1 := by decide +kernel
theorem tyX1_ok : ∀ k, k < 3 → parseFieldDescriptor (TX1 k).2.2.1 = some (tyX1 k) := by decide +kernel
abbrev cX1_init : ByteArray := prog_3_method_1_code
def yX1_init : MethodName := ⟨RX1, "<init>", "()V"⟩
abbrev cX1_find : ByteArray := prog_3_method_2_code
def yX1_find : MethodName := ⟨RX1, "find", "(LSliceSeller$Net;LSliceSeller$Book;III)V"⟩
abbrev cX1_roomOutOf : ByteArray := prog_3_method_3_code
def yX1_roomOutOf : MethodName := ⟨RX1, "roomOutOf", "(LSliceSeller$Net;I)I"⟩
abbrev cX1_weigh : ByteArray := prog_3_method_4_code
def yX1_weigh : MethodName := ⟨RX1, "weigh", "(II)V"⟩
def RX2 : String := "SliceSeller$Day"
def TX2 : u_T := fun k => match k with
  | 0 => ("SliceSeller$Day", "net", "LSliceSeller$Net;", true)
  | 1 => ("SliceSeller$Day", "slices", "LSliceSeller$Slices;", true)
  | 2 => ("SliceSeller$Day", "lentTo", "I", false)
  | 3 => ("SliceSeller$Day", "tick", "I", false)
  | 4 => ("SliceSeller$Day", "passed", "I", false)
  | _ => ("SliceSeller$Day", "paid", "I", false)
def tyX2 : Nat → FieldType := fun k => match k with
  | 0 => .object "SliceSeller$Net"
  | 1 => .object "SliceSeller$Slices"
  | 2 => .int
  | 3 => .int
  | 4 => .int
  | _ => .int
abbrev wsX20 : List Cond := u_ws RX2 TX2 6
theorem nmX2 : ∀ a, a < 6 → ∀ b, b < 6 → a ≠ b → (TX2 a).2.1 ≠ (TX2 b).2.1 := by decide +kernel
theorem tyX2_ok : ∀ k, k < 6 → parseFieldDescriptor (TX2 k).2.2.1 = some (tyX2 k) := by decide +kernel
abbrev cX2_init : ByteArray := prog_4_method_1_code
def yX2_init : MethodName := ⟨RX2, "<init>", "(LSliceSeller$Net;LSliceSeller$Slices;)V"⟩
abbrev cX2_doTick : ByteArray := prog_4_method_2_code
def yX2_doTick : MethodName := ⟨RX2, "doTick", "()V"⟩
abbrev cX2_forgetLatest : ByteArray := prog_4_method_3_code
def yX2_forgetLatest : MethodName := ⟨RX2, "forgetLatest", "()V"⟩
abbrev cX2_passNeeds : ByteArray := prog_4_method_4_code
def yX2_passNeeds : MethodName := ⟨RX2, "passNeeds", "()V"⟩
abbrev cX2_lend : ByteArray := prog_4_method_5_code
def yX2_lend : MethodName := ⟨RX2, "lend", "()V"⟩
abbrev cX2_canBorrow : ByteArray := prog_4_method_6_code
def yX2_canBorrow : MethodName := ⟨RX2, "canBorrow", "(LSliceSeller$Slice;)Z"⟩
abbrev cX2_wayNow : ByteArray := prog_4_method_7_code
def yX2_wayNow : MethodName := ⟨RX2, "wayNow", "(LSliceSeller$Slice;)I"⟩
abbrev cX2_leftOn : ByteArray := prog_4_method_8_code
def yX2_leftOn : MethodName := ⟨RX2, "leftOn", "(I)I"⟩
abbrev cX2_pass : ByteArray := prog_4_method_9_code
def yX2_pass : MethodName := ⟨RX2, "pass", "(LSliceSeller$Slice;II)V"⟩
def RX3 : String := "SliceSeller$Layer"
def TX3 : u_T := fun k => match k with
  | 0 => ("SliceSeller$Layer", "net", "LSliceSeller$Net;", true)
  | 1 => ("SliceSeller$Layer", "slices", "LSliceSeller$Slices;", true)
  | 2 => ("SliceSeller$Layer", "trial", "LSliceSeller$Book;", true)
  | 3 => ("SliceSeller$Layer", "unlike", "[I", true)
  | 4 => ("SliceSeller$Layer", "when", "[I", true)
  | 5 => ("SliceSeller$Layer", "members", "[I", true)
  | 6 => ("SliceSeller$Layer", "reached", "[I", true)
  | 7 => ("SliceSeller$Layer", "got", "[I", true)
  | 8 => ("SliceSeller$Layer", "keys", "[I", true)
  | 9 => ("SliceSeller$Layer", "merged", "[I", true)
  | 10 => ("SliceSeller$Layer", "size", "I", false)
  | 11 => ("SliceSeller$Layer", "asked", "I", false)
  | _ => ("SliceSeller$Layer", "spent", "Z", false)
def tyX3 : Nat → FieldType := fun k => match k with
  | 0 => .object "SliceSeller$Net"
  | 1 => .object "SliceSeller$Slices"
  | 2 => .object "SliceSeller$Book"
  | 3 => .array .int
  | 4 => .array .int
  | 5 => .array .int
  | 6 => .array .int
  | 7 => .array .int
  | 8 => .array .int
  | 9 => .array .int
  | 10 => .int
  | 11 => .int
  | _ => .boolean
abbrev wsX30 : List Cond := u_ws RX3 TX3 13
theorem nmX3 : ∀ a, a < 13 → ∀ b, b < 13 → a ≠ b → (TX3 a).2.1 ≠ (TX3 b).2.1 := by decide +kernel
theorem tyX3_ok : ∀ k, k < 13 → parseFieldDescriptor (TX3 k).2.2.1 = some (tyX3 k) := by decide +kernel
abbrev cX3_init : ByteArray := prog_5_method_1_code
def yX3_init : MethodName := ⟨RX3, "<init>", "(LSliceSeller$Net;LSliceSeller$Slices;)V"⟩
abbrev cX3_begin : ByteArray := prog_5_method_2_code
def yX3_begin : MethodName := ⟨RX3, "begin", "()V"⟩
abbrev cX3_placeGot : ByteArray := prog_5_method_3_code
def yX3_placeGot : MethodName := ⟨RX3, "placeGot", "(I)I"⟩
abbrev cX3_laid : ByteArray := prog_5_method_4_code
def yX3_laid : MethodName := ⟨RX3, "laid", "(I)Z"⟩
abbrev cX3_dearest : ByteArray := prog_5_method_5_code
def yX3_dearest : MethodName := ⟨RX3, "dearest", "()I"⟩
abbrev cX3_findUnlikeTicks : ByteArray := prog_5_method_6_code
def yX3_findUnlikeTicks : MethodName := ⟨RX3, "findUnlikeTicks", "()V"⟩
abbrev cX3_countingAt : ByteArray := prog_5_method_7_code
def yX3_countingAt : MethodName := ⟨RX3, "countingAt", "(I)I"⟩
abbrev cX3_isKnown : ByteArray := prog_5_method_8_code
def yX3_isKnown : MethodName := ⟨RX3, "isKnown", "(I)Z"⟩
abbrev cX3_note : ByteArray := prog_5_method_9_code
def yX3_note : MethodName := ⟨RX3, "note", "(I)V"⟩
abbrev cX3_gatherMembers : ByteArray := prog_5_method_10_code
def yX3_gatherMembers : MethodName := ⟨RX3, "gatherMembers", "(I)V"⟩
abbrev cX3_nextPlace : ByteArray := prog_5_method_11_code
def yX3_nextPlace : MethodName := ⟨RX3, "nextPlace", "(II)I"⟩
abbrev cX3_put : ByteArray := prog_5_method_12_code
def yX3_put : MethodName := ⟨RX3, "put", "(II)V"⟩
abbrev cX3_takeBack : ByteArray := prog_5_method_13_code
def yX3_takeBack : MethodName := ⟨RX3, "takeBack", "(I)V"⟩
abbrev cX3_orderSets : ByteArray := prog_5_method_14_code
def yX3_orderSets : MethodName := ⟨RX3, "orderSets", "()I"⟩
abbrev cX3_mergeShifted : ByteArray := prog_5_method_15_code
def yX3_mergeShifted : MethodName := ⟨RX3, "mergeShifted", "(II)V"⟩
def RX4 : String := "SliceSeller$Line"
def TX4 : u_T := fun k => match k with
  | 0 => ("SliceSeller$Line", "a", "I", false)
  | 1 => ("SliceSeller$Line", "b", "I", false)
  | 2 => ("SliceSeller$Line", "room", "I", false)
  | 3 => ("SliceSeller$Line", "late", "I", false)
  | 4 => ("SliceSeller$Line", "price", "I", false)
  | 5 => ("SliceSeller$Line", "passed", "I", false)
  | 6 => ("SliceSeller$Line", "latest", "I", false)
  | _ => ("SliceSeller$Line", "earned", "I", false)
def tyX4 : Nat → FieldType := fun k => match k with
  | 0 => .int
  | 1 => .int
  | 2 => .int
  | 3 => .int
  | 4 => .int
  | 5 => .int
  | 6 => .int
  | _ => .int
abbrev wsX40 : List Cond := u_ws RX4 TX4 8
theorem nmX4 : ∀ a, a < 8 → ∀ b, b < 8 → a ≠ b → (TX4 a).2.1 ≠ (TX4 b).2.1 := by decide +kernel
theorem tyX4_ok : ∀ k, k < 8 → parseFieldDescriptor (TX4 k).2.2.1 = some (tyX4 k) := by decide +kernel
abbrev cX4_init : ByteArray := prog_6_method_1_code
def yX4_init : MethodName := ⟨RX4, "<init>", "()V"⟩
abbrev cX4_otherEnd : ByteArray := prog_6_method_2_code
def yX4_otherEnd : MethodName := ⟨RX4, "otherEnd", "(I)I"⟩
abbrev cX4_leftNow : ByteArray := prog_6_method_3_code
def yX4_leftNow : MethodName := ⟨RX4, "leftNow", "()I"⟩
abbrev cX4_pass : ByteArray := prog_6_method_4_code
def yX4_pass : MethodName := ⟨RX4, "pass", "(I)V"⟩
abbrev cX4_tell : ByteArray := prog_6_method_5_code
def yX4_tell : MethodName := ⟨RX4, "tell", "(I)I"⟩
def RX5 : String := "SliceSeller$Net"
def TX5 : u_T := fun k => match k with
  | 0 => ("SliceSeller$Net", "workrooms", "[I", true)
  | 1 => ("SliceSeller$Net", "row", "[LSliceSeller$Line;", true)
  | 2 => ("SliceSeller$Net", "found", "LSliceSeller$Ways;", true)
  | 3 => ("SliceSeller$Net", "nodes", "I", false)
  | 4 => ("SliceSeller$Net", "lines", "I", false)
  | _ => ("SliceSeller$Net", "down", "I", false)
def tyX5 : Nat → FieldType := fun k => match k with
  | 0 => .array .int
  | 1 => .array (.object "SliceSeller$Line")
  | 2 => .object "SliceSeller$Ways"
  | 3 => .int
  | 4 => .int
  | _ => .int
abbrev wsX50 : List Cond := u_ws RX5 TX5 6
theorem nmX5 : ∀ a, a < 6 → ∀ b, b < 6 → a ≠ b → (TX5 a).2.1 ≠ (TX5 b).2.1 := by decide +kernel
theorem tyX5_ok : ∀ k, k < 6 → parseFieldDescriptor (TX5 k).2.2.1 = some (tyX5 k) := by decide +kernel
abbrev cX5_init : ByteArray := prog_7_method_1_code
def yX5_init : MethodName := ⟨RX5, "<init>", "()V"⟩
abbrev cX5_hasNode : ByteArray := prog_7_method_2_code
def yX5_hasNode : MethodName := ⟨RX5, "hasNode", "(I)Z"⟩
abbrev cX5_hasLine : ByteArray := prog_7_method_3_code
def yX5_hasLine : MethodName := ⟨RX5, "hasLine", "(I)Z"⟩
abbrev cX5_areTwoNodes : ByteArray := prog_7_method_4_code
def yX5_areTwoNodes : MethodName := ⟨RX5, "areTwoNodes", "(II)Z"⟩
abbrev cX5_lineAt : ByteArray := prog_7_method_5_code
def yX5_lineAt : MethodName := ⟨RX5, "lineAt", "(I)LSliceSeller$Line;"⟩
abbrev cX5_workroomOf : ByteArray := prog_7_method_6_code
def yX5_workroomOf : MethodName := ⟨RX5, "workroomOf", "(I)I"⟩
abbrev cX5_addNode : ByteArray := prog_7_method_7_code
def yX5_addNode : MethodName := ⟨RX5, "addNode", "(I)I"⟩
abbrev cX5_addLine : ByteArray := prog_7_method_8_code
def yX5_addLine : MethodName := ⟨RX5, "addLine", "(IIIII)I"⟩
abbrev cX5_isUp : ByteArray := prog_7_method_9_code
def yX5_isUp : MethodName := ⟨RX5, "isUp", "(I)Z"⟩
abbrev cX5_setUp : ByteArray := prog_7_method_10_code
def yX5_setUp : MethodName := ⟨RX5, "setUp", "(IZ)Z"⟩
abbrev cX5_waysBetween : ByteArray := prog_7_method_11_code
def yX5_waysBetween : MethodName := ⟨RX5, "waysBetween", "(II)LSliceSeller$Ways;"⟩
abbrev cX5_nodesOn : ByteArray := prog_7_method_12_code
def yX5_nodesOn : MethodName := ⟨RX5, "nodesOn", "(I)I"⟩
abbrev cX5_lineAlong : ByteArray := prog_7_method_13_code
def yX5_lineAlong : MethodName := ⟨RX5, "lineAlong", "(III)I"⟩
abbrev cX5_lineFrom : ByteArray := prog_7_method_14_code
def yX5_lineFrom : MethodName := ⟨RX5, "lineFrom", "(II)I"⟩
def RX6 : String := "SliceSeller$Places"
def TX6 : u_T := fun k => match k with
  | 0 => ("SliceSeller$Places", "all", "[I", false)
  | 1 => ("SliceSeller$Places", "kept", "[I", false)
  | 2 => ("SliceSeller$Places", "linesThen", "I", false)
  | 3 => ("SliceSeller$Places", "size", "I", false)
  | _ => ("SliceSeller$Places", "upSize", "I", false)
def tyX6 : Nat → FieldType := fun k => match k with
  | 0 => .array .int
  | 1 => .array .int
  | 2 => .int
  | 3 => .int
  | _ => .int
abbrev wsX60 : List Cond := u_ws RX6 TX6 5
theorem nmX6 : ∀ a, a < 5 → ∀ b, b < 5 → a ≠ b → (TX6 a).2.1 ≠ (TX6 b).2.1 := by decide +kernel
theorem tyX6_ok : ∀ k, k < 5 → parseFieldDescriptor (TX6 k).2.2.1 = some (tyX6 k) := by decide +kernel
abbrev cX6_init : ByteArray := prog_8_method_1_code
def yX6_init : MethodName := ⟨RX6, "<init>", "()V"⟩
abbrev cX6_placeAt : ByteArray := prog_8_method_2_code
def yX6_placeAt : MethodName := ⟨RX6, "placeAt", "(I)I"⟩
abbrev cX6_upAt : ByteArray := prog_8_method_3_code
def yX6_upAt : MethodName := ⟨RX6, "upAt", "(I)I"⟩
abbrev cX6_find : ByteArray := prog_8_method_4_code
def yX6_find : MethodName := ⟨RX6, "find", "(LSliceSeller$Net;LSliceSeller$Slice;)V"⟩
abbrev cX6_keepUp : ByteArray := prog_8_method_5_code
def yX6_keepUp : MethodName := ⟨RX6, "keepUp", "(LSliceSeller$Net;)V"⟩
abbrev cX6_gather : ByteArray := prog_8_method_6_code
def yX6_gather : MethodName := ⟨RX6, "gather", "(LSliceSeller$Net;LSliceSeller$Slice;LSliceSeller$Ways;)V"⟩
abbrev cX6_gatherSpares : ByteArray := prog_8_method_7_code
def yX6_gatherSpares : MethodName := ⟨RX6, "gatherSpares", "(LSliceSeller$Net;LSliceSeller$Slice;LSliceSeller$Ways;I)V"⟩
abbrev cX6_gatherHosts : ByteArray := prog_8_method_8_code
def yX6_gatherHosts : MethodName := ⟨RX6, "gatherHosts", "(LSliceSeller$Net;III)V"⟩
def RX7 : String := "SliceSeller$Sheet"
def TX7 : u_T := fun k => match k with
  | 0 => ("SliceSeller$Sheet", "numbers", "[I", true)
  | 1 => ("SliceSeller$Sheet", "bits", "I", false)
  | _ => ("SliceSeller$Sheet", "size", "I", false)
def tyX7 : Nat → FieldType := fun k => match k with
  | 0 => .array .int
  | 1 => .int
  | _ => .int
abbrev wsX70 : List Cond := u_ws RX7 TX7 3
theorem nmX7 : ∀ a, a < 3 → ∀ b, b < 3 → a ≠ b → (TX7 a).2.1 ≠ (TX7 b).2.1 := by decide +kernel
theorem tyX7_ok : ∀ k, k < 3 → parseFieldDescriptor (TX7 k).2.2.1 = some (tyX7 k) := by decide +kernel
abbrev cX7_init : ByteArray := prog_9_method_1_code
def yX7_init : MethodName := ⟨RX7, "<init>", "()V"⟩
abbrev cX7_isMissing : ByteArray := prog_9_method_2_code
def yX7_isMissing : MethodName := ⟨RX7, "isMissing", "()Z"⟩
abbrev cX7_begin : ByteArray := prog_9_method_3_code
def yX7_begin : MethodName := ⟨RX7, "begin", "(II)I"⟩
abbrev cX7_put : ByteArray := prog_9_method_4_code
def yX7_put : MethodName := ⟨RX7, "put", "(II)I"⟩
abbrev cX7_lowest : ByteArray := prog_9_method_5_code
def yX7_lowest : MethodName := ⟨RX7, "lowest", "(I)I"⟩
abbrev cX7_hasRun : ByteArray := prog_9_method_6_code
def yX7_hasRun : MethodName := ⟨RX7, "hasRun", "(II)Z"⟩
abbrev cX7_hasAbove : ByteArray := prog_9_method_7_code
def yX7_hasAbove : MethodName := ⟨RX7, "hasAbove", "(I)Z"⟩
abbrev cX7_unitsAt : ByteArray := prog_9_method_8_code
def yX7_unitsAt : MethodName := ⟨RX7, "unitsAt", "(I)I"⟩
def RX8 : String := "SliceSeller$Slice"
def TX8 : u_T := fun k => match k with
  | 0 => ("SliceSeller$Slice", "kind", "I", false)
  | 1 => ("SliceSeller$Slice", "from", "I", false)
  | 2 => ("SliceSeller$Slice", "to", "I", false)
  | 3 => ("SliceSeller$Slice", "rate", "I", false)
  | 4 => ("SliceSeller$Slice", "bound", "I", false)
  | 5 => ("SliceSeller$Slice", "least", "I", false)
  | 6 => ("SliceSeller$Slice", "work", "I", false)
  | 7 => ("SliceSeller$Slice", "price", "I", false)
  | 8 => ("SliceSeller$Slice", "first", "I", false)
  | 9 => ("SliceSeller$Slice", "last", "I", false)
  | 10 => ("SliceSeller$Slice", "hours", "I", false)
  | 11 => ("SliceSeller$Slice", "ticks", "I", false)
  | 12 => ("SliceSeller$Slice", "place", "I", false)
  | 13 => ("SliceSeller$Slice", "waiting", "I", false)
  | 14 => ("SliceSeller$Slice", "passed", "I", false)
  | 15 => ("SliceSeller$Slice", "lent", "I", false)
  | 16 => ("SliceSeller$Slice", "paid", "I", false)
  | 17 => ("SliceSeller$Slice", "latest", "I", false)
  | _ => ("SliceSeller$Slice", "places", "LSliceSeller$Places;", true)
def tyX8 : Nat → FieldType := fun k => match k with
  | 0 => .int
  | 1 => .int
  | 2 => .int
  | 3 => .int
  | 4 => .int
  | 5 => .int
  | 6 => .int
  | 7 => .int
  | 8 => .int
  | 9 => .int
  | 10 => .int
  | 11 => .int
  | 12 => .int
  | 13 => .int
  | 14 => .int
  | 15 => .int
  | 16 => .int
  | 17 => .int
  | _ => .object "SliceSeller$Places"
abbrev wsX80 : List Cond := u_ws RX8 TX8 19
theorem nmX8 : ∀ a, a < 19 → ∀ b, b < 19 → a ≠ b → (TX8 a).2.1 ≠ (TX8 b).2.1 := by decide +kernel
theorem tyX8_ok : ∀ k, k < 19 → parseFieldDescriptor (TX8 k).2.2.1 = some (tyX8 k) := by decide +kernel
abbrev cX8_init : ByteArray := prog_10_method_1_code
def yX8_init : MethodName := ⟨RX8, "<init>", "()V"⟩
abbrev cX8_setTerms : ByteArray := prog_10_method_2_code
def yX8_setTerms : MethodName := ⟨RX8, "setTerms", "(III)V"⟩
abbrev cX8_setSpan : ByteArray := prog_10_method_3_code
def yX8_setSpan : MethodName := ⟨RX8, "setSpan", "(III)V"⟩
abbrev cX8_isIn : ByteArray := prog_10_method_4_code
def yX8_isIn : MethodName := ⟨RX8, "isIn", "()Z"⟩
abbrev cX8_isOf : ByteArray := prog_10_method_5_code
def yX8_isOf : MethodName := ⟨RX8, "isOf", "(I)Z"⟩
abbrev cX8_needed : ByteArray := prog_10_method_6_code
def yX8_needed : MethodName := ⟨RX8, "needed", "()I"⟩
abbrev cX8_takenWay : ByteArray := prog_10_method_7_code
def yX8_takenWay : MethodName := ⟨RX8, "takenWay", "(I)I"⟩
abbrev cX8_askedFor : ByteArray := prog_10_method_8_code
def yX8_askedFor : MethodName := ⟨RX8, "askedFor", "(I)I"⟩
abbrev cX8_becameOf : ByteArray := prog_10_method_9_code
def yX8_becameOf : MethodName := ⟨RX8, "becameOf", "(I)I"⟩
def RX9 : String := "SliceSeller$Slices"
def TX9 : u_T := fun k => match k with
  | 0 => ("SliceSeller$Slices", "row", "[LSliceSeller$Slice;", true)
  | _ => ("SliceSeller$Slices", "size", "I", false)
def tyX9 : Nat → FieldType := fun k => match k with
  | 0 => .array (.object "SliceSeller$Slice")
  | _ => .int
abbrev wsX90 : List Cond := u_ws RX9 TX9 2
theorem nmX9 : ∀ a, a < 2 → ∀ b, b < 2 → a ≠ b → (TX9 a).2.1 ≠ (TX9 b).2.1 := by decide +kernel
theorem tyX9_ok : ∀ k, k < 2 → parseFieldDescriptor (TX9 k).2.2.1 = some (tyX9 k) := by decide +kernel
abbrev cX9_init : ByteArray := prog_11_method_1_code
def yX9_init : MethodName := ⟨RX9, "<init>", "()V"⟩
abbrev cX9_hasSlice : ByteArray := prog_11_method_2_code
def yX9_hasSlice : MethodName := ⟨RX9, "hasSlice", "(I)Z"⟩
abbrev cX9_haveAll : ByteArray := prog_11_method_3_code
def yX9_haveAll : MethodName := ⟨RX9, "haveAll", "(I)Z"⟩
abbrev cX9_at : ByteArray := prog_11_method_4_code
def yX9_at : MethodName := ⟨RX9, "at", "(I)LSliceSeller$Slice;"⟩
abbrev cX9_add : ByteArray := prog_11_method_5_code
def yX9_add : MethodName := ⟨RX9, "add", "(IIIII)I"⟩
abbrev cX9_placesOf : ByteArray := prog_11_method_6_code
def yX9_placesOf : MethodName := ⟨RX9, "placesOf", "(LSliceSeller$Net;I)LSliceSeller$Places;"⟩
abbrev cX9_countIn : ByteArray := prog_11_method_7_code
def yX9_countIn : MethodName := ⟨RX9, "countIn", "()I"⟩
abbrev cX9_wouldOverflow : ByteArray := prog_11_method_8_code
def yX9_wouldOverflow : MethodName := ⟨RX9, "wouldOverflow", "(LSliceSeller$Sheet;)Z"⟩
abbrev cX9_offerAll : ByteArray := prog_11_method_9_code
def yX9_offerAll : MethodName := ⟨RX9, "offerAll", "(LSliceSeller$Sheet;)I"⟩
def RX10 : String := "SliceSeller$Ways"
def TX10 : u_T := fun k => match k with
  | 0 => ("SliceSeller$Ways", "keys", "[I", true)
  | 1 => ("SliceSeller$Ways", "from", "I", false)
  | 2 => ("SliceSeller$Ways", "to", "I", false)
  | 3 => ("SliceSeller$Ways", "linesThen", "I", false)
  | _ => ("SliceSeller$Ways", "size", "I", false)
def tyX10 : Nat → FieldType := fun k => match k with
  | 0 => .array .int
  | 1 => .int
  | 2 => .int
  | 3 => .int
  | _ => .int
abbrev wsX100 : List Cond := u_ws RX10 TX10 5
theorem nmX10 : ∀ a, a < 5 → ∀ b, b < 5 → a ≠ b → (TX10 a).2.1 ≠ (TX10 b).2.1 := by decide +kernel
theorem tyX10_ok : ∀ k, k < 5 → parseFieldDescriptor (TX10 k).2.2.1 = some (tyX10 k) := by decide +kernel
abbrev cX10_init : ByteArray := prog_12_method_1_code
def yX10_init : MethodName := ⟨RX10, "<init>", "()V"⟩
abbrev cX10_lateOf : ByteArray := prog_12_method_2_code
def yX10_lateOf : MethodName := ⟨RX10, "lateOf", "(I)I"⟩
abbrev cX10_countOf : ByteArray := prog_12_method_3_code
def yX10_countOf : MethodName := ⟨RX10, "countOf", "(I)I"⟩
abbrev cX10_lineAt : ByteArray := prog_12_method_4_code
def yX10_lineAt : MethodName := ⟨RX10, "lineAt", "(II)I"⟩
abbrev cX10_linesIn : ByteArray := prog_12_method_5_code
def yX10_linesIn : MethodName := ⟨RX10, "linesIn", "(I)I"⟩
abbrev cX10_longer : ByteArray := prog_12_method_6_code
def yX10_longer : MethodName := ⟨RX10, "longer", "(III)I"⟩
abbrev cX10_keyAt : ByteArray := prog_12_method_7_code
def yX10_keyAt : MethodName := ⟨RX10, "keyAt", "(I)I"⟩
abbrev cX10_find : ByteArray := prog_12_method_8_code
def yX10_find : MethodName := ⟨RX10, "find", "(LSliceSeller$Net;II)V"⟩
abbrev cX10_extend : ByteArray := prog_12_method_9_code
def yX10_extend : MethodName := ⟨RX10, "extend", "(LSliceSeller$Net;IIII)V"⟩
abbrev cX10_insert : ByteArray := prog_12_method_10_code
def yX10_insert : MethodName := ⟨RX10, "insert", "(I)V"⟩
def RX11 : String := "SliceSeller"
def TX11 : u_T := fun k => match k with
  | 0 => ("SliceSeller", "net", "LSliceSeller$Net;", true)
  | 1 => ("SliceSeller", "slices", "LSliceSeller$Slices;", true)
  | 2 => ("SliceSeller", "book", "LSliceSeller$Book;", true)
  | 3 => ("SliceSeller", "leastCut", "LSliceSeller$Cut;", true)
  | 4 => ("SliceSeller", "layer", "LSliceSeller$Layer;", true)
  | 5 => ("SliceSeller", "day", "LSliceSeller$Day;", true)
  | 6 => ("SliceSeller", "sheets", "[LSliceSeller$Sheet;", true)
  | _ => ("SliceSeller", "findings", "I", false)
def tyX11 : Nat → FieldType := fun k => match k with
  | 0 => .object "SliceSeller$Net"
  | 1 => .object "SliceSeller$Slices"
  | 2 => .object "SliceSeller$Book"
  | 3 => .object "SliceSeller$Cut"
  | 4 => .object "SliceSeller$Layer"
  | 5 => .object "SliceSeller$Day"
  | 6 => .array (.object "SliceSeller$Sheet")
  | _ => .int
abbrev wsX110 : List Cond := u_ws RX11 TX11 8
theorem nmX11 : ∀ a, a < 8 → ∀ b, b < 8 → a ≠ b → (TX11 a).2.1 ≠ (TX11 b).2.1 := by decide +kernel
theorem tyX11_ok : ∀ k, k < 8 → parseFieldDescriptor (TX11 k).2.2.1 = some (tyX11 k) := by decide +kernel
abbrev cX11_init : ByteArray := prog_1_method_1_code
def yX11_init : MethodName := ⟨RX11, "<init>", "()V"⟩
abbrev cX11_node : ByteArray := prog_1_method_2_code
def yX11_node : MethodName := ⟨RX11, "node", "(I)I"⟩
abbrev cX11_line : ByteArray := prog_1_method_3_code
def yX11_line : MethodName := ⟨RX11, "line", "(IIIII)I"⟩
abbrev cX11_up : ByteArray := prog_1_method_4_code
def yX11_up : MethodName := ⟨RX11, "up", "(IZ)I"⟩
abbrev cX11_ways : ByteArray := prog_1_method_5_code
def yX11_ways : MethodName := ⟨RX11, "ways", "(II)I"⟩
abbrev cX11_way : ByteArray := prog_1_method_6_code
def yX11_way : MethodName := ⟨RX11, "way", "(IIII)I"⟩
abbrev cX11_flow : ByteArray := prog_1_method_7_code
def yX11_flow : MethodName := ⟨RX11, "flow", "(III)I"⟩
abbrev cX11_cut : ByteArray := prog_1_method_8_code
def yX11_cut : MethodName := ⟨RX11, "cut", "(III)I"⟩
abbrev cX11_slice : ByteArray := prog_1_method_9_code
def yX11_slice : MethodName := ⟨RX11, "slice", "(IIIII)I"⟩
abbrev cX11_terms : ByteArray := prog_1_method_10_code
def yX11_terms : MethodName := ⟨RX11, "terms", "(IIII)I"⟩
abbrev cX11_span : ByteArray := prog_1_method_11_code
def yX11_span : MethodName := ⟨RX11, "span", "(IIII)I"⟩
abbrev cX11_as : ByteArray := prog_1_method_12_code
def yX11_as : MethodName := ⟨RX11, "as", "(II)I"⟩
abbrev cX11_of : ByteArray := prog_1_method_13_code
def yX11_of : MethodName := ⟨RX11, "of", "(II)I"⟩
abbrev cX11_places : ByteArray := prog_1_method_14_code
def yX11_places : MethodName := ⟨RX11, "places", "(I)I"⟩
abbrev cX11_letIn : ByteArray := prog_1_method_15_code
def yX11_letIn : MethodName := ⟨RX11, "letIn", "(I)I"⟩
abbrev cX11_why : ByteArray := prog_1_method_16_code
def yX11_why : MethodName := ⟨RX11, "why", "(I)I"⟩
abbrev cX11_out : ByteArray := prog_1_method_17_code
def yX11_out : MethodName := ⟨RX11, "out", "(I)I"⟩
abbrev cX11_wayOf : ByteArray := prog_1_method_18_code
def yX11_wayOf : MethodName := ⟨RX11, "wayOf", "(IZI)I"⟩
abbrev cX11_host : ByteArray := prog_1_method_19_code
def yX11_host : MethodName := ⟨RX11, "host", "(I)I"⟩
abbrev cX11_load : ByteArray := prog_1_method_20_code
def yX11_load : MethodName := ⟨RX11, "load", "(II)I"⟩
abbrev cX11_fallRoom : ByteArray := prog_1_method_21_code
def yX11_fallRoom : MethodName := ⟨RX11, "fallRoom", "(II)I"⟩
abbrev cX11_work : ByteArray := prog_1_method_22_code
def yX11_work : MethodName := ⟨RX11, "work", "(II)I"⟩
abbrev cX11_spare : ByteArray := prog_1_method_23_code
def yX11_spare : MethodName := ⟨RX11, "spare", "(I)I"⟩
abbrev cX11_took : ByteArray := prog_1_method_24_code
def yX11_took : MethodName := ⟨RX11, "took", "(I)I"⟩
abbrev cX11_lay : ByteArray := prog_1_method_25_code
def yX11_lay : MethodName := ⟨RX11, "lay", "(I)I"⟩
abbrev cX11_can : ByteArray := prog_1_method_26_code
def yX11_can : MethodName := ⟨RX11, "can", "(I)I"⟩
abbrev cX11_best : ByteArray := prog_1_method_27_code
def yX11_best : MethodName := ⟨RX11, "best", "()I"⟩
abbrev cX11_tries : ByteArray := prog_1_method_28_code
def yX11_tries : MethodName := ⟨RX11, "tries", "()I"⟩
abbrev cX11_offer : ByteArray := prog_1_method_29_code
def yX11_offer : MethodName := ⟨RX11, "offer", "(II)I"⟩
abbrev cX11_run : ByteArray := prog_1_method_30_code
def yX11_run : MethodName := ⟨RX11, "run", "(I)I"⟩
abbrev cX11_about : ByteArray := prog_1_method_31_code
def yX11_about : MethodName := ⟨RX11, "about", "(II)I"⟩
abbrev cX11_sheet : ByteArray := prog_1_method_32_code
def yX11_sheet : MethodName := ⟨RX11, "sheet", "(III)I"⟩
abbrev cX11_write : ByteArray := prog_1_method_33_code
def yX11_write : MethodName := ⟨RX11, "write", "(III)I"⟩
abbrev cX11_copy : ByteArray := prog_1_method_34_code
def yX11_copy : MethodName := ⟨RX11, "copy", "(IIIII)I"⟩
abbrev cX11_read : ByteArray := prog_1_method_35_code
def yX11_read : MethodName := ⟨RX11, "read", "(I)I"⟩
abbrev cX11_told : ByteArray := prog_1_method_36_code
def yX11_told : MethodName := ⟨RX11, "told", "(I)I"⟩
abbrev cX11_finding : ByteArray := prog_1_method_37_code
def yX11_finding : MethodName := ⟨RX11, "finding", "(I)I"⟩
abbrev cX11_comeIn : ByteArray := prog_1_method_38_code
def yX11_comeIn : MethodName := ⟨RX11, "comeIn", "(LSliceSeller$Slice;I)V"⟩
abbrev cX11_goOut : ByteArray := prog_1_method_39_code
def yX11_goOut : MethodName := ⟨RX11, "goOut", "(LSliceSeller$Slice;)V"⟩
abbrev cX11_whyNoRoom : ByteArray := prog_1_method_40_code
def yX11_whyNoRoom : MethodName := ⟨RX11, "whyNoRoom", "(LSliceSeller$Slice;LSliceSeller$Places;)I"⟩
abbrev cX11_takeOver : ByteArray := prog_1_method_41_code
def yX11_takeOver : MethodName := ⟨RX11, "takeOver", "(I)I"⟩
abbrev cX11_isWithin : ByteArray := prog_1_method_42_code
def yX11_isWithin : MethodName := ⟨RX11, "isWithin", "(III)Z"⟩
abbrev cX11_isTick : ByteArray := prog_1_method_43_code
def yX11_isTick : MethodName := ⟨RX11, "isTick", "(I)Z"⟩
abbrev cX11_isKind : ByteArray := prog_1_method_44_code
def yX11_isKind : MethodName := ⟨RX11, "isKind", "(I)Z"⟩
abbrev cX11_isSheet : ByteArray := prog_1_method_45_code
def yX11_isSheet : MethodName := ⟨RX11, "isSheet", "(I)Z"⟩
abbrev cX11_has : ByteArray := prog_1_method_46_code
def yX11_has : MethodName := ⟨RX11, "has", "(II)Z"⟩
abbrev cX11_placeOn : ByteArray := prog_1_method_47_code
def yX11_placeOn : MethodName := ⟨RX11, "placeOn", "(III)I"⟩
abbrev cX11_wayIn : ByteArray := prog_1_method_48_code
def yX11_wayIn : MethodName := ⟨RX11, "wayIn", "(I)I"⟩
abbrev cX11_spareOf : ByteArray := prog_1_method_49_code
def yX11_spareOf : MethodName := ⟨RX11, "spareOf", "(I)I"⟩
abbrev cX11_linesOf : ByteArray := prog_1_method_50_code
def yX11_linesOf : MethodName := ⟨RX11, "linesOf", "(I)I"⟩
abbrev cX11_hostOf : ByteArray := prog_1_method_51_code
def yX11_hostOf : MethodName := ⟨RX11, "hostOf", "(I)I"⟩
def RX12 : String := "SliceSellerModel"
def TX12 : u_T := fun k => match k with
  | 0 => ("SliceSellerModel", "nodes", "I", false)
  | 1 => ("SliceSellerModel", "lines", "I", false)
  | 2 => ("SliceSellerModel", "slices", "I", false)
  | 3 => ("SliceSellerModel", "tick", "I", false)
  | 4 => ("SliceSellerModel", "findings", "I", false)
  | 5 => ("SliceSellerModel", "tried", "I", false)
  | 6 => ("SliceSellerModel", "passedEver", "I", false)
  | 7 => ("SliceSellerModel", "paidEver", "I", false)
  | 8 => ("SliceSellerModel", "lentLast", "I", false)
  | 9 => ("SliceSellerModel", "workroom", "[I", true)
  | 10 => ("SliceSellerModel", "lineA", "[I", true)
  | 11 => ("SliceSellerModel", "lineB", "[I", true)
  | 12 => ("SliceSellerModel", "room", "[I", true)
  | 13 => ("SliceSellerModel", "late", "[I", true)
  | 14 => ("SliceSellerModel", "price", "[I", true)
  | 15 => ("SliceSellerModel", "over", "[I", true)
  | 16 => ("SliceSellerModel", "overLatest", "[I", true)
  | 17 => ("SliceSellerModel", "earned", "[I", true)
  | 18 => ("SliceSellerModel", "isUp", "[Z", true)
  | 19 => ("SliceSellerModel", "kind", "[I", true)
  | 20 => ("SliceSellerModel", "endA", "[I", true)
  | 21 => ("SliceSellerModel", "endB", "[I", true)
  | 22 => ("SliceSellerModel", "rate", "[I", true)
  | 23 => ("SliceSellerModel", "bound", "[I", true)
  | 24 => ("SliceSellerModel", "least", "[I", true)
  | 25 => ("SliceSellerModel", "works", "[I", true)
  | 26 => ("SliceSellerModel", "worth", "[I", true)
  | 27 => ("SliceSellerModel", "first", "[I", true)
  | 28 => ("SliceSellerModel", "last", "[I", true)
  | 29 => ("SliceSellerModel", "hours", "[I", true)
  | 30 => ("SliceSellerModel", "waiting", "[I", true)
  | 31 => ("SliceSellerModel", "passed", "[I", true)
  | 32 => ("SliceSellerModel", "lent", "[I", true)
  | 33 => ("SliceSellerModel", "paid", "[I", true)
  | 34 => ("SliceSellerModel", "passedLatest", "[I", true)
  | 35 => ("SliceSellerModel", "isIn", "[Z", true)
  | 36 => ("SliceSellerModel", "way", "[I", true)
  | 37 => ("SliceSellerModel", "spare", "[I", true)
  | 38 => ("SliceSellerModel", "wayRow", "[I", true)
  | 39 => ("SliceSellerModel", "spareRow", "[I", true)
  | 40 => ("SliceSellerModel", "host", "[I", true)
  | 41 => ("SliceSellerModel", "sheetBits", "[I", true)
  | 42 => ("SliceSellerModel", "sheetSize", "[I", true)
  | 43 => ("SliceSellerModel", "sheets", "[I", true)
  | 44 => ("SliceSellerModel", "many", "[I", true)
  | 45 => ("SliceSellerModel", "rows", "[I", true)
  | 46 => ("SliceSellerModel", "counts", "[I", true)
  | 47 => ("SliceSellerModel", "lates", "[I", true)
  | 48 => ("SliceSellerModel", "sets", "[I", true)
  | 49 => ("SliceSellerModel", "through", "[I", true)
  | 50 => ("SliceSellerModel", "at", "[I", true)
  | 51 => ("SliceSellerModel", "next", "[I", true)
  | 52 => ("SliceSellerModel", "path", "[I", true)
  | 53 => ("SliceSellerModel", "bestCut", "I", false)
  | 54 => ("SliceSellerModel", "bestSum", "I", false)
  | 55 => ("SliceSellerModel", "atWay", "[I", true)
  | 56 => ("SliceSellerModel", "atSpare", "[I", true)
  | 57 => ("SliceSellerModel", "atHost", "[I", true)
  | 58 => ("SliceSellerModel", "number", "[I", true)
  | 59 => ("SliceSellerModel", "oldIn", "[Z", true)
  | 60 => ("SliceSellerModel", "oldWay", "[I", true)
  | 61 => ("SliceSellerModel", "oldSpare", "[I", true)
  | 62 => ("SliceSellerModel", "oldWayRow", "[I", true)
  | 63 => ("SliceSellerModel", "oldSpareRow", "[I", true)
  | 64 => ("SliceSellerModel", "oldHost", "[I", true)
  | 65 => ("SliceSellerModel", "isDone", "[Z", true)
  | _ => ("SliceSellerModel", "carried", "[I", true)
def tyX12 : Nat → FieldType := fun k => match k with
  | 0 => .int
  | 1 => .int
  | 2 => .int
  | 3 => .int
  | 4 => .int
  | 5 => .int
  | 6 => .int
  | 7 => .int
  | 8 => .int
  | 9 => .array .int
  | 10 => .array .int
  | 11 => .array .int
  | 12 => .array .int
  | 13 => .array .int
  | 14 => .array .int
  | 15 => .array .int
  | 16 => .array .int
  | 17 => .array .int
  | 18 => .array .boolean
  | 19 => .array .int
  | 20 => .array .int
  | 21 => .array .int
  | 22 => .array .int
  | 23 => .array .int
  | 24 => .array .int
  | 25 => .array .int
  | 26 => .array .int
  | 27 => .array .int
  | 28 => .array .int
  | 29 => .array .int
  | 30 => .array .int
  | 31 => .array .int
  | 32 => .array .int
  | 33 => .array .int
  | 34 => .array .int
  | 35 => .array .boolean
  | 36 => .array .int
  | 37 => .array .int
  | 38 => .array .int
  | 39 => .array .int
  | 40 => .array .int
  | 41 => .array .int
  | 42 => .array .int
  | 43 => .array .int
  | 44 => .array .int
  | 45 => .array .int
  | 46 => .array .int
  | 47 => .array .int
  | 48 => .array .int
  | 49 => .array .int
  | 50 => .array .int
  | 51 => .array .int
  | 52 => .array .int
  | 53 => .int
  | 54 => .int
  | 55 => .array .int
  | 56 => .array .int
  | 57 => .array .int
  | 58 => .array .int
  | 59 => .array .boolean
  | 60 => .array .int
  | 61 => .array .int
  | 62 => .array .int
  | 63 => .array .int
  | 64 => .array .int
  | 65 => .array .boolean
  | _ => .array .int
abbrev wsX120 : List Cond := u_ws RX12 TX12 67
theorem nmX12 : ∀ a, a < 67 → ∀ b, b < 67 → a ≠ b → (TX12 a).2.1 ≠ (TX12 b).2.1 := by decide +kernel
theorem tyX12_ok : ∀ k, k < 67 → parseFieldDescriptor (TX12 k).2.2.1 = some (tyX12 k) := by decide +kernel
abbrev cX12_init : ByteArray := prog_14_method_1_code
def yX12_init : MethodName := ⟨RX12, "<init>", "()V"⟩
abbrev cX12_in : ByteArray := prog_14_method_3_code
def yX12_in : MethodName := ⟨RX12, "in", "(III)Z"⟩
abbrev cX12_finds : ByteArray := prog_14_method_4_code
def yX12_finds : MethodName := ⟨RX12, "finds", "(I)I"⟩
abbrev cX12_isNode : ByteArray := prog_14_method_5_code
def yX12_isNode : MethodName := ⟨RX12, "isNode", "(I)Z"⟩
abbrev cX12_isLine : ByteArray := prog_14_method_6_code
def yX12_isLine : MethodName := ⟨RX12, "isLine", "(I)Z"⟩
abbrev cX12_isSlice : ByteArray := prog_14_method_7_code
def yX12_isSlice : MethodName := ⟨RX12, "isSlice", "(I)Z"⟩
abbrev cX12_isTick : ByteArray := prog_14_method_8_code
def yX12_isTick : MethodName := ⟨RX12, "isTick", "(I)Z"⟩
abbrev cX12_has : ByteArray := prog_14_method_9_code
def yX12_has : MethodName := ⟨RX12, "has", "(II)Z"⟩
abbrev cX12_node : ByteArray := prog_14_method_10_code
def yX12_node : MethodName := ⟨RX12, "node", "(I)I"⟩
abbrev cX12_line : ByteArray := prog_14_method_11_code
def yX12_line : MethodName := ⟨RX12, "line", "(IIIII)I"⟩
abbrev cX12_up : ByteArray := prog_14_method_12_code
def yX12_up : MethodName := ⟨RX12, "up", "(IZ)I"⟩
abbrev cX12_gather : ByteArray := prog_14_method_13_code
def yX12_gather : MethodName := ⟨RX12, "gather", "(III)V"⟩
abbrev cX12_record : ByteArray := prog_14_method_14_code
def yX12_record : MethodName := ⟨RX12, "record", "(III)V"⟩
abbrev cX12_isAhead : ByteArray := prog_14_method_15_code
def yX12_isAhead : MethodName := ⟨RX12, "isAhead", "(IIII)Z"⟩
abbrev cX12_areNodes : ByteArray := prog_14_method_16_code
def yX12_areNodes : MethodName := ⟨RX12, "areNodes", "(II)Z"⟩
abbrev cX12_ways : ByteArray := prog_14_method_17_code
def yX12_ways : MethodName := ⟨RX12, "ways", "(II)I"⟩
abbrev cX12_digit : ByteArray := prog_14_method_18_code
def yX12_digit : MethodName := ⟨RX12, "digit", "(III)I"⟩
abbrev cX12_ones : ByteArray := prog_14_method_19_code
def yX12_ones : MethodName := ⟨RX12, "ones", "(I)I"⟩
abbrev cX12_way : ByteArray := prog_14_method_20_code
def yX12_way : MethodName := ⟨RX12, "way", "(IIII)I"⟩
abbrev cX12_slice : ByteArray := prog_14_method_21_code
def yX12_slice : MethodName := ⟨RX12, "slice", "(IIIII)I"⟩
abbrev cX12_terms : ByteArray := prog_14_method_22_code
def yX12_terms : MethodName := ⟨RX12, "terms", "(IIII)I"⟩
abbrev cX12_span : ByteArray := prog_14_method_23_code
def yX12_span : MethodName := ⟨RX12, "span", "(IIII)I"⟩
abbrev cX12_as : ByteArray := prog_14_method_24_code
def yX12_as : MethodName := ⟨RX12, "as", "(II)I"⟩
abbrev cX12_need : ByteArray := prog_14_method_25_code
def yX12_need : MethodName := ⟨RX12, "need", "(I)I"⟩
abbrev cX12_does : ByteArray := prog_14_method_26_code
def yX12_does : MethodName := ⟨RX12, "does", "(II)Z"⟩
abbrev cX12_countIn : ByteArray := prog_14_method_27_code
def yX12_countIn : MethodName := ⟨RX12, "countIn", "()I"⟩
abbrev cX12_of : ByteArray := prog_14_method_28_code
def yX12_of : MethodName := ⟨RX12, "of", "(II)I"⟩
abbrev cX12_countingAt : ByteArray := prog_14_method_29_code
def yX12_countingAt : MethodName := ⟨RX12, "countingAt", "(I)I"⟩
abbrev cX12_loadOf : ByteArray := prog_14_method_30_code
def yX12_loadOf : MethodName := ⟨RX12, "loadOf", "(II)I"⟩
abbrev cX12_fallOf : ByteArray := prog_14_method_31_code
def yX12_fallOf : MethodName := ⟨RX12, "fallOf", "(II)I"⟩
abbrev cX12_workOf : ByteArray := prog_14_method_32_code
def yX12_workOf : MethodName := ⟨RX12, "workOf", "(II)I"⟩
abbrev cX12_linesHold : ByteArray := prog_14_method_33_code
def yX12_linesHold : MethodName := ⟨RX12, "linesHold", "(I)Z"⟩
abbrev cX12_holds : ByteArray := prog_14_method_34_code
def yX12_holds : MethodName := ⟨RX12, "holds", "(Z)Z"⟩
abbrev cX12_load : ByteArray := prog_14_method_35_code
def yX12_load : MethodName := ⟨RX12, "load", "(II)I"⟩
abbrev cX12_fallRoom : ByteArray := prog_14_method_36_code
def yX12_fallRoom : MethodName := ⟨RX12, "fallRoom", "(II)I"⟩
abbrev cX12_work : ByteArray := prog_14_method_37_code
def yX12_work : MethodName := ⟨RX12, "work", "(II)I"⟩
abbrev cX12_leftOf : ByteArray := prog_14_method_38_code
def yX12_leftOf : MethodName := ⟨RX12, "leftOf", "(II)I"⟩
abbrev cX12_spare : ByteArray := prog_14_method_39_code
def yX12_spare : MethodName := ⟨RX12, "spare", "(I)I"⟩
abbrev cX12_findCut : ByteArray := prog_14_method_40_code
def yX12_findCut : MethodName := ⟨RX12, "findCut", "(III)V"⟩
abbrev cX12_flow : ByteArray := prog_14_method_41_code
def yX12_flow : MethodName := ⟨RX12, "flow", "(III)I"⟩
abbrev cX12_cut : ByteArray := prog_14_method_42_code
def yX12_cut : MethodName := ⟨RX12, "cut", "(III)I"⟩
abbrev cX12_start : ByteArray := prog_14_method_43_code
def yX12_start : MethodName := ⟨RX12, "start", "(I)V"⟩
abbrev cX12_advance : ByteArray := prog_14_method_44_code
def yX12_advance : MethodName := ⟨RX12, "advance", "(I)Z"⟩
abbrev cX12_areUp : ByteArray := prog_14_method_45_code
def yX12_areUp : MethodName := ⟨RX12, "areUp", "(I)Z"⟩
abbrev cX12_puts : ByteArray := prog_14_method_46_code
def yX12_puts : MethodName := ⟨RX12, "puts", "(I)Z"⟩
abbrev cX12_places : ByteArray := prog_14_method_47_code
def yX12_places : MethodName := ⟨RX12, "places", "(I)I"⟩
abbrev cX12_letIn : ByteArray := prog_14_method_48_code
def yX12_letIn : MethodName := ⟨RX12, "letIn", "(I)I"⟩
abbrev cX12_why : ByteArray := prog_14_method_49_code
def yX12_why : MethodName := ⟨RX12, "why", "(I)I"⟩
abbrev cX12_out : ByteArray := prog_14_method_50_code
def yX12_out : MethodName := ⟨RX12, "out", "(I)I"⟩
abbrev cX12_wayOf : ByteArray := prog_14_method_51_code
def yX12_wayOf : MethodName := ⟨RX12, "wayOf", "(IZI)I"⟩
abbrev cX12_host : ByteArray := prog_14_method_52_code
def yX12_host : MethodName := ⟨RX12, "host", "(I)I"⟩
abbrev cX12_takes : ByteArray := prog_14_method_53_code
def yX12_takes : MethodName := ⟨RX12, "takes", "(II)I"⟩
abbrev cX12_took : ByteArray := prog_14_method_54_code
def yX12_took : MethodName := ⟨RX12, "took", "(I)I"⟩
abbrev cX12_keeps : ByteArray := prog_14_method_55_code
def yX12_keeps : MethodName := ⟨RX12, "keeps", "()V"⟩
abbrev cX12_backTo : ByteArray := prog_14_method_56_code
def yX12_backTo : MethodName := ⟨RX12, "backTo", "()V"⟩
abbrev cX12_comesIn : ByteArray := prog_14_method_57_code
def yX12_comesIn : MethodName := ⟨RX12, "comesIn", "(I)I"⟩
abbrev cX12_after : ByteArray := prog_14_method_58_code
def yX12_after : MethodName := ⟨RX12, "after", "(II)I"⟩
abbrev cX12_before : ByteArray := prog_14_method_59_code
def yX12_before : MethodName := ⟨RX12, "before", "(II)I"⟩
abbrev cX12_lays : ByteArray := prog_14_method_60_code
def yX12_lays : MethodName := ⟨RX12, "lays", "(I)I"⟩
abbrev cX12_isOfThem : ByteArray := prog_14_method_61_code
def yX12_isOfThem : MethodName := ⟨RX12, "isOfThem", "(I)Z"⟩
abbrev cX12_lay : ByteArray := prog_14_method_62_code
def yX12_lay : MethodName := ⟨RX12, "lay", "(I)I"⟩
abbrev cX12_can : ByteArray := prog_14_method_63_code
def yX12_can : MethodName := ⟨RX12, "can", "(I)I"⟩
abbrev cX12_worthOf : ByteArray := prog_14_method_64_code
def yX12_worthOf : MethodName := ⟨RX12, "worthOf", "(I)I"⟩
abbrev cX12_best : ByteArray := prog_14_method_65_code
def yX12_best : MethodName := ⟨RX12, "best", "()I"⟩
abbrev cX12_tries : ByteArray := prog_14_method_66_code
def yX12_tries : MethodName := ⟨RX12, "tries", "()I"⟩
abbrev cX12_offer : ByteArray := prog_14_method_67_code
def yX12_offer : MethodName := ⟨RX12, "offer", "(II)I"⟩
abbrev cX12_passes : ByteArray := prog_14_method_68_code
def yX12_passes : MethodName := ⟨RX12, "passes", "(III)V"⟩
abbrev cX12_leftIn : ByteArray := prog_14_method_69_code
def yX12_leftIn : MethodName := ⟨RX12, "leftIn", "(I)I"⟩
abbrev cX12_oneTick : ByteArray := prog_14_method_70_code
def yX12_oneTick : MethodName := ⟨RX12, "oneTick", "()V"⟩
abbrev cX12_run : ByteArray := prog_14_method_71_code
def yX12_run : MethodName := ⟨RX12, "run", "(I)I"⟩
abbrev cX12_about : ByteArray := prog_14_method_72_code
def yX12_about : MethodName := ⟨RX12, "about", "(II)I"⟩
abbrev cX12_isSheet : ByteArray := prog_14_method_73_code
def yX12_isSheet : MethodName := ⟨RX12, "isSheet", "(I)Z"⟩
abbrev cX12_sheet : ByteArray := prog_14_method_74_code
def yX12_sheet : MethodName := ⟨RX12, "sheet", "(III)I"⟩
abbrev cX12_write : ByteArray := prog_14_method_75_code
def yX12_write : MethodName := ⟨RX12, "write", "(III)I"⟩
abbrev cX12_copy : ByteArray := prog_14_method_76_code
def yX12_copy : MethodName := ⟨RX12, "copy", "(IIIII)I"⟩
abbrev cX12_read : ByteArray := prog_14_method_77_code
def yX12_read : MethodName := ⟨RX12, "read", "(I)I"⟩
abbrev cX12_told : ByteArray := prog_14_method_78_code
def yX12_told : MethodName := ⟨RX12, "told", "(I)I"⟩
def RJ6 : String := "java/lang/Integer"
def TJ6 : u_T := fun k => match k with
  | _ => ("", "", "", false)
def tyJ6 : Nat → FieldType := fun k => match k with
  | _ => .int
abbrev wsJ60 : List Cond := u_ws RJ6 TJ6 0
theorem nmJ6 : ∀ a, a < 0 → ∀ b, b < 0 → a ≠ b → (TJ6 a).2.1 ≠ (TJ6 b).2.1 := by decide +kernel
theorem tyJ6_ok : ∀ k, k < 0 → parseFieldDescriptor (TJ6 k).2.2.1 = some (tyJ6 k) := by decide +kernel
abbrev cJ6_bitCount_0f7a4 : ByteArray := prog_15_method_49_code
def yJ6_bitCount_0f7a4 : MethodName := ⟨RJ6, "bitCount", "(I)I"⟩
def RJ9 : String := "java/lang/Math"
def TJ9 : u_T := fun k => match k with
  | _ => ("", "", "", false)
def tyJ9 : Nat → FieldType := fun k => match k with
  | _ => .int
abbrev wsJ90 : List Cond := u_ws RJ9 TJ9 0
theorem nmJ9 : ∀ a, a < 0 → ∀ b, b < 0 → a ≠ b → (TJ9 a).2.1 ≠ (TJ9 b).2.1 := by decide +kernel
theorem tyJ9_ok : ∀ k, k < 0 → parseFieldDescriptor (TJ9 k).2.2.1 = some (tyJ9 k) := by decide +kernel
abbrev cJ9_max_7cf53 : ByteArray := prog_16_method_65_code
def yJ9_max_7cf53 : MethodName := ⟨RJ9, "max", "(II)I"⟩
abbrev cJ9_min_7cf53 : ByteArray := prog_16_method_69_code
def yJ9_min_7cf53 : MethodName := ⟨RJ9, "min", "(II)I"⟩
def RJ10 : String := "java/lang/System"
def TJ10 : u_T := fun k => match k with
  | _ => ("", "", "", false)
def tyJ10 : Nat → FieldType := fun k => match k with
  | _ => .int
abbrev wsJ100 : List Cond := u_ws RJ10 TJ10 0
theorem nmJ10 : ∀ a, a < 0 → ∀ b, b < 0 → a ≠ b → (TJ10 a).2.1 ≠ (TJ10 b).2.1 := by decide +kernel
theorem tyJ10_ok : ∀ k, k < 0 → parseFieldDescriptor (TJ10 k).2.2.1 = some (tyJ10 k) := by decide +kernel
def RL : String := "SliceSellerLaw"
abbrev cL_law : ByteArray := code
def yL_law : MethodName := ⟨RL, "law", "([I)Z"⟩
abbrev vwCl : List vw_C := [(RX0, TX0, 5), (RX1, TX1, 3), (RX2, TX2, 6), (RX3, TX3, 13), (RX4, TX4, 8), (RX5, TX5, 6), (RX6, TX6, 5), (RX7, TX7, 3), (RX8, TX8, 19), (RX9, TX9, 2), (RX10, TX10, 5), (RX11, TX11, 8), (RX12, TX12, 67)]
end
section
/-! the pure machine: words, memory, worlds -/
def TBg : List Cond := lw_tbl.filter goodWord
theorem TBg_mem {w : Cond} (h : w ∈ lw_tbl) (g : goodWord w = true) : w ∈ TBg := List.mem_filter.mpr ⟨h, g⟩
theorem TBg_good {w : Cond} (h : w ∈ TBg) : goodWord w = true := (List.mem_filter.mp h).2
/-- a method: name, code, locals, what it returns -/
abbrev Mth : Type := MethodName × ByteArray × Nat × Option FieldType
def wd (M : Mth) : List Cond := .code M.1 M.2.1 M.2.2.1 M.2.2.2 :: TBg
def mIn (M : Mth) : Prop := Cond.code M.1 M.2.1 M.2.2.1 M.2.2.2 ∈ TBg
theorem wd_good {M M' : Mth} (h : mIn M') : GoodIn (wd M) (wd M') := by
  intro w hw
  have hw' : w ∈ TBg := by
    rcases List.mem_cons.mp hw with e | e
    · rw [e]; exact h
    · exact e
  exact ⟨List.mem_cons_of_mem _ hw', good_of_word (TBg_good hw')⟩
/-- how many cells, the kind of each, its length, the references that it holds -/
abbrev Topo : Type := Nat × (Nat → Nat) × (Nat → Nat) × (Nat → Nat → Option Nat)
abbrev IM : Type := Nat → Nat → Int32
abbrev tN (T : Topo) : Nat := T.1
abbrev tK (T : Topo) (k : Nat) : Nat := T.2.1 k
abbrev tL (T : Topo) (k : Nat) : Nat := T.2.2.1 k
abbrev tR (T : Topo) (k j : Nat) : Option Nat := T.2.2.2 k j
def up2 (I : IM) (k j : Nat) (v : Int32) : IM := fun a => if a = k then upd (I k) j v else I a
def nF (κ : Nat) : Nat := match κ with
  | 0 => 5 | 1 => 3 | 2 => 6 | 3 => 13 | 4 => 8 | 5 => 6 | 6 => 5 | 7 => 3 | 8 => 19 | 9 => 2 | 10 => 5 | 11 => 8 | 12 => 67 | _ => 0
def rF (κ j : Nat) : Bool := match κ with
  | 0 => decide (j < 4) | 1 => decide (j < 1) | 2 => decide (j < 2) | 3 => decide (j < 10) | 4 => false | 5 => decide (j < 3) | 6 => decide (j < 2) | 7 => decide (j < 1)
  | 8 => decide (j = 18) | 9 => decide (j < 1) | 10 => decide (j < 1) | 11 => decide (j < 7) | 12 => decide (9 ≤ j) && (decide (j ≠ 53) && decide (j ≠ 54)) | _ => false
def aTy (κ : Nat) : FieldType := match κ with
  | 13 => .int | 14 => .boolean | 15 => .object "SliceSeller$Line" | 16 => .object "SliceSeller$Sheet" | _ => .object "SliceSeller$Slice"
def fv (ad : Nat → Nat) (T : Topo) (I : IM) (k j : Nat) : Value := if rF (tK T k) j = true then va_rf ((tR T k j).map ad) else .int (I k j)
def cE (ad : Nat → Nat) (ca : Nat → ClassId) (T : Topo) (I : IM) (k : Nat) : va_E :=
  if tK T k < 13 then .inr (tK T k, (List.range (nF (tK T k))).map (fv ad T I k))
  else if tK T k < 15 then .inl (ca k, tL T k, .inl (I k))
  else .inl (ca k, tL T k, .inr (.inr (.inr (.inr (fun j => (tR T k j).map ad)))))
def cW (ad : Nat → Nat) (ca : Nat → ClassId) (T : Topo) (I : IM) : va_W := (List.range (tN T)).map (fun k => (ad k, cE ad ca T I k))
theorem cW_at {ad : Nat → Nat} {ca : Nat → ClassId} {T : Topo} {I : IM} {k : Nat} (h : k < tN T) : (cW ad ca T I)[k]? = some (ad k, cE ad ca T I k) := by
  simp [cW, h]
theorem cW_of {ad : Nat → Nat} {ca : Nat → ClassId} {T : Topo} {I : IM} {k : Nat} {q : Nat × va_E} (h : (cW ad ca T I)[k]? = some q) : k < tN T ∧ q = (ad k, cE ad ca T I k) := by
  have h1 : k < tN T := by
    have := (List.getElem?_eq_some_iff.mp h).1
    simpa [cW] using this
  rw [cW_at h1] at h
  exact ⟨h1, (Option.some.inj h).symm⟩
theorem cW_set {ad : Nat → Nat} {ca : Nat → ClassId} {T T' : Topo} {I I' : IM} {k : Nat} {e : va_E} (hk : k < tN T) (hn : tN T' = tN T) (he : e = cE ad ca T' I' k) (hE : ∀ j, j ≠ k → cE ad ca T' I' j = cE ad ca T I j) : (cW ad ca T I).set k (ad k, e) = cW ad ca T' I' := by
  apply List.ext_getElem?
  intro j
  rw [List.getElem?_set]
  by_cases hj : k = j
  · subst hj
    have : k < (cW ad ca T I).length := by simpa [cW] using hk
    simp only [this, if_true]
    rw [cW_at (by omega), he]
  · rw [if_neg hj]
    by_cases hb : j < tN T
    · rw [cW_at hb, cW_at (by omega), hE j (fun h => hj h.symm)]
    · rw [List.getElem?_eq_none (by simpa [cW] using hb), List.getElem?_eq_none (by simp [cW]; omega)]
theorem cW_push {ad : Nat → Nat} {ca : Nat → ClassId} {T T' : Topo} {I I' : IM} {q : Nat} {cA : ClassId} {e : va_E} (hn : tN T' = tN T + 1) (he : e = cE (va_up ad (tN T) q) (va_up ca (tN T) cA) T' I' (tN T)) (hE : ∀ j, j < tN T → cE (va_up ad (tN T) q) (va_up ca (tN T) cA) T' I' j = cE ad ca T I j) : cW ad ca T I ++ [(q, e)] = cW (va_up ad (tN T) q) (va_up ca (tN T) cA) T' I' := by
  have hl : (cW ad ca T I).length = tN T := by simp [cW]
  apply List.ext_getElem?
  intro j
  by_cases hj : j < tN T
  · rw [List.getElem?_append_left (by omega), cW_at hj, cW_at (by omega), hE j hj, va_up_ne _ _ (by omega)]
  · rw [List.getElem?_append_right (by omega), hl]
    by_cases hb : j = tN T
    · subst hb
      rw [cW_at (by omega), he]
      simp [va_up]
    · have h1 : tN T < j := by omega
      rw [List.getElem?_eq_none (by simp; omega), List.getElem?_eq_none (by simp [cW]; omega)]
def aOK (ca : Nat → ClassId) (T : Topo) (U : State) : Prop := ∀ k, k < tN T → 13 ≤ tK T k → ArrOfT U (ca k) (aTy (tK T k)) ∧ va_RA U (ca k) (aTy (tK T k))
def rOK (T : Topo) : Prop := ∀ k j r, k < tN T → tR T k j = some r → r < tN T
theorem aOK.moved {ca : Nat → ClassId} {T : Topo} {u U : State} (hvm : u.vm.Alike U.vm) (h : aOK ca T u) : aOK ca T U := fun k h1 h2 => ⟨arrOfT_moved hvm (h k h1 h2).1, (h k h1 h2).2.moved hvm⟩
/-- the words that are carried beside the tables -/
def isNest (w : Cond) : Bool := match w with
  | .methodLinkNest _ _ _ _ => true
  | .fieldLinkNest _ _ _ _ _ _ => true
  | .arrayOver (.object _) => true
  | _ => false
def NestOK (U : State) : Prop := ∀ w ∈ lw_tbl, isNest w = true → va_Nw w U
theorem NestOK.warm {s U : State} (hW : s.WarmedH U.vm) (h : NestOK s) : NestOK U := by
  intro w hw hn
  have h1 := h w hw hn
  unfold isNest at hn
  split at hn
  · exact va_Nw.warmM hW h1
  · exact va_Nw.warmF hW h1
  · exact va_AO.moved hW.alike h1
  · cases hn
theorem NestOK.same {u U : State} (hv : u.vm = U.vm) (h : NestOK u) : NestOK U := by
  intro w hw hn
  have h1 := h w hw hn
  unfold isNest at hn
  split at hn
  · exact va_Nw.same rfl hv h1
  · exact va_Nw.same rfl hv h1
  · exact va_AO.moved (by rw [hv]; exact Vm.Alike.refl _) h1
  · cases hn
/-- the kinds' parents, as the class has them -/
def abv (k : Nat) : Int32 := match k with | 0 => -1 | 1 => 0 | 2 => 0 | 3 => 2 | _ => 0
def Abv (ab : Nat) (A : Nat → Prop) (U : State) (H : Heap) : Prop := va_Z "SliceSeller" "ABOVE" "[I" (.ref ab) A U H ∧ va_X ab 5 abv U H ∧ ab < H.size ∧ ¬ A ab
/-- values: numbers as they are, references by the numbers of their cells -/
def trv (ad : Nat → Nat) (v : Value) : Value := match v with
  | .ref k => .ref (ad k)
  | v => v
def vOK (n : Nat) (v : Value) : Prop := match v with
  | .ref k => k < n
  | _ => True
theorem vOK.mono {n n' : Nat} (h : n ≤ n') {v : Value} (hv : vOK n v) : vOK n' v := by
  cases v <;> simp only [vOK] at hv ⊢
  exact Nat.lt_of_lt_of_le hv h
theorem trv_eq {ad ad' : Nat → Nat} {n : Nat} (h : ∀ k, k < n → ad' k = ad k) {v : Value} (hv : vOK n v) : trv ad' v = trv ad v := by
  cases v <;> simp only [vOK, trv] at hv ⊢
  rw [h _ hv]
theorem trv_map {ad ad' : Nat → Nat} {n : Nat} (h : ∀ k, k < n → ad' k = ad k) {st : List Value} (hv : ∀ v ∈ st, vOK n v) : st.map (trv ad') = st.map (trv ad) :=
  List.map_congr_left fun v hm => trv_eq h (hv v hm)
theorem trv_cat (ad : Nat → Nat) (v : Value) : (trv ad v).category = v.category := by cases v <;> rfl
/-- the cells that a method may change: its world's, and those that it makes -/
def Fr (T : Topo) (ad : Nat → Nat) (sz : Nat) : Nat → Prop := fun q => (∃ k, k < tN T ∧ ad k = q) ∨ sz ≤ q
abbrev Pst : Type := Option Value → Topo → IM → Prop
def Rm (d c s : Nat) : Room := { frames := d, cells := c, slots := s, locals := 60 * d }
def Pw (G : va_G) (ab : Nat) (vs : List Value) (T : Topo) (I : IM) (ad : Nat → Nat) (ca : Nat → ClassId) (sz : Nat) : Array Value → State → Prop := fun a U =>
  a = (vs.map (trv ad)).toArray ∧ U.heap.size = sz ∧ va_P G vwCl (cW ad ca T I) U.heap ∧ va_D (fun _ => True) (cW ad ca T I) ∧ va_K G vwCl [] U ∧ aOK ca T U ∧ rOK T ∧ Abv ab (Fr T ad sz) U U.heap ∧ NestOK U ∧ (∀ v ∈ vs, vOK (tN T) v)
def Qw (G : va_G) (T : Topo) (ad : Nat → Nat) (sz : Nat) (Post : Pst) : Array Value → State → Outcome → State → Prop := fun _ st oc t =>
  (∃ (r : Option Value) (T' : Topo) (I' : IM) (ad' : Nat → Nat) (ca' : Nat → ClassId), oc = .returned (r.map (trv ad')) ∧ Post r T' I' ∧ tN T ≤ tN T' ∧ (∀ k, k < tN T → ad' k = ad k) ∧ (∀ v ∈ r, vOK (tN T') v) ∧
    va_P G vwCl (cW ad' ca' T' I') t.heap ∧ va_D (Fr T ad sz) (cW ad' ca' T' I') ∧ aOK ca' T' t ∧ rOK T') ∧ va_F (Fr T ad sz) st t
/-- a method's contract: from the memory T, I and the values vs it returns, with Post, in the room d, mc, ms -/
def Ct (d : Nat) (M : Mth) (vs : List Value) (T : Topo) (I : IM) (mc ms : Nat) (Post : Pst) : Prop :=
  ∀ (l : Launch) (G : va_G) (ab : Nat) (ad : Nat → Nat) (ca : Nat → ClassId) (sz : Nat), Met l M.1 (wd M) (Rm d mc ms) (Pw G ab vs T I ad ca sz) (Qw G T ad sz Post) mc ms (Fr T ad sz)
def lvO (LS : Array Slot) (nL : Nat) (ls : List (Option Value)) (ad : Nat → Nat) (n : Nat) : Prop :=
  LS.size = nL ∧ lv_wf LS ∧ ls.length = nL ∧ ∀ (i : Nat) (v : Value), ls[i]? = some (some v) → LS[i]? = some (Slot.val (trv ad v)) ∧ v.category = 1 ∧ vOK n v
def Fx (M : Mth) (p : Program) (s : State) (m : MethodId) (args : Array Value) (meth : Method) (cd : Code) (ab : Nat) (A : Nat → Prop) : Prop :=
  p.tables.exec = Jvm.exec ∧ cd.code = M.2.1 ∧ cd.maxLocals = M.2.2.1 ∧ s.vm.findClass M.1.cls = some m.cls ∧ (∀ w ∈ wd M, w.before args s = true) ∧ meth.sig.returnType = M.2.2.2 ∧ meth.locks = false ∧ meth.name = M.1.name ∧ NestOK s ∧ Abv ab A s s.heap ∧ (∀ q, s.heap.size ≤ q → A q)
def Dy (G : va_G) (s : State) (A : Nat → Prop) (T0 : Topo) (ad0 : Nat → Nat) (T : Topo) (I : IM) (ad : Nat → Nat) (ca : Nat → ClassId) (H : Heap) (locs : List Loc) : Prop :=
  va_P G vwCl (cW ad ca T I) H ∧ va_D A (cW ad ca T I) ∧ va_K G vwCl [] s ∧ aOK ca T s ∧ rOK T ∧ va_S A s.heap H locs ∧ tN T0 ≤ tN T ∧ (∀ k, k < tN T0 → ad k = ad0 k)
/-- the machine stands at pc of method M with locals ls, stack st, memory T, I, and has made c cells, sl slots: it comes to M's end with Post, and has made C cells, S slots at most -/
def J (d : Nat) (M : Mth) (Post : Pst) (C S pc : Nat) (ls : List (Option Value)) (st : List Value) (T : Topo) (I : IM) (c sl : Nat) : Prop :=
  ∀ (p : Program) (l : Launch) (e : Env) (s : State) (m : MethodId) (args : Array Value) (below : List Frame) (meth : Method) (cd : Code) (G : va_G) (ab : Nat) (T0 : Topo) (ad0 ad : Nat → Nat) (ca : Nat → ClassId) (H : Heap) (locs : List Loc) (LS : Array Slot),
    Fx M p s m args meth cd ab (Fr T0 ad0 s.heap.size) → Dy G s (Fr T0 ad0 s.heap.size) T0 ad0 T I ad ca H locs → lvO LS M.2.2.1 ls ad (tN T) → (∀ v ∈ st, vOK (tN T) v) →
    W p l e (Rm d C S) s m args below meth cd H locs c sl (MQ below (Qw G T0 ad0 s.heap.size Post) args s C S (Fr T0 ad0 s.heap.size)) (F0 m pc LS (st.map (trv ad)))
end
section
def lsOK (n : Nat) (ls : List (Option Value)) : Prop := ∀ (i : Nat) (v : Value), ls[i]? = some (some v) → vOK n v
theorem vs_c {n : Nat} {v : Value} {st : List Value} (h : vOK n v) (hs : ∀ w ∈ st, vOK n w) : ∀ w ∈ v :: st, vOK n w := List.forall_mem_cons.mpr ⟨h, hs⟩
theorem vs_t {n : Nat} {v : Value} {st : List Value} (hs : ∀ w ∈ v :: st, vOK n w) : ∀ w ∈ st, vOK n w := (List.forall_mem_cons.mp hs).2
theorem vs_h {n : Nat} {v : Value} {st : List Value} (hs : ∀ w ∈ v :: st, vOK n w) : vOK n v := (List.forall_mem_cons.mp hs).1
theorem hasCode {M : Mth} {p : Program} {s : State} {m : MethodId} {args : Array Value} {meth : Method} {cd : Code} {ab : Nat} {A : Nat → Prop} (F : Fx M p s m args meth cd ab A) {w : Cond} (h : w ∈ TBg) : w.before args s = true := F.2.2.2.2.1 w (List.mem_cons_of_mem _ h)
/-! the rules of J: instructions that touch the stack alone -/
section JR
variable {d : Nat} {M : Mth} {Post : Pst} {C S pc c sl : Nat} {ls : List (Option Value)} {st : List Value} {T : Topo} {I : IM}
theorem J.lift {pc' : Nat} {st' : List Value} (hs : (∀ v ∈ st, vOK (tN T) v) → lsOK (tN T) ls → ∀ v ∈ st', vOK (tN T) v)
    (step : ∀ (p : Program) (l : Launch) (e : Env) (R : Room) (s : State) (m : MethodId) (args : Array Value) (below : List Frame) (meth : Method) (cd : Code) (ab : Nat) (A : Nat → Prop) (ad : Nat → Nat) (H : Heap) (locs : List Loc) (Q : State → Prop) (LS : Array Slot),
      Fx M p s m args meth cd ab A → lvO LS M.2.2.1 ls ad (tN T) → W p l e R s m args below meth cd H locs c sl Q (F0 m pc' LS (st'.map (trv ad))) → W p l e R s m args below meth cd H locs c sl Q (F0 m pc LS (st.map (trv ad))))
    (k : J d M Post C S pc' ls st' T I c sl) : J d M Post C S pc ls st T I c sl := by
  intro p l e s m args below meth cd G ab T0 ad0 ad ca H locs LS F D hl hv
  exact step p l e _ s m args below meth cd ab _ ad H locs _ LS F hl (k p l e s m args below meth cd G ab T0 ad0 ad ca H locs LS F D hl (hs hv (fun i v h => (hl.2.2.2 i v h).2.2)))
theorem J.iconst {n : Int} {v : Int32} (hd : decode M.2.1 pc = .ok (.iconst n, 1)) (hv : Int32.ofInt n = v)
    (k : J d M Post C S (pc + 1) ls (.int v :: st) T I c sl) : J d M Post C S pc ls st T I c sl :=
  J.lift (st' := (.int v :: st)) (fun hv hl => vs_c (trivial) hv) (fun p l e R s m args below meth cd ab A ad H locs Q LS F hl k => lv_iconst F.1 F.2.1 hd hv k) k
theorem J.bipush {n : Int} {v : Int32} (hd : decode M.2.1 pc = .ok (.bipush n, 2)) (hv : (Int8.ofInt n).toInt32 = v)
    (k : J d M Post C S (pc + 2) ls (.int v :: st) T I c sl) : J d M Post C S pc ls st T I c sl :=
  J.lift (st' := (.int v :: st)) (fun hv hl => vs_c (trivial) hv) (fun p l e R s m args below meth cd ab A ad H locs Q LS F hl k => lv_bipush F.1 F.2.1 hd hv k) k
theorem J.sipush {n : Int} {v : Int32} (hd : decode M.2.1 pc = .ok (.sipush n, 3)) (hv : (Int16.ofInt n).toInt32 = v)
    (k : J d M Post C S (pc + 3) ls (.int v :: st) T I c sl) : J d M Post C S pc ls st T I c sl :=
  J.lift (st' := (.int v :: st)) (fun hv hl => vs_c (trivial) hv) (fun p l e R s m args below meth cd ab A ad H locs Q LS F hl k => lv_sipush F.1 F.2.1 hd hv k) k
theorem J.ldc {n : Nat} {v : Int32} (hd : decode M.2.1 pc = .ok (.ldc n, 2)) (hv : Cond.constant M.1.cls n v ∈ TBg)
    (k : J d M Post C S (pc + 2) ls (.int v :: st) T I c sl) : J d M Post C S pc ls st T I c sl :=
  J.lift (st' := (.int v :: st)) (fun hv hl => vs_c (trivial) hv) (fun p l e R s m args below meth cd ab A ad H locs Q LS F hl k => lv_ldc F.1 F.2.1 F.2.2.2.1 (hasCode F hv) hd k) k
theorem J.ldcw {n : Nat} {v : Int32} (hd : decode M.2.1 pc = .ok (.ldc_w n, 3)) (hv : Cond.constant M.1.cls n v ∈ TBg)
    (k : J d M Post C S (pc + 3) ls (.int v :: st) T I c sl) : J d M Post C S pc ls st T I c sl :=
  J.lift (st' := (.int v :: st)) (fun hv hl => vs_c (trivial) hv) (fun p l e R s m args below meth cd ab A ad H locs Q LS F hl k => lv_ldcw F.1 F.2.1 F.2.2.2.1 (hasCode F hv) hd k) k
theorem J.iload_n {n : Fin 4} {i : Nat} {x : Int32} (hd : decode M.2.1 pc = .ok (.iload_n n, 1)) (hi : (n : Nat) = i) (hx : ls[i]? = some (some (.int x)))
    (k : J d M Post C S (pc + 1) ls (.int x :: st) T I c sl) : J d M Post C S pc ls st T I c sl :=
  J.lift (st' := (.int x :: st)) (fun hv hl => vs_c (trivial) hv) (fun p l e R s m args below meth cd ab A ad H locs Q LS F hl k => lv_iload_n F.1 F.2.1 hd hi (hl.2.2.2 i _ hx).1 k) k
theorem J.iload {i : Nat} {x : Int32} (hd : decode M.2.1 pc = .ok (.iload i, 2)) (hx : ls[i]? = some (some (.int x)))
    (k : J d M Post C S (pc + 2) ls (.int x :: st) T I c sl) : J d M Post C S pc ls st T I c sl :=
  J.lift (st' := (.int x :: st)) (fun hv hl => vs_c (trivial) hv) (fun p l e R s m args below meth cd ab A ad H locs Q LS F hl k => lv_iload F.1 F.2.1 hd (hl.2.2.2 i _ hx).1 k) k
theorem J.aload_n {n : Fin 4} {i : Nat} {x : Nat} (hd : decode M.2.1 pc = .ok (.aload_n n, 1)) (hi : (n : Nat) = i) (hx : ls[i]? = some (some (.ref x)))
    (k : J d M Post C S (pc + 1) ls (.ref x :: st) T I c sl) : J d M Post C S pc ls st T I c sl :=
  J.lift (st' := (.ref x :: st)) (fun hv hl => vs_c (hl i _ hx) hv) (fun p l e R s m args below meth cd ab A ad H locs Q LS F hl k => lv_aload_n F.1 F.2.1 hd hi (hl.2.2.2 i _ hx).1 k) k
theorem J.aload {i : Nat} {x : Nat} (hd : decode M.2.1 pc = .ok (.aload i, 2)) (hx : ls[i]? = some (some (.ref x)))
    (k : J d M Post C S (pc + 2) ls (.ref x :: st) T I c sl) : J d M Post C S pc ls st T I c sl :=
  J.lift (st' := (.ref x :: st)) (fun hv hl => vs_c (hl i _ hx) hv) (fun p l e R s m args below meth cd ab A ad H locs Q LS F hl k => lv_aload F.1 F.2.1 hd (hl.2.2.2 i _ hx).1 k) k
theorem J.iadd {x y : Int32} (hd : decode M.2.1 pc = .ok (.iadd, 1)) 
    (k : J d M Post C S (pc + 1) ls (.int (x + y) :: st) T I c sl) : J d M Post C S pc ls (.int y :: .int x :: st) T I c sl :=
  J.lift (st' := (.int (x + y) :: st)) (fun hv _ => vs_c trivial (vs_t (vs_t hv))) (fun p l e R s m args below meth cd ab A ad H locs Q LS F hl k => lv_iadd F.1 F.2.1 hd  k) k
theorem J.isub {x y : Int32} (hd : decode M.2.1 pc = .ok (.isub, 1)) 
    (k : J d M Post C S (pc + 1) ls (.int (x - y) :: st) T I c sl) : J d M Post C S pc ls (.int y :: .int x :: st) T I c sl :=
  J.lift (st' := (.int (x - y) :: st)) (fun hv _ => vs_c trivial (vs_t (vs_t hv))) (fun p l e R s m args below meth cd ab A ad H locs Q LS F hl k => lv_isub F.1 F.2.1 hd  k) k
theorem J.imul {x y : Int32} (hd : decode M.2.1 pc = .ok (.imul, 1)) 
    (k : J d M Post C S (pc + 1) ls (.int (x * y) :: st) T I c sl) : J d M Post C S pc ls (.int y :: .int x :: st) T I c sl :=
  J.lift (st' := (.int (x * y) :: st)) (fun hv _ => vs_c trivial (vs_t (vs_t hv))) (fun p l e R s m args below meth cd ab A ad H locs Q LS F hl k => lv_imul F.1 F.2.1 hd  k) k
theorem J.idiv {x y : Int32} (hd : decode M.2.1 pc = .ok (.idiv, 1)) (hne : ¬ y = 0)
    (k : J d M Post C S (pc + 1) ls (.int (x / y) :: st) T I c sl) : J d M Post C S pc ls (.int y :: .int x :: st) T I c sl :=
  J.lift (st' := (.int (x / y) :: st)) (fun hv _ => vs_c trivial (vs_t (vs_t hv))) (fun p l e R s m args below meth cd ab A ad H locs Q LS F hl k => lv_idiv F.1 F.2.1 hd hne k) k
theorem J.irem {x y : Int32} (hd : decode M.2.1 pc = .ok (.irem, 1)) (hne : ¬ y = 0)
    (k : J d M Post C S (pc + 1) ls (.int (x - x / y * y) :: st) T I c sl) : J d M Post C S pc ls (.int y :: .int x :: st) T I c sl :=
  J.lift (st' := (.int (x - x / y * y) :: st)) (fun hv _ => vs_c trivial (vs_t (vs_t hv))) (fun p l e R s m args below meth cd ab A ad H locs Q LS F hl k => lv_irem F.1 F.2.1 hd hne k) k
theorem J.ishl {x y : Int32} (hd : decode M.2.1 pc = .ok (.ishl, 1)) 
    (k : J d M Post C S (pc + 1) ls (.int (x <<< (y &&& 31)) :: st) T I c sl) : J d M Post C S pc ls (.int y :: .int x :: st) T I c sl :=
  J.lift (st' := (.int (x <<< (y &&& 31)) :: st)) (fun hv _ => vs_c trivial (vs_t (vs_t hv))) (fun p l e R s m args below meth cd ab A ad H locs Q LS F hl k => lv_ishl F.1 F.2.1 hd  k) k
theorem J.ishr {x y : Int32} (hd : decode M.2.1 pc = .ok (.ishr, 1)) 
    (k : J d M Post C S (pc + 1) ls (.int (x >>> (y &&& 31)) :: st) T I c sl) : J d M Post C S pc ls (.int y :: .int x :: st) T I c sl :=
  J.lift (st' := (.int (x >>> (y &&& 31)) :: st)) (fun hv _ => vs_c trivial (vs_t (vs_t hv))) (fun p l e R s m args below meth cd ab A ad H locs Q LS F hl k => lv_ishr F.1 F.2.1 hd  k) k
theorem J.iand {x y : Int32} (hd : decode M.2.1 pc = .ok (.iand, 1)) 
    (k : J d M Post C S (pc + 1) ls (.int (x &&& y) :: st) T I c sl) : J d M Post C S pc ls (.int y :: .int x :: st) T I c sl :=
  J.lift (st' := (.int (x &&& y) :: st)) (fun hv _ => vs_c trivial (vs_t (vs_t hv))) (fun p l e R s m args below meth cd ab A ad H locs Q LS F hl k => lv_iand F.1 F.2.1 hd  k) k
theorem J.ior {x y : Int32} (hd : decode M.2.1 pc = .ok (.ior, 1)) 
    (k : J d M Post C S (pc + 1) ls (.int (x ||| y) :: st) T I c sl) : J d M Post C S pc ls (.int y :: .int x :: st) T I c sl :=
  J.lift (st' := (.int (x ||| y) :: st)) (fun hv _ => vs_c trivial (vs_t (vs_t hv))) (fun p l e R s m args below meth cd ab A ad H locs Q LS F hl k => lv_ior F.1 F.2.1 hd  k) k
theorem J.ixor {x y : Int32} (hd : decode M.2.1 pc = .ok (.ixor, 1)) 
    (k : J d M Post C S (pc + 1) ls (.int (x ^^^ y) :: st) T I c sl) : J d M Post C S pc ls (.int y :: .int x :: st) T I c sl :=
  J.lift (st' := (.int (x ^^^ y) :: st)) (fun hv _ => vs_c trivial (vs_t (vs_t hv))) (fun p l e R s m args below meth cd ab A ad H locs Q LS F hl k => lv_ixor F.1 F.2.1 hd  k) k
theorem J.iushr {x y : Int32} (hd : decode M.2.1 pc = .ok (.iushr, 1)) 
    (k : J d M Post C S (pc + 1) ls (.int ((x.toUInt32 >>> (y.toUInt32 &&& Int32.toUInt32 31)).toInt32) :: st) T I c sl) : J d M Post C S pc ls (.int y :: .int x :: st) T I c sl :=
  J.lift (st' := (.int ((x.toUInt32 >>> (y.toUInt32 &&& Int32.toUInt32 31)).toInt32) :: st)) (fun hv _ => vs_c trivial (vs_t (vs_t hv))) (fun p l e R s m args below meth cd ab A ad H locs Q LS F hl k => lv_iushr F.1 F.2.1 hd rfl k) k
theorem J.i2b {x : Int32} (hd : decode M.2.1 pc = .ok (.i2b, 1))
    (k : J d M Post C S (pc + 1) ls (.int x.toInt8.toInt32 :: st) T I c sl) : J d M Post C S pc ls (.int x :: st) T I c sl :=
  J.lift (st' := (.int x.toInt8.toInt32 :: st)) (fun hv _ => vs_c trivial (vs_t hv)) (fun p l e R s m args below meth cd ab A ad H locs Q LS F hl k => lv_i2b F.1 F.2.1 hd rfl k) k
theorem J.i2s {x : Int32} (hd : decode M.2.1 pc = .ok (.i2s, 1))
    (k : J d M Post C S (pc + 1) ls (.int x.toInt16.toInt32 :: st) T I c sl) : J d M Post C S pc ls (.int x :: st) T I c sl :=
  J.lift (st' := (.int x.toInt16.toInt32 :: st)) (fun hv _ => vs_c trivial (vs_t hv)) (fun p l e R s m args below meth cd ab A ad H locs Q LS F hl k => lv_i2s F.1 F.2.1 hd rfl k) k
theorem J.i2l {x : Int32} (hd : decode M.2.1 pc = .ok (.i2l, 1))
    (k : J d M Post C S (pc + 1) ls (.long x.toInt64 :: st) T I c sl) : J d M Post C S pc ls (.int x :: st) T I c sl :=
  J.lift (st' := (.long x.toInt64 :: st)) (fun hv _ => vs_c trivial (vs_t hv)) (fun p l e R s m args below meth cd ab A ad H locs Q LS F hl k => lv_i2l F.1 F.2.1 hd rfl k) k
theorem J.ladd {x y : Int64} (hd : decode M.2.1 pc = .ok (.ladd, 1))
    (k : J d M Post C S (pc + 1) ls (.long (x + y) :: st) T I c sl) : J d M Post C S pc ls (.long y :: .long x :: st) T I c sl :=
  J.lift (st' := (.long (x + y) :: st)) (fun hv _ => vs_c trivial (vs_t (vs_t hv))) (fun p l e R s m args below meth cd ab A ad H locs Q LS F hl k => lv_ladd F.1 F.2.1 hd k) k
theorem J.lcmp {x y : Int64} (hd : decode M.2.1 pc = .ok (.lcmp, 1))
    (k : J d M Post C S (pc + 1) ls (.int (lg_cmp x y) :: st) T I c sl) : J d M Post C S pc ls (.long y :: .long x :: st) T I c sl :=
  J.lift (st' := (.int (lg_cmp x y) :: st)) (fun hv _ => vs_c trivial (vs_t (vs_t hv))) (fun p l e R s m args below meth cd ab A ad H locs Q LS F hl k => W.lcmp F.1 F.2.1 hd k) k
theorem J.dup {v : Value} (hd : decode M.2.1 pc = .ok (.dup, 1)) (hc : v.category = 1)
    (k : J d M Post C S (pc + 1) ls (v :: v :: st) T I c sl) : J d M Post C S pc ls (v :: st) T I c sl :=
  J.lift (st' := (v :: v :: st)) (fun hv _ => vs_c (vs_h hv) hv) (fun p l e R s m args below meth cd ab A ad H locs Q LS F hl k => lv_dup F.1 F.2.1 hd ((trv_cat ad v).trans hc) k) k
theorem J.dup2 {v w : Value} (hd : decode M.2.1 pc = .ok (.dup2, 1)) (hc : v.category = 1) (hc2 : w.category = 1)
    (k : J d M Post C S (pc + 1) ls (v :: w :: v :: w :: st) T I c sl) : J d M Post C S pc ls (v :: w :: st) T I c sl :=
  J.lift (st' := (v :: w :: v :: w :: st)) (fun hv _ => vs_c (vs_h hv) (vs_c (vs_h (vs_t hv)) hv)) (fun p l e R s m args below meth cd ab A ad H locs Q LS F hl k => lv_dup2_11 F.1 F.2.1 hd ((trv_cat ad v).trans hc) ((trv_cat ad w).trans hc2) k) k
theorem J.goto {off : Int} {tgt : Nat} (hd : decode M.2.1 pc = .ok (.goto off, 3)) (ht : (pc : Int) + off = (tgt : Int))
    (k : J d M Post C S tgt ls st T I c sl) : J d M Post C S pc ls st T I c sl :=
  J.lift (st' := st) (fun hv _ => hv) (fun p l e R s m args below meth cd ab A ad H locs Q LS F hl k => lv_goto F.1 F.2.1 hd ht k) k
theorem J.tableIn {dflt lo hi : Int} {offs : Array Int} {len : Nat} {x : Int32} {off : Int} {tgt : Nat} (hd : decode M.2.1 pc = .ok (.tableswitch dflt lo hi offs, len)) (h1 : ¬ x.toInt < lo) (h2 : ¬ hi < x.toInt) (ho : offs[(x.toInt - lo).toNat]? = some off) (ht : (pc : Int) + off = (tgt : Int))
    (k : J d M Post C S tgt ls st T I c sl) : J d M Post C S pc ls (.int x :: st) T I c sl :=
  J.lift (st' := st) (fun hv _ => vs_t hv) (fun p l e R s m args below meth cd ab A ad H locs Q LS F hl k => lv_tableIn F.1 F.2.1 hd h1 h2 ho ht k) k
theorem J.tableOut {dflt lo hi : Int} {offs : Array Int} {len : Nat} {x : Int32} {tgt : Nat} (hd : decode M.2.1 pc = .ok (.tableswitch dflt lo hi offs, len)) (h : x.toInt < lo ∨ hi < x.toInt) (ht : (pc : Int) + dflt = (tgt : Int))
    (k : J d M Post C S tgt ls st T I c sl) : J d M Post C S pc ls (.int x :: st) T I c sl :=
  J.lift (st' := st) (fun hv _ => vs_t hv) (fun p l e R s m args below meth cd ab A ad H locs Q LS F hl k => lv_tableOut F.1 F.2.1 hd h ht k) k
theorem J.if_eq {x : Int32} {off : Int} {tgt : Nat} (hd : decode M.2.1 pc = .ok (.ifCond .eq off, 3)) (ht : (pc : Int) + off = (tgt : Int))
    (kt : x = 0 → J d M Post C S tgt ls st T I c sl) (kf : ¬ x = 0 → J d M Post C S (pc + 3) ls st T I c sl) : J d M Post C S pc ls (.int x :: st) T I c sl := by
  intro p l e s m args below meth cd G ab T0 ad0 ad ca H locs LS F D hl hv
  exact lv_if_eq F.1 F.2.1 hd ht (fun h => kt h p l e s m args below meth cd G ab T0 ad0 ad ca H locs LS F D hl (vs_t hv)) (fun h => kf h p l e s m args below meth cd G ab T0 ad0 ad ca H locs LS F D hl (vs_t hv))
theorem J.icmp_eq {x y : Int32} {off : Int} {tgt : Nat} (hd : decode M.2.1 pc = .ok (.if_icmp .eq off, 3)) (ht : (pc : Int) + off = (tgt : Int))
    (kt : x = y → J d M Post C S tgt ls st T I c sl) (kf : ¬ x = y → J d M Post C S (pc + 3) ls st T I c sl) : J d M Post C S pc ls (.int y :: .int x :: st) T I c sl := by
  intro p l e s m args below meth cd G ab T0 ad0 ad ca H locs LS F D hl hv
  exact lv_icmp_eq F.1 F.2.1 hd ht (fun h => kt h p l e s m args below meth cd G ab T0 ad0 ad ca H locs LS F D hl (vs_t (vs_t hv))) (fun h => kf h p l e s m args below meth cd G ab T0 ad0 ad ca H locs LS F D hl (vs_t (vs_t hv)))
theorem J.if_ne {x : Int32} {off : Int} {tgt : Nat} (hd : decode M.2.1 pc = .ok (.ifCond .ne off, 3)) (ht : (pc : Int) + off = (tgt : Int))
    (kt : ¬ x = 0 → J d M Post C S tgt ls st T I c sl) (kf : x = 0 → J d M Post C S (pc + 3) ls st T I c sl) : J d M Post C S pc ls (.int x :: st) T I c sl := by
  intro p l e s m args below meth cd G ab T0 ad0 ad ca H locs LS F D hl hv
  exact lv_if_ne F.1 F.2.1 hd ht (fun h => kt h p l e s m args below meth cd G ab T0 ad0 ad ca H locs LS F D hl (vs_t hv)) (fun h => kf h p l e s m args below meth cd G ab T0 ad0 ad ca H locs LS F D hl (vs_t hv))
theorem J.icmp_ne {x y : Int32} {off : Int} {tgt : Nat} (hd : decode M.2.1 pc = .ok (.if_icmp .ne off, 3)) (ht : (pc : Int) + off = (tgt : Int))
    (kt : ¬ x = y → J d M Post C S tgt ls st T I c sl) (kf : x = y → J d M Post C S (pc + 3) ls st T I c sl) : J d M Post C S pc ls (.int y :: .int x :: st) T I c sl := by
  intro p l e s m args below meth cd G ab T0 ad0 ad ca H locs LS F D hl hv
  exact lv_icmp_ne F.1 F.2.1 hd ht (fun h => kt h p l e s m args below meth cd G ab T0 ad0 ad ca H locs LS F D hl (vs_t (vs_t hv))) (fun h => kf h p l e s m args below meth cd G ab T0 ad0 ad ca H locs LS F D hl (vs_t (vs_t hv)))
theorem J.if_lt {x : Int32} {off : Int} {tgt : Nat} (hd : decode M.2.1 pc = .ok (.ifCond .lt off, 3)) (ht : (pc : Int) + off = (tgt : Int))
    (kt : x < 0 → J d M Post C S tgt ls st T I c sl) (kf : ¬ x < 0 → J d M Post C S (pc + 3) ls st T I c sl) : J d M Post C S pc ls (.int x :: st) T I c sl := by
  intro p l e s m args below meth cd G ab T0 ad0 ad ca H locs LS F D hl hv
  exact lv_if_lt F.1 F.2.1 hd ht (fun h => kt h p l e s m args below meth cd G ab T0 ad0 ad ca H locs LS F D hl (vs_t hv)) (fun h => kf h p l e s m args below meth cd G ab T0 ad0 ad ca H locs LS F D hl (vs_t hv))
theorem J.icmp_lt {x y : Int32} {off : Int} {tgt : Nat} (hd : decode M.2.1 pc = .ok (.if_icmp .lt off, 3)) (ht : (pc : Int) + off = (tgt : Int))
    (kt : x < y → J d M Post C S tgt ls st T I c sl) (kf : ¬ x < y → J d M Post C S (pc + 3) ls st T I c sl) : J d M Post C S pc ls (.int y :: .int x :: st) T I c sl := by
  intro p l e s m args below meth cd G ab T0 ad0 ad ca H locs LS F D hl hv
  exact lv_icmp_lt F.1 F.2.1 hd ht (fun h => kt h p l e s m args below meth cd G ab T0 ad0 ad ca H locs LS F D hl (vs_t (vs_t hv))) (fun h => kf h p l e s m args below meth cd G ab T0 ad0 ad ca H locs LS F D hl (vs_t (vs_t hv)))
theorem J.if_ge {x : Int32} {off : Int} {tgt : Nat} (hd : decode M.2.1 pc = .ok (.ifCond .ge off, 3)) (ht : (pc : Int) + off = (tgt : Int))
    (kt : 0 ≤ x → J d M Post C S tgt ls st T I c sl) (kf : ¬ 0 ≤ x → J d M Post C S (pc + 3) ls st T I c sl) : J d M Post C S pc ls (.int x :: st) T I c sl := by
  intro p l e s m args below meth cd G ab T0 ad0 ad ca H locs LS F D hl hv
  exact lv_if_ge F.1 F.2.1 hd ht (fun h => kt h p l e s m args below meth cd G ab T0 ad0 ad ca H locs LS F D hl (vs_t hv)) (fun h => kf h p l e s m args below meth cd G ab T0 ad0 ad ca H locs LS F D hl (vs_t hv))
theorem J.icmp_ge {x y : Int32} {off : Int} {tgt : Nat} (hd : decode M.2.1 pc = .ok (.if_icmp .ge off, 3)) (ht : (pc : Int) + off = (tgt : Int))
    (kt : y ≤ x → J d M Post C S tgt ls st T I c sl) (kf : ¬ y ≤ x → J d M Post C S (pc + 3) ls st T I c sl) : J d M Post C S pc ls (.int y :: .int x :: st) T I c sl := by
  intro p l e s m args below meth cd G ab T0 ad0 ad ca H locs LS F D hl hv
  exact lv_icmp_ge F.1 F.2.1 hd ht (fun h => kt h p l e s m args below meth cd G ab T0 ad0 ad ca H locs LS F D hl (vs_t (vs_t hv))) (fun h => kf h p l e s m args below meth cd G ab T0 ad0 ad ca H locs LS F D hl (vs_t (vs_t hv)))
theorem J.if_gt {x : Int32} {off : Int} {tgt : Nat} (hd : decode M.2.1 pc = .ok (.ifCond .gt off, 3)) (ht : (pc : Int) + off = (tgt : Int))
    (kt : 0 < x → J d M Post C S tgt ls st T I c sl) (kf : ¬ 0 < x → J d M Post C S (pc + 3) ls st T I c sl) : J d M Post C S pc ls (.int x :: st) T I c sl := by
  intro p l e s m args below meth cd G ab T0 ad0 ad ca H locs LS F D hl hv
  exact lv_if_gt F.1 F.2.1 hd ht (fun h => kt h p l e s m args below meth cd G ab T0 ad0 ad ca H locs LS F D hl (vs_t hv)) (fun h => kf h p l e s m args below meth cd G ab T0 ad0 ad ca H locs LS F D hl (vs_t hv))
theorem J.icmp_gt {x y : Int32} {off : Int} {tgt : Nat} (hd : decode M.2.1 pc = .ok (.if_icmp .gt off, 3)) (ht : (pc : Int) + off = (tgt : Int))
    (kt : y < x → J d M Post C S tgt ls st T I c sl) (kf : ¬ y < x → J d M Post C S (pc + 3) ls st T I c sl) : J d M Post C S pc ls (.int y :: .int x :: st) T I c sl := by
  intro p l e s m args below meth cd G ab T0 ad0 ad ca H locs LS F D hl hv
  exact lv_icmp_gt F.1 F.2.1 hd ht (fun h => kt h p l e s m args below meth cd G ab T0 ad0 ad ca H locs LS F D hl (vs_t (vs_t hv))) (fun h => kf h p l e s m args below meth cd G ab T0 ad0 ad ca H locs LS F D hl (vs_t (vs_t hv)))
theorem J.if_le {x : Int32} {off : Int} {tgt : Nat} (hd : decode M.2.1 pc = .ok (.ifCond .le off, 3)) (ht : (pc : Int) + off = (tgt : Int))
    (kt : x ≤ 0 → J d M Post C S tgt ls st T I c sl) (kf : ¬ x ≤ 0 → J d M Post C S (pc + 3) ls st T I c sl) : J d M Post C S pc ls (.int x :: st) T I c sl := by
  intro p l e s m args below meth cd G ab T0 ad0 ad ca H locs LS F D hl hv
  exact lv_if_le F.1 F.2.1 hd ht (fun h => kt h p l e s m args below meth cd G ab T0 ad0 ad ca H locs LS F D hl (vs_t hv)) (fun h => kf h p l e s m args below meth cd G ab T0 ad0 ad ca H locs LS F D hl (vs_t hv))
theorem J.icmp_le {x y : Int32} {off : Int} {tgt : Nat} (hd : decode M.2.1 pc = .ok (.if_icmp .le off, 3)) (ht : (pc : Int) + off = (tgt : Int))
    (kt : x ≤ y → J d M Post C S tgt ls st T I c sl) (kf : ¬ x ≤ y → J d M Post C S (pc + 3) ls st T I c sl) : J d M Post C S pc ls (.int y :: .int x :: st) T I c sl := by
  intro p l e s m args below meth cd G ab T0 ad0 ad ca H locs LS F D hl hv
  exact lv_icmp_le F.1 F.2.1 hd ht (fun h => kt h p l e s m args below meth cd G ab T0 ad0 ad ca H locs LS F D hl (vs_t (vs_t hv))) (fun h => kf h p l e s m args below meth cd G ab T0 ad0 ad ca H locs LS F D hl (vs_t (vs_t hv)))
end JR
end
section
/-! locals -/
def plv (ad : Nat → Nat) (ls : List (Option Value)) : List (Nat × Value) := (List.range ls.length).filterMap (fun j => (ls[j]?.join).map (fun v => (j, trv ad v)))
theorem plv_mem {ad : Nat → Nat} {ls : List (Option Value)} {q : Nat × Value} : q ∈ plv ad ls ↔ ∃ v, ls[q.1]? = some (some v) ∧ q.2 = trv ad v := by
  unfold plv
  rw [List.mem_filterMap]
  constructor
  · rintro ⟨j, hj, h⟩
    cases hx : ls[j]? with
    | none => rw [hx] at h; simp at h
    | some o =>
      cases o with
      | none => rw [hx] at h; simp at h
      | some v =>
        rw [hx] at h
        simp at h
        subst h
        exact ⟨v, hx, rfl⟩
  · rintro ⟨v, h1, h2⟩
    refine ⟨q.1, List.mem_range.mpr (List.getElem?_eq_some_iff.mp h1).1, ?_⟩
    rw [h1]
    simp [← h2]
theorem lvO.toHas {LS : Array Slot} {nL n : Nat} {ls : List (Option Value)} {ad : Nat → Nat} (h : lvO LS nL ls ad n) : lv_has LS nL (plv ad ls) := by
  refine ⟨h.1, h.2.1, fun q hq => ?_⟩
  obtain ⟨v, h1, h2⟩ := plv_mem.mp hq
  rw [h2]
  exact (h.2.2.2 _ _ h1).1
theorem lvO.ofHas {LS LS' : Array Slot} {nL n i : Nat} {ls : List (Option Value)} {ad : Nat → Nat} {v : Value} (h : lvO LS nL ls ad n) (hi : i < ls.length) (hc : v.category = 1) (hv : vOK n v) (h' : lv_has LS' nL ((i, trv ad v) :: (plv ad ls).filter (fun q => !(q.1 == i) && !(q.1 + 1 == i && q.2.category == 2)))) : lvO LS' nL (ls.set i (some v)) ad n := by
  refine ⟨h'.1, h'.2.1, by rw [List.length_set]; exact h.2.2.1, fun j w hj => ?_⟩
  rw [List.getElem?_set] at hj
  by_cases e : i = j
  · rw [if_pos e, if_pos (by omega)] at hj
    have : w = v := (Option.some.inj (Option.some.inj hj)).symm
    subst this
    subst e
    exact ⟨h'.2.2 _ List.mem_cons_self, hc, hv⟩
  · rw [if_neg e] at hj
    have h1 := h.2.2.2 j w hj
    refine ⟨h'.2.2 (j, trv ad w) (List.mem_cons_of_mem _ (List.mem_filter.mpr ⟨plv_mem.mpr ⟨w, hj, rfl⟩, ?_⟩)), h1.2⟩
    have e2 : (j == i) = false := by simp; omega
    have e3 : (trv ad w).category = 1 := (trv_cat ad w).trans h1.2.1
    simp [e2, e3]
theorem lvO.ad {LS : Array Slot} {nL n n' : Nat} {ls : List (Option Value)} {ad ad' : Nat → Nat} (h : lvO LS nL ls ad n) (hn : n ≤ n') (ha : ∀ k, k < n → ad' k = ad k) : lvO LS nL ls ad' n' := by
  refine ⟨h.1, h.2.1, h.2.2.1, fun i v hi => ?_⟩
  obtain ⟨h1, h2, h3⟩ := h.2.2.2 i v hi
  exact ⟨by rw [trv_eq ha h3]; exact h1, h2, h3.mono hn⟩
section JL
variable {d : Nat} {M : Mth} {Post : Pst} {C S pc c sl : Nat} {ls ls' : List (Option Value)} {st : List Value} {T : Topo} {I : IM}
theorem J.istore_n {n : Fin 4} {i : Nat} {x : Int32} (hd : decode M.2.1 pc = .ok (.istore_n n, 1)) (hi : (n : Nat) = i) (hn : Nat.ble (i + 1) ls.length = true) (hs : ls.set i (some (.int x)) = ls')
    (k : J d M Post C S (pc + 1) ls' st T I c sl) : J d M Post C S pc ls (.int x :: st) T I c sl := by
  subst hs
  intro p l e s m args below meth cd G ab T0 ad0 ad ca H locs LS F D hl hv
  have hn' : i < ls.length := Nat.le_of_ble_eq_true hn
  exact lv_istore_n F.1 F.2.1 hd hi hl.toHas (by rw [← hl.2.2.1]; exact hn') rfl (fun LS' h' => k p l e s m args below meth cd G ab T0 ad0 ad ca H locs LS' F D (hl.ofHas (v := .int x) hn' rfl trivial h') (vs_t hv))
theorem J.istore {i : Nat} {x : Int32} (hd : decode M.2.1 pc = .ok (.istore i, 2)) (hn : Nat.ble (i + 1) ls.length = true) (hs : ls.set i (some (.int x)) = ls')
    (k : J d M Post C S (pc + 2) ls' st T I c sl) : J d M Post C S pc ls (.int x :: st) T I c sl := by
  subst hs
  intro p l e s m args below meth cd G ab T0 ad0 ad ca H locs LS F D hl hv
  have hn' : i < ls.length := Nat.le_of_ble_eq_true hn
  exact lv_istore F.1 F.2.1 hd hl.toHas (by rw [← hl.2.2.1]; exact hn') rfl (fun LS' h' => k p l e s m args below meth cd G ab T0 ad0 ad ca H locs LS' F D (hl.ofHas (v := .int x) hn' rfl trivial h') (vs_t hv))
theorem J.astore_n {n : Fin 4} {i : Nat} {x : Nat} (hd : decode M.2.1 pc = .ok (.astore_n n, 1)) (hi : (n : Nat) = i) (hn : Nat.ble (i + 1) ls.length = true) (hs : ls.set i (some (.ref x)) = ls')
    (k : J d M Post C S (pc + 1) ls' st T I c sl) : J d M Post C S pc ls (.ref x :: st) T I c sl := by
  subst hs
  intro p l e s m args below meth cd G ab T0 ad0 ad ca H locs LS F D hl hv
  have hn' : i < ls.length := Nat.le_of_ble_eq_true hn
  exact lv_astore_n F.1 F.2.1 hd hi hl.toHas (by rw [← hl.2.2.1]; exact hn') rfl (fun LS' h' => k p l e s m args below meth cd G ab T0 ad0 ad ca H locs LS' F D (hl.ofHas (v := .ref x) hn' rfl (vs_h hv) h') (vs_t hv))
theorem J.astore {i : Nat} {x : Nat} (hd : decode M.2.1 pc = .ok (.astore i, 2)) (hn : Nat.ble (i + 1) ls.length = true) (hs : ls.set i (some (.ref x)) = ls')
    (k : J d M Post C S (pc + 2) ls' st T I c sl) : J d M Post C S pc ls (.ref x :: st) T I c sl := by
  subst hs
  intro p l e s m args below meth cd G ab T0 ad0 ad ca H locs LS F D hl hv
  have hn' : i < ls.length := Nat.le_of_ble_eq_true hn
  exact lv_astore F.1 F.2.1 hd hl.toHas (by rw [← hl.2.2.1]; exact hn') rfl (fun LS' h' => k p l e s m args below meth cd G ab T0 ad0 ad ca H locs LS' F D (hl.ofHas (v := .ref x) hn' rfl (vs_h hv) h') (vs_t hv))
theorem J.iinc {i : Nat} {n : Int} {x v : Int32} (hd : decode M.2.1 pc = .ok (.iinc i n, 3)) (hx : ls[i]? = some (some (.int x))) (hv : x + Int32.ofInt n = v) (hs : ls.set i (some (.int v)) = ls')
    (k : J d M Post C S (pc + 3) ls' st T I c sl) : J d M Post C S pc ls st T I c sl := by
  subst hs
  intro p l e s m args below meth cd G ab T0 ad0 ad ca H locs LS F D hl hst
  have hn' : i < ls.length := (List.getElem?_eq_some_iff.mp hx).1
  obtain ⟨q, hq⟩ := List.getElem?_of_mem (plv_mem (ad := ad) (ls := ls) (q := (i, .int x)) |>.mpr ⟨.int x, hx, rfl⟩)
  exact lv_iinc F.1 F.2.1 hd hl.toHas hq hv (by rw [← hl.2.2.1]; exact hn') rfl (fun LS' h' => k p l e s m args below meth cd G ab T0 ad0 ad ca H locs LS' F D (hl.ofHas (v := .int v) hn' rfl trivial h') hst)
end JL
end
section
/-! the classes of the worlds -/
theorem wsIn0 : ∀ w ∈ u_ws RX0 TX0 5, w ∈ TBg := by
  have h : (u_ws RX0 TX0 5).all (fun w => decide (w ∈ lw_tbl) && goodWord w) = true := by decide +kernel
  intro w hw
  have h1 := List.all_eq_true.mp h w hw
  simp only [Bool.and_eq_true, decide_eq_true_eq] at h1
  exact TBg_mem h1.1 h1.2
theorem wsIn1 : ∀ w ∈ u_ws RX1 TX1 3, w ∈ TBg := by
  have h : (u_ws RX1 TX1 3).all (fun w => decide (w ∈ lw_tbl) && goodWord w) = true := by decide +kernel
  intro w hw
  have h1 := List.all_eq_true.mp h w hw
  simp only [Bool.and_eq_true, decide_eq_true_eq] at h1
  exact TBg_mem h1.1 h1.2
theorem wsIn2 : ∀ w ∈ u_ws RX2 TX2 6, w ∈ TBg := by
  have h : (u_ws RX2 TX2 6).all (fun w => decide (w ∈ lw_tbl) && goodWord w) = true := by decide +kernel
  intro w hw
  have h1 := List.all_eq_true.mp h w hw
  simp only [Bool.and_eq_true, decide_eq_true_eq] at h1
  exact TBg_mem h1.1 h1.2
theorem wsIn3 : ∀ w ∈ u_ws RX3 TX3 13, w ∈ TBg := by
  have h : (u_ws RX3 TX3 13).all (fun w => decide (w ∈ lw_tbl) && goodWord w) = true := by decide +kernel
  intro w hw
  have h1 := List.all_eq_true.mp h w hw
  simp only [Bool.and_eq_true, decide_eq_true_eq] at h1
  exact TBg_mem h1.1 h1.2
theorem wsIn4 : ∀ w ∈ u_ws RX4 TX4 8, w ∈ TBg := by
  have h : (u_ws RX4 TX4 8).all (fun w => decide (w ∈ lw_tbl) && goodWord w) = true := by decide +kernel
  intro w hw
  have h1 := List.all_eq_true.mp h w hw
  simp only [Bool.and_eq_true, decide_eq_true_eq] at h1
  exact TBg_mem h1.1 h1.2
theorem wsIn5 : ∀ w ∈ u_ws RX5 TX5 6, w ∈ TBg := by
  have h : (u_ws RX5 TX5 6).all (fun w => decide (w ∈ lw_tbl) && goodWord w) = true := by decide +kernel
  intro w hw
  have h1 := List.all_eq_true.mp h w hw
  simp only [Bool.and_eq_true, decide_eq_true_eq] at h1
  exact TBg_mem h1.1 h1.2
theorem wsIn6 : ∀ w ∈ u_ws RX6 TX6 5, w ∈ TBg := by
  have h : (u_ws RX6 TX6 5).all (fun w => decide (w ∈ lw_tbl) && goodWord w) = true := by decide +kernel
  intro w hw
  have h1 := List.all_eq_true.mp h w hw
  simp only [Bool.and_eq_true, decide_eq_true_eq] at h1
  exact TBg_mem h1.1 h1.2
theorem wsIn7 : ∀ w ∈ u_ws RX7 TX7 3, w ∈ TBg := by
  have h : (u_ws RX7 TX7 3).all (fun w => decide (w ∈ lw_tbl) && goodWord w) = true := by decide +kernel
  intro w hw
  have h1 := List.all_eq_true.mp h w hw
  simp only [Bool.and_eq_true, decide_eq_true_eq] at h1
  exact TBg_mem h1.1 h1.2
theorem wsIn8 : ∀ w ∈ u_ws RX8 TX8 19, w ∈ TBg := by
  have h : (u_ws RX8 TX8 19).all (fun w => decide (w ∈ lw_tbl) && goodWord w) = true := by decide +kernel
  intro w hw
  have h1 := List.all_eq_true.mp h w hw
  simp only [Bool.and_eq_true, decide_eq_true_eq] at h1
  exact TBg_mem h1.1 h1.2
theorem wsIn9 : ∀ w ∈ u_ws RX9 TX9 2, w ∈ TBg := by
  have h : (u_ws RX9 TX9 2).all (fun w => decide (w ∈ lw_tbl) && goodWord w) = true := by decide +kernel
  intro w hw
  have h1 := List.all_eq_true.mp h w hw
  simp only [Bool.and_eq_true, decide_eq_true_eq] at h1
  exact TBg_mem h1.1 h1.2
theorem wsIn10 : ∀ w ∈ u_ws RX10 TX10 5, w ∈ TBg := by
  have h : (u_ws RX10 TX10 5).all (fun w => decide (w ∈ lw_tbl) && goodWord w) = true := by decide +kernel
  intro w hw
  have h1 := List.all_eq_true.mp h w hw
  simp only [Bool.and_eq_true, decide_eq_true_eq] at h1
  exact TBg_mem h1.1 h1.2
theorem wsIn11 : ∀ w ∈ u_ws RX11 TX11 8, w ∈ TBg := by
  have h : (u_ws RX11 TX11 8).all (fun w => decide (w ∈ lw_tbl) && goodWord w) = true := by decide +kernel
  intro w hw
  have h1 := List.all_eq_true.mp h w hw
  simp only [Bool.and_eq_true, decide_eq_true_eq] at h1
  exact TBg_mem h1.1 h1.2
theorem wsIn12 : ∀ w ∈ u_ws RX12 TX12 67, w ∈ TBg := by
  have h : (u_ws RX12 TX12 67).all (fun w => decide (w ∈ lw_tbl) && goodWord w) = true := by decide +kernel
  intro w hw
  have h1 := List.all_eq_true.mp h w hw
  simp only [Bool.and_eq_true, decide_eq_true_eq] at h1
  exact TBg_mem h1.1 h1.2
def kOK (κ : Nat) : Prop := ∃ (C : String) (F : u_T) (N : Nat) (ty : Nat → FieldType), vwCl[κ]? = some (C, F, N) ∧ (∀ k, k < N → parseFieldDescriptor (F k).2.2.1 = some (ty k)) ∧ (∀ a, a < N → ∀ b, b < N → a ≠ b → (F a).2.1 ≠ (F b).2.1) ∧ (∀ w ∈ u_ws C F N, w ∈ TBg) ∧ nF κ = N ∧ (∀ j, j < N → defaultValue (ty j) = if rF κ j = true then Value.null else .int 0)
theorem kOK0 : kOK 0 := ⟨RX0, TX0, 5, tyX0, rfl, tyX0_ok, nmX0, wsIn0, rfl, by decide +kernel⟩
theorem kOK1 : kOK 1 := ⟨RX1, TX1, 3, tyX1, rfl, tyX1_ok, nmX1, wsIn1, rfl, by decide +kernel⟩
theorem kOK2 : kOK 2 := ⟨RX2, TX2, 6, tyX2, rfl, tyX2_ok, nmX2, wsIn2, rfl, by decide +kernel⟩
theorem kOK3 : kOK 3 := ⟨RX3, TX3, 13, tyX3, rfl, tyX3_ok, nmX3, wsIn3, rfl, by decide +kernel⟩
theorem kOK4 : kOK 4 := ⟨RX4, TX4, 8, tyX4, rfl, tyX4_ok, nmX4, wsIn4, rfl, by decide +kernel⟩
theorem kOK5 : kOK 5 := ⟨RX5, TX5, 6, tyX5, rfl, tyX5_ok, nmX5, wsIn5, rfl, by decide +kernel⟩
theorem kOK6 : kOK 6 := ⟨RX6, TX6, 5, tyX6, rfl, tyX6_ok, nmX6, wsIn6, rfl, by decide +kernel⟩
theorem kOK7 : kOK 7 := ⟨RX7, TX7, 3, tyX7, rfl, tyX7_ok, nmX7, wsIn7, rfl, by decide +kernel⟩
theorem kOK8 : kOK 8 := ⟨RX8, TX8, 19, tyX8, rfl, tyX8_ok, nmX8, wsIn8, rfl, by decide +kernel⟩
theorem kOK9 : kOK 9 := ⟨RX9, TX9, 2, tyX9, rfl, tyX9_ok, nmX9, wsIn9, rfl, by decide +kernel⟩
theorem kOK10 : kOK 10 := ⟨RX10, TX10, 5, tyX10, rfl, tyX10_ok, nmX10, wsIn10, rfl, by decide +kernel⟩
theorem kOK11 : kOK 11 := ⟨RX11, TX11, 8, tyX11, rfl, tyX11_ok, nmX11, wsIn11, rfl, by decide +kernel⟩
theorem kOK12 : kOK 12 := ⟨RX12, TX12, 67, tyX12, rfl, tyX12_ok, nmX12, wsIn12, rfl, by decide +kernel⟩
theorem kOK_all : ∀ κ, κ < 13 → kOK κ := by
  intro κ h
  match κ, h with
  | 0, _ => exact kOK0
  | 1, _ => exact kOK1
  | 2, _ => exact kOK2
  | 3, _ => exact kOK3
  | 4, _ => exact kOK4
  | 5, _ => exact kOK5
  | 6, _ => exact kOK6
  | 7, _ => exact kOK7
  | 8, _ => exact kOK8
  | 9, _ => exact kOK9
  | 10, _ => exact kOK10
  | 11, _ => exact kOK11
  | 12, _ => exact kOK12
  | n + 13, h => omega
theorem vwCl_lt {κ : Nat} {q : vw_C} (h : vwCl[κ]? = some q) : κ < 13 := (List.getElem?_eq_some_iff.mp h).1
/-- field j of kind κ is what number idx of class own's pool links to; whether it is final; its type -/
def fLk (own : String) (idx κ j : Nat) (fin : Bool) (ty : FieldType) : Prop := ∃ q : vw_C, vwCl[κ]? = some q ∧ j < q.2.2 ∧ Cond.fieldLink own idx (q.2.1 j).1 (q.2.1 j).2.1 (q.2.1 j).2.2.1 ∈ TBg ∧ (q.2.1 j).2.2.2 = fin ∧ parseFieldDescriptor (q.2.1 j).2.2.1 = some ty
end
section
/-! memory: reads and writes -/
def setR (T : Topo) (k j r : Nat) : Topo := (T.1, T.2.1, T.2.2.1, fun a b => if a = k ∧ b = j then some r else T.2.2.2 a b)
theorem setR_N (T : Topo) (k j r : Nat) : tN (setR T k j r) = tN T := rfl
theorem setR_K (T : Topo) (k j r a : Nat) : tK (setR T k j r) a = tK T a := rfl
theorem setR_L (T : Topo) (k j r a : Nat) : tL (setR T k j r) a = tL T a := rfl
theorem setR_R (T : Topo) (k j r a b : Nat) : tR (setR T k j r) a b = if a = k ∧ b = j then some r else tR T a b := rfl
def newT (T : Topo) (κ N : Nat) : Topo := (T.1 + 1, va_up T.2.1 T.1 κ, va_up T.2.2.1 T.1 N, va_up T.2.2.2 T.1 (fun _ => none))
def newI (I : IM) (n : Nat) : IM := va_up I n (fun _ => 0)
theorem cE_obj {ad : Nat → Nat} {ca : Nat → ClassId} {T : Topo} {I : IM} {k κ : Nat} (h : tK T k = κ) (hκ : κ < 13) : cE ad ca T I k = .inr (κ, (List.range (nF κ)).map (fv ad T I k)) := by
  subst h; simp only [cE, hκ, if_true]
theorem cE_int {ad : Nat → Nat} {ca : Nat → ClassId} {T : Topo} {I : IM} {k : Nat} (h : tK T k = 13 ∨ tK T k = 14) : cE ad ca T I k = .inl (ca k, tL T k, .inl (I k)) := by
  have h1 : ¬ tK T k < 13 := by omega
  have h2 : tK T k < 15 := by omega
  simp only [cE, h1, h2, if_true, if_false]
theorem cE_ref {ad : Nat → Nat} {ca : Nat → ClassId} {T : Topo} {I : IM} {k : Nat} (h : 15 ≤ tK T k) : cE ad ca T I k = .inl (ca k, tL T k, .inr (.inr (.inr (.inr (fun j => (tR T k j).map ad))))) := by
  have h1 : ¬ tK T k < 13 := by omega
  have h2 : ¬ tK T k < 15 := by omega
  simp only [cE, h1, h2, if_false]
theorem fs_at {ad : Nat → Nat} {T : Topo} {I : IM} {k j N : Nat} (h : j < N) : ((List.range N).map (fv ad T I k))[j]? = some (fv ad T I k j) := by simp [h]
theorem up2_ne {I : IM} {k j a : Nat} {v : Int32} (h : a ≠ k) : up2 I k j v a = I a := if_neg h
theorem up2_eq {I : IM} {k j : Nat} {v : Int32} : up2 I k j v k = upd (I k) j v := if_pos rfl
theorem cE_up2 {ad : Nat → Nat} {ca : Nat → ClassId} {T : Topo} {I : IM} {k j a : Nat} {v : Int32} (h : a ≠ k) : cE ad ca T (up2 I k j v) a = cE ad ca T I a := by
  have e : fv ad T (up2 I k j v) a = fv ad T I a := by funext i; simp only [fv, up2_ne h]
  simp only [cE, e, up2_ne h]
theorem fs_set {ad : Nat → Nat} {T : Topo} {I : IM} {k j N : Nat} {v : Int32} (hr : rF (tK T k) j = false) : ((List.range N).map (fv ad T I k)).set j (.int v) = (List.range N).map (fv ad T (up2 I k j v) k) := by
  apply List.ext_getElem?
  intro i
  rw [List.getElem?_set]
  by_cases hi : i < N
  · by_cases e : j = i
    · subst e
      simp [hi, fv, hr, up2_eq, upd]
    · have e' : ¬ i = j := fun h => e h.symm
      simp [hi, e, fv, up2_eq, upd, e']
  · by_cases e : j = i
    · subst e
      simp [hi]
    · simp [hi, e]
theorem fs_setR {ad : Nat → Nat} {T : Topo} {I : IM} {k j r N : Nat} (hr : rF (tK T k) j = true) : ((List.range N).map (fv ad T I k)).set j (.ref (ad r)) = (List.range N).map (fv ad (setR T k j r) I k) := by
  apply List.ext_getElem?
  intro i
  rw [List.getElem?_set]
  have hK : tK (setR T k j r) k = tK T k := rfl
  by_cases hi : i < N
  · by_cases e : j = i
    · subst e
      simp only [hK, fv, hr, setR_R, hi, List.length_map, List.length_range, if_true, List.getElem?_map, List.getElem?_range hi, Option.map_some, and_self, va_rf]
    · have e' : ¬ i = j := fun h => e h.symm
      simp only [hK, fv, setR_R, hi, e, e', and_false, if_false, List.getElem?_map, List.getElem?_range hi, Option.map_some]
  · by_cases e : j = i
    · subst e
      simp [hi]
    · simp [hi, e]
theorem cE_setR {ad : Nat → Nat} {ca : Nat → ClassId} {T : Topo} {I : IM} {k j r a : Nat} (h : a ≠ k) : cE ad ca (setR T k j r) I a = cE ad ca T I a := by
  have e : fv ad (setR T k j r) I a = fv ad T I a := by funext i; simp only [fv, setR_K, setR_R, h, false_and, if_false]
  simp only [cE, e, setR_K, setR_L, setR_R, h, false_and, if_false]
theorem rOK.setR {T : Topo} {k j r : Nat} (h : rOK T) (hr : r < tN T) : rOK (setR T k j r) := by
  intro a b q ha hq
  change (if a = k ∧ b = j then some r else T.2.2.2 a b) = some q at hq
  change q < tN T
  split at hq
  · cases hq; exact hr
  · exact h a b q ha hq
theorem aOK.one {G : va_G} {ca : Nat → ClassId} {T : Topo} {s : State} {k : Nat} {ty : FieldType} (hK : va_K G vwCl [] s) (h : aOK ca T s) (hk : k < tN T) (h13 : 13 ≤ tK T k) (ht : aTy (tK T k) = ty) : va_K G vwCl [(ca k, ty)] s := by
  refine ⟨hK.1, fun i q hq => ?_⟩
  have := h k hk h13
  rw [ht] at this
  match i, hq with
  | 0, hq => cases hq; exact this
  | i + 1, hq => simp at hq
section JM
variable {d : Nat} {M : Mth} {Post : Pst} {C S pc c sl : Nat} {ls : List (Option Value)} {st : List Value} {T : Topo} {I : IM}
theorem J.getI {idx κ j k : Nat} {fin : Bool} {ty : FieldType} (hd : decode M.2.1 pc = .ok (.getfield idx, 3)) (hf : fLk M.1.cls idx κ j fin ty) (hκ : tK T k = κ) (hr : rF κ j = false)
    (kk : J d M Post C S (pc + 3) ls (.int (I k j) :: st) T I c sl) : J d M Post C S pc ls (.ref k :: st) T I c sl := by
  intro p l e s m args below meth cd G ab T0 ad0 ad ca H locs LS F D hl hv
  obtain ⟨q, hc, hj, hlk, -⟩ := hf
  obtain ⟨CC, FF, NN, ty0, h1, h2, h3, h4, h5, -⟩ := kOK_all κ (vwCl_lt hc)
  obtain rfl : q = (CC, FF, NN) := Option.some.inj (hc.symm.trans h1)
  have hk : k < tN T := vs_h hv
  refine va_get F.1 F.2.1 F.2.2.2.2.1 (fun w hw => List.mem_cons_of_mem _ (h4 w hw)) F.2.2.2.1 D.2.2.1 D.1 k ((cW_at hk).trans (by rw [cE_obj hκ (vwCl_lt hc)])) hc j hj (hasCode F hlk) (fun _ h => h) (v := .int (I k j)) ?_ hd (kk p l e s m args below meth cd G ab T0 ad0 ad ca H locs LS F D hl (vs_c trivial (vs_t hv)))
  rw [fs_at (by rw [h5]; exact hj)]
  simp only [fv, hκ, hr, Bool.false_eq_true, if_false]
theorem J.getR {idx κ j k r : Nat} {fin : Bool} {ty : FieldType} (hd : decode M.2.1 pc = .ok (.getfield idx, 3)) (hf : fLk M.1.cls idx κ j fin ty) (hκ : tK T k = κ) (hr : rF κ j = true) (hR : tR T k j = some r)
    (kk : J d M Post C S (pc + 3) ls (.ref r :: st) T I c sl) : J d M Post C S pc ls (.ref k :: st) T I c sl := by
  intro p l e s m args below meth cd G ab T0 ad0 ad ca H locs LS F D hl hv
  obtain ⟨q, hc, hj, hlk, -⟩ := hf
  obtain ⟨CC, FF, NN, ty0, h1, h2, h3, h4, h5, -⟩ := kOK_all κ (vwCl_lt hc)
  obtain rfl : q = (CC, FF, NN) := Option.some.inj (hc.symm.trans h1)
  have hk : k < tN T := vs_h hv
  refine va_get F.1 F.2.1 F.2.2.2.2.1 (fun w hw => List.mem_cons_of_mem _ (h4 w hw)) F.2.2.2.1 D.2.2.1 D.1 k ((cW_at hk).trans (by rw [cE_obj hκ (vwCl_lt hc)])) hc j hj (hasCode F hlk) (fun _ h => h) (v := .ref (ad r)) ?_ hd (kk p l e s m args below meth cd G ab T0 ad0 ad ca H locs LS F D hl (vs_c (D.2.2.2.2.1 k j r hk hR) (vs_t hv)))
  rw [fs_at (by rw [h5]; exact hj)]
  simp only [fv, hκ, hr, if_true, hR, Option.map_some, va_rf]
theorem J.putX {idx κ j k : Nat} {v : Int32} {ty : FieldType} (hd : decode M.2.1 pc = .ok (.putfield idx, 3)) (hf : fLk M.1.cls idx κ j false ty) (hκ : tK T k = κ) (hr : rF κ j = false) (hn : narrow ty (.int v) = .int v) (hfit : fits ty (.int v) = true)
    (kk : J d M Post C S (pc + 3) ls st T (up2 I k j v) c sl) : J d M Post C S pc ls (.int v :: .ref k :: st) T I c sl := by
  intro p l e s m args below meth cd G ab T0 ad0 ad ca H locs LS F D hl hv
  obtain ⟨q, hc, hj, hlk, hfin, hty⟩ := hf
  obtain ⟨CC, FF, NN, ty0, h1, h2, h3, h4, h5, -⟩ := kOK_all κ (vwCl_lt hc)
  obtain rfl : q = (CC, FF, NN) := Option.some.inj (hc.symm.trans h1)
  have hk : k < tN T := vs_h (vs_t hv)
  have he : (cW ad ca T I)[k]? = some (ad k, .inr (κ, (List.range (nF κ)).map (fv ad T I k))) := (cW_at hk).trans (by rw [cE_obj hκ (vwCl_lt hc)])
  refine va_put F.1 F.2.1 F.2.2.2.2.1 (fun w hw => List.mem_cons_of_mem _ (h4 w hw)) ty0 h2 h3 F.2.2.2.1 D.2.2.1 D.1 D.2.1 D.2.2.2.2.2.1 k he hc j hj (hasCode F hlk) (fun _ h => h) hfin hty (v := .int v) hn hfit (by simp [h5]; exact hj) hd (fun H1 locs1 hP1 hD1 hS1 => ?_)
  have eW : (cW ad ca T I).set k (ad k, .inr (κ, ((List.range (nF κ)).map (fv ad T I k)).set j (.int v))) = cW ad ca T (up2 I k j v) :=
    cW_set hk rfl (by rw [cE_obj hκ (vwCl_lt hc), fs_set (by rw [hκ]; exact hr)]) (fun a ha => cE_up2 ha)
  rw [eW] at hP1 hD1
  exact kk p l e s m args below meth cd G ab T0 ad0 ad ca H1 locs1 LS F ⟨hP1, hD1, D.2.2.1, D.2.2.2.1, D.2.2.2.2.1, hS1, D.2.2.2.2.2.2⟩ hl (vs_t (vs_t hv))
theorem J.putI {idx κ j k : Nat} {v : Int32} (hd : decode M.2.1 pc = .ok (.putfield idx, 3)) (hf : fLk M.1.cls idx κ j false .int) (hκ : tK T k = κ) (hr : rF κ j = false)
    (kk : J d M Post C S (pc + 3) ls st T (up2 I k j v) c sl) : J d M Post C S pc ls (.int v :: .ref k :: st) T I c sl := J.putX hd hf hκ hr rfl rfl kk
theorem J.putZ {idx κ j k : Nat} {v : Int32} (hd : decode M.2.1 pc = .ok (.putfield idx, 3)) (hf : fLk M.1.cls idx κ j false .boolean) (hκ : tK T k = κ) (hr : rF κ j = false) (hz : v = 0 ∨ v = 1)
    (kk : J d M Post C S (pc + 3) ls st T (up2 I k j v) c sl) : J d M Post C S pc ls (.int v :: .ref k :: st) T I c sl := J.putX hd hf hκ hr (by rcases hz with rfl | rfl <;> rfl) (by rcases hz with rfl | rfl <;> rfl) kk
theorem J.putR {idx κ j k r : Nat} {fin : Bool} {ty : FieldType} (hd : decode M.2.1 pc = .ok (.putfield idx, 3)) (hf : fLk M.1.cls idx κ j fin ty) (hκ : tK T k = κ) (hr : rF κ j = true) (hty' : (∃ n, ty = .object n) ∨ ∃ t, ty = .array t) (hini : fin = true → M.1.name = "<init>") (hdecl : fin = true → ∀ q : vw_C, vwCl[κ]? = some q → (q.2.1 j).1 = M.1.cls)
    (kk : J d M Post C S (pc + 3) ls st (setR T k j r) I c sl) : J d M Post C S pc ls (.ref r :: .ref k :: st) T I c sl := by
  intro p l e s m args below meth cd G ab T0 ad0 ad ca H locs LS F D hl hv
  obtain ⟨q, hc, hj, hlk, hfin, hty⟩ := hf
  obtain ⟨CC, FF, NN, ty0, h1, h2, h3, h4, h5, -⟩ := kOK_all κ (vwCl_lt hc)
  obtain rfl : q = (CC, FF, NN) := Option.some.inj (hc.symm.trans h1)
  have hk : k < tN T := vs_h (vs_t hv)
  have hrn : r < tN T := vs_h hv
  have he : (cW ad ca T I)[k]? = some (ad k, .inr (κ, (List.range (nF κ)).map (fv ad T I k))) := (cW_at hk).trans (by rw [cE_obj hκ (vwCl_lt hc)])
  have hn : narrow ty (.ref (ad r)) = .ref (ad r) := by rcases hty' with ⟨n, rfl⟩ | ⟨t, rfl⟩ <;> rfl
  have hfit : fits ty (.ref (ad r)) = true := by rcases hty' with ⟨n, rfl⟩ | ⟨t, rfl⟩ <;> rfl
  have go : ∀ (H1 : Heap) (locs1 : List Loc), va_P G vwCl ((cW ad ca T I).set k (ad k, .inr (κ, ((List.range (nF κ)).map (fv ad T I k)).set j (.ref (ad r))))) H1 → va_D (Fr T0 ad0 s.heap.size) ((cW ad ca T I).set k (ad k, .inr (κ, ((List.range (nF κ)).map (fv ad T I k)).set j (.ref (ad r))))) → va_S (Fr T0 ad0 s.heap.size) s.heap H1 locs1 → W p l e (Rm d C S) s m args below meth cd H1 locs1 c sl (MQ below (Qw G T0 ad0 s.heap.size Post) args s C S (Fr T0 ad0 s.heap.size)) (F0 m (pc + 3) LS (st.map (trv ad))) := by
    intro H1 locs1 hP1 hD1 hS1
    have eW : (cW ad ca T I).set k (ad k, .inr (κ, ((List.range (nF κ)).map (fv ad T I k)).set j (.ref (ad r)))) = cW ad ca (setR T k j r) I :=
      cW_set hk rfl (by rw [cE_obj (T := setR T k j r) hκ (vwCl_lt hc), fs_setR (by rw [hκ]; exact hr)]) (fun a ha => cE_setR ha)
    rw [eW] at hP1 hD1
    exact kk p l e s m args below meth cd G ab T0 ad0 ad ca H1 locs1 LS F ⟨hP1, hD1, D.2.2.1, D.2.2.2.1, D.2.2.2.2.1.setR hrn, hS1, D.2.2.2.2.2.2⟩ hl (vs_t (vs_t hv))
  cases fin with
  | false => exact va_put F.1 F.2.1 F.2.2.2.2.1 (fun w hw => List.mem_cons_of_mem _ (h4 w hw)) ty0 h2 h3 F.2.2.2.1 D.2.2.1 D.1 D.2.1 D.2.2.2.2.2.1 k he hc j hj (hasCode F hlk) (fun _ h => h) hfin hty hn hfit (by simp [h5]; exact hj) hd go
  | true => exact va_putF F.1 F.2.1 F.2.2.2.2.1 (fun w hw => List.mem_cons_of_mem _ (h4 w hw)) ty0 h2 h3 F.2.2.2.1 D.2.2.1 D.1 D.2.1 D.2.2.2.2.2.1 k he hc j hj (hasCode F hlk) (fun _ h => h) hfin (F.2.2.2.2.2.2.2.1.trans (hini rfl)) (hdecl rfl _ hc) hty hn hfit (by simp [h5]; exact hj) hd go
theorem J.iaload {k : Nat} {i : Int32} (hd : decode M.2.1 pc = .ok (.iaload, 1)) (hκ : tK T k = 13) (hin : vp_in i (tL T k))
    (kk : J d M Post C S (pc + 1) ls (.int (I k i.toNatClampNeg) :: st) T I c sl) : J d M Post C S pc ls (.int i :: .ref k :: st) T I c sl := by
  intro p l e s m args below meth cd G ab T0 ad0 ad ca H locs LS F D hl hv
  have hk : k < tN T := vs_h (vs_t hv)
  exact va_iald F.1 F.2.1 (D.2.2.2.1.one D.2.2.1 hk (by omega) (by rw [hκ]; rfl)) D.1 k 0 ((cW_at hk).trans (by rw [cE_int (by omega)])) rfl hin hd (kk p l e s m args below meth cd G ab T0 ad0 ad ca H locs LS F D hl (vs_c trivial (vs_t (vs_t hv))))
theorem J.baload {k : Nat} {i : Int32} (hd : decode M.2.1 pc = .ok (.baload, 1)) (hκ : tK T k = 14) (hin : vp_in i (tL T k))
    (kk : J d M Post C S (pc + 1) ls (.int (I k i.toNatClampNeg) :: st) T I c sl) : J d M Post C S pc ls (.int i :: .ref k :: st) T I c sl := by
  intro p l e s m args below meth cd G ab T0 ad0 ad ca H locs LS F D hl hv
  have hk : k < tN T := vs_h (vs_t hv)
  exact va_zald F.1 F.2.1 (D.2.2.2.1.one D.2.2.1 hk (by omega) (by rw [hκ]; rfl)) D.1 k 0 ((cW_at hk).trans (by rw [cE_int (by omega)])) rfl hin hd (kk p l e s m args below meth cd G ab T0 ad0 ad ca H locs LS F D hl (vs_c trivial (vs_t (vs_t hv))))
theorem J.aaload {k r : Nat} {i : Int32} {CC : String} (hd : decode M.2.1 pc = .ok (.aaload, 1)) (hκ : 15 ≤ tK T k) (hty : aTy (tK T k) = .object CC) (hin : vp_in i (tL T k)) (hR : tR T k i.toNatClampNeg = some r)
    (kk : J d M Post C S (pc + 1) ls (.ref r :: st) T I c sl) : J d M Post C S pc ls (.int i :: .ref k :: st) T I c sl := by
  intro p l e s m args below meth cd G ab T0 ad0 ad ca H locs LS F D hl hv
  have hk : k < tN T := vs_h (vs_t hv)
  refine va_aldq F.1 F.2.1 (D.2.2.2.1.one D.2.2.1 hk (by omega) hty) D.1 k 0 ((cW_at hk).trans (by rw [cE_ref hκ])) rfl hin hd ?_
  rw [hR]
  exact kk p l e s m args below meth cd G ab T0 ad0 ad ca H locs LS F D hl (vs_c (D.2.2.2.2.1 k _ r hk hR) (vs_t (vs_t hv)))
theorem J.alen {k : Nat} (hd : decode M.2.1 pc = .ok (.arraylength, 1)) (hκ : 13 ≤ tK T k)
    (kk : J d M Post C S (pc + 1) ls (.int (Int32.ofNat (tL T k)) :: st) T I c sl) : J d M Post C S pc ls (.ref k :: st) T I c sl := by
  intro p l e s m args below meth cd G ab T0 ad0 ad ca H locs LS F D hl hv
  have hk : k < tN T := vs_h hv
  have K1 := kk p l e s m args below meth cd G ab T0 ad0 ad ca H locs LS F D hl (vs_c trivial (vs_t hv))
  by_cases h15 : tK T k < 15
  · exact va_alen (x := (tL T k, .inl (I k))) F.1 F.2.1 (D.2.2.2.1.one D.2.2.1 hk hκ rfl) D.1 k 0 ((cW_at hk).trans (by rw [cE_int (by omega)])) rfl rfl hd K1
  · exact va_alen (x := (tL T k, .inr (.inr (.inr (.inr (fun j => (tR T k j).map ad)))))) F.1 F.2.1 (D.2.2.2.1.one D.2.2.1 hk hκ rfl) D.1 k 0 ((cW_at hk).trans (by rw [cE_ref (by omega)])) rfl rfl hd K1
theorem J.iastore {k : Nat} {i x : Int32} (hd : decode M.2.1 pc = .ok (.iastore, 1)) (hκ : tK T k = 13) (hin : vp_in i (tL T k))
    (kk : J d M Post C S (pc + 1) ls st T (up2 I k i.toNatClampNeg x) c sl) : J d M Post C S pc ls (.int x :: .int i :: .ref k :: st) T I c sl := by
  intro p l e s m args below meth cd G ab T0 ad0 ad ca H locs LS F D hl hv
  have hk : k < tN T := vs_h (vs_t (vs_t hv))
  refine va_iast F.1 F.2.1 (D.2.2.2.1.one D.2.2.1 hk (by omega) (by rw [hκ]; rfl)) D.1 D.2.1 D.2.2.2.2.2.1 k 0 ((cW_at hk).trans (by rw [cE_int (by omega)])) rfl hin hd (fun H1 locs1 hP1 hD1 hS1 => ?_)
  have eW : (cW ad ca T I).set k (ad k, .inl (ca k, tL T k, .inl (upd (I k) i.toNatClampNeg x))) = cW ad ca T (up2 I k i.toNatClampNeg x) :=
    cW_set hk rfl (by rw [cE_int (by omega), up2_eq]) (fun a ha => cE_up2 ha)
  rw [eW] at hP1 hD1
  exact kk p l e s m args below meth cd G ab T0 ad0 ad ca H1 locs1 LS F ⟨hP1, hD1, D.2.2.1, D.2.2.2.1, D.2.2.2.2.1, hS1, D.2.2.2.2.2.2⟩ hl (vs_t (vs_t (vs_t hv)))
theorem J.bastore {k : Nat} {i x : Int32} (hd : decode M.2.1 pc = .ok (.bastore, 1)) (hκ : tK T k = 14) (hin : vp_in i (tL T k)) (hz : x = 0 ∨ x = 1)
    (kk : J d M Post C S (pc + 1) ls st T (up2 I k i.toNatClampNeg x) c sl) : J d M Post C S pc ls (.int x :: .int i :: .ref k :: st) T I c sl := by
  intro p l e s m args below meth cd G ab T0 ad0 ad ca H locs LS F D hl hv
  have hk : k < tN T := vs_h (vs_t (vs_t hv))
  refine va_zast F.1 F.2.1 (D.2.2.2.1.one D.2.2.1 hk (by omega) (by rw [hκ]; rfl)) D.1 D.2.1 D.2.2.2.2.2.1 k 0 ((cW_at hk).trans (by rw [cE_int (by omega)])) rfl hin hd (fun H1 locs1 hP1 hD1 hS1 => ?_)
  have e0 : vp_nar .boolean x = x := by rcases hz with rfl | rfl <;> rfl
  rw [e0] at hP1 hD1
  have eW : (cW ad ca T I).set k (ad k, .inl (ca k, tL T k, .inl (upd (I k) i.toNatClampNeg x))) = cW ad ca T (up2 I k i.toNatClampNeg x) :=
    cW_set hk rfl (by rw [cE_int (by omega), up2_eq]) (fun a ha => cE_up2 ha)
  rw [eW] at hP1 hD1
  exact kk p l e s m args below meth cd G ab T0 ad0 ad ca H1 locs1 LS F ⟨hP1, hD1, D.2.2.1, D.2.2.2.1, D.2.2.2.2.1, hS1, D.2.2.2.2.2.2⟩ hl (vs_t (vs_t (vs_t hv)))
theorem J.aastore {k r κ : Nat} {i : Int32} {q : vw_C} (hd : decode M.2.1 pc = .ok (.aastore, 1)) (hκ : 15 ≤ tK T k) (hc : vwCl[κ]? = some q) (hty : aTy (tK T k) = .object q.1) (hr : tK T r = κ) (hin : vp_in i (tL T k))
    (kk : J d M Post C S (pc + 1) ls st (setR T k i.toNatClampNeg r) I c sl) : J d M Post C S pc ls (.ref r :: .int i :: .ref k :: st) T I c sl := by
  intro p l e s m args below meth cd G ab T0 ad0 ad ca H locs LS F D hl hv
  have hk : k < tN T := vs_h (vs_t (vs_t hv))
  have hrn : r < tN T := vs_h hv
  refine va_astq F.1 F.2.1 (D.2.2.2.1.one D.2.2.1 hk (by omega) hty) D.1 D.2.1 D.2.2.2.2.2.1 k 0 r κ ((cW_at hk).trans (by rw [cE_ref hκ])) rfl ((cW_at hrn).trans (by rw [cE_obj hr (vwCl_lt hc)])) hc hin hd (fun H1 locs1 hP1 hD1 hS1 => ?_)
  have eW : (cW ad ca T I).set k (ad k, .inl (ca k, tL T k, .inr (.inr (.inr (.inr (va_up (fun j => (tR T k j).map ad) i.toNatClampNeg (some (ad r)))))))) = cW ad ca (setR T k i.toNatClampNeg r) I := by
    refine cW_set hk rfl ?_ (fun a ha => cE_setR ha)
    rw [cE_ref (T := setR T k i.toNatClampNeg r) hκ]
    have : (va_up (fun j => (tR T k j).map ad) i.toNatClampNeg (some (ad r))) = (fun j => (tR (setR T k i.toNatClampNeg r) k j).map ad) := by
      funext j
      by_cases hj : j = i.toNatClampNeg
      · subst hj; simp [va_up, setR_R]
      · simp [va_up, setR_R, hj]
    rw [this, setR_L]
  rw [eW] at hP1 hD1
  exact kk p l e s m args below meth cd G ab T0 ad0 ad ca H1 locs1 LS F ⟨hP1, hD1, D.2.2.1, D.2.2.2.1, D.2.2.2.2.1.setR hrn, hS1, D.2.2.2.2.2.2⟩ hl (vs_t (vs_t (vs_t hv)))
end JM
end
section
/-! cells that are made; ends; starts -/
theorem vu_eq {α : Type} (f : Nat → α) (k : Nat) (v : α) : va_up f k v k = v := by simp [va_up]
theorem newT_N (T : Topo) (κ N : Nat) : tN (newT T κ N) = tN T + 1 := rfl
theorem newT_K (T : Topo) (κ N a : Nat) : tK (newT T κ N) a = if a = tN T then κ else tK T a := rfl
theorem newT_L (T : Topo) (κ N a : Nat) : tL (newT T κ N) a = if a = tN T then N else tL T a := rfl
theorem newT_R (T : Topo) (κ N a b : Nat) : tR (newT T κ N) a b = if a = tN T then none else tR T a b := by
  show (if a = tN T then (fun _ => none) else T.2.2.2 a) b = _
  split <;> rfl
theorem newI_at (I : IM) (n a b : Nat) : newI I n a b = if a = n then 0 else I a b := by
  show (if a = n then (fun _ => 0) else I a) b = _
  split <;> rfl
theorem cE_new {ad : Nat → Nat} {ca : Nat → ClassId} {T : Topo} {I : IM} {κ N q j : Nat} {cA : ClassId} (hr : rOK T) (hj : j < tN T) : cE (va_up ad (tN T) q) (va_up ca (tN T) cA) (newT T κ N) (newI I (tN T)) j = cE ad ca T I j := by
  have hne : ¬ j = tN T := by omega
  have eR : ∀ i, (tR (newT T κ N) j i).map (va_up ad (tN T) q) = (tR T j i).map ad := by
    intro i
    rw [newT_R, if_neg hne]
    cases h : tR T j i with
    | none => rfl
    | some r =>
      have := hr j i r hj h
      simp only [Option.map_some]
      rw [va_up_ne _ _ (by omega)]
  have eK : tK (newT T κ N) j = tK T j := by rw [newT_K, if_neg hne]
  have eL : tL (newT T κ N) j = tL T j := by rw [newT_L, if_neg hne]
  have eI : newI I (tN T) j = I j := by funext b; rw [newI_at, if_neg hne]
  have ef : fv (va_up ad (tN T) q) (newT T κ N) (newI I (tN T)) j = fv ad T I j := by
    funext i
    simp only [fv, eK, eR, eI]
  simp only [cE, ef, eK, eL, eI, eR, va_up_ne _ _ hne]
theorem rOK.newT {T : Topo} {κ N : Nat} (h : rOK T) : rOK (newT T κ N) := by
  intro a b q ha hq
  rw [newT_R] at hq
  rw [newT_N] at ha ⊢
  split at hq
  · cases hq
  · have := h a b q (by omega) hq
    omega
theorem aOK.newO {ca : Nat → ClassId} {T : Topo} {s : State} {κ N : Nat} {cA : ClassId} (h : aOK ca T s) (hκ : κ < 13) : aOK (va_up ca (tN T) cA) (newT T κ N) s := by
  intro k hk h13
  rw [newT_N] at hk
  rw [newT_K] at h13 ⊢
  by_cases e : k = tN T
  · rw [if_pos e] at h13; omega
  · rw [if_neg e] at h13 ⊢
    rw [va_up_ne _ _ e]
    exact h k (by omega) h13
theorem aOK.newA {ca : Nat → ClassId} {T : Topo} {s : State} {κ N : Nat} {cA : ClassId} (h : aOK ca T s) (hA : ArrOfT s cA (aTy κ) ∧ va_RA s cA (aTy κ)) : aOK (va_up ca (tN T) cA) (newT T κ N) s := by
  intro k hk h13
  rw [newT_N] at hk
  rw [newT_K] at h13 ⊢
  by_cases e : k = tN T
  · rw [if_pos e]; subst e; rw [vu_eq]; exact hA
  · rw [if_neg e] at h13 ⊢
    rw [va_up_ne _ _ e]
    exact h k (by omega) h13
/-- what follows a new cell -/
theorem Dy.new {G : va_G} {s : State} {A : Nat → Prop} {T0 T : Topo} {ad0 ad : Nat → Nat} {I : IM} {ca : Nat → ClassId} {H H1 : Heap} {locs : List Loc} {κ N q : Nat} {cA : ClassId} {e : va_E} (D : Dy G s A T0 ad0 T I ad ca H locs) (he : e = cE (va_up ad (tN T) q) (va_up ca (tN T) cA) (newT T κ N) (newI I (tN T)) (tN T)) (hA : aOK (va_up ca (tN T) cA) (newT T κ N) s)
    (hP : va_P G vwCl (cW ad ca T I ++ [(q, e)]) H1) (hD : va_D A (cW ad ca T I ++ [(q, e)])) (hS : va_S A s.heap H1 locs) : Dy G s A T0 ad0 (newT T κ N) (newI I (tN T)) (va_up ad (tN T) q) (va_up ca (tN T) cA) H1 locs := by
  have eW := cW_push (ad := ad) (ca := ca) (T := T) (T' := newT T κ N) (I := I) (I' := newI I (tN T)) (q := q) (cA := cA) rfl he (fun j hj => cE_new D.2.2.2.2.1 hj)
  rw [eW] at hP hD
  have hn := D.2.2.2.2.2.2.1
  exact ⟨hP, hD, D.2.2.1, hA, D.2.2.2.2.1.newT, hS, by rw [newT_N]; omega, fun k hk => by rw [va_up_ne _ _ (by omega)]; exact D.2.2.2.2.2.2.2 k hk⟩
/-- number idx of class own's pool is the class of kind κ -/
def cLk (own : String) (idx κ : Nat) : Prop := ∃ q : vw_C, vwCl[κ]? = some q ∧ Cond.classLink own idx q.1 ∈ TBg ∧ Cond.instantiable q.1 q.2.2 ∈ TBg ∧ Cond.initialized q.1 ∈ TBg
section JN
variable {d : Nat} {M : Mth} {Post : Pst} {C S pc c sl : Nat} {ls : List (Option Value)} {st : List Value} {T : Topo} {I : IM}
theorem J.newarr {n : Int32} {N κ : Nat} {aty : ArrayType} (hd : decode M.2.1 pc = .ok (.newarray aty, 2)) (hw : Cond.arrayClass (newarray.typeOf aty) ∈ TBg) (hty : newarray.typeOf aty = aTy κ) (hκ : κ = 13 ∨ κ = 14) (hn : ¬ n < 0) (hN : n.toNatClampNeg = N) (hb : N * componentBytes (aTy κ) ≤ 536870912) (hc : c + 1 ≤ C) (hs : sl + N ≤ S)
    (kk : J d M Post C S (pc + 2) ls (.ref (tN T) :: st) (newT T κ N) (newI I (tN T)) (c + 1) (sl + N)) : J d M Post C S pc ls (.int n :: st) T I c sl := by
  intro p l e s m args below meth cd G ab T0 ad0 ad ca H locs LS F D hl hv
  refine va_newa (a0 := (N, .inl (fun _ => 0))) F.1 F.2.1 (hasCode F hw) hty D.2.2.1 D.1 D.2.1 D.2.2.2.2.2.1 F.2.2.2.2.2.2.2.2.2.2 ?_ hn hN hb hc hs hd (fun q cA H1 hK1 hP1 hD1 hS1 => ?_)
  · intro cA
    rcases hκ with rfl | rfl <;> rfl
  · have hA := hK1.2 0 (cA, aTy κ) rfl
    have D1 : Dy G s (Fr T0 ad0 s.heap.size) T0 ad0 (newT T κ N) (newI I (tN T)) (va_up ad (tN T) q) (va_up ca (tN T) cA) H1 locs := by
      refine D.new (q := q) (cA := cA) ?_ (D.2.2.2.1.newA hA) hP1 hD1 hS1
      have hk : tK (newT T κ N) (tN T) = κ := by rw [newT_K, if_pos rfl]
      have hL : tL (newT T κ N) (tN T) = N := by rw [newT_L, if_pos rfl]
      have hI : newI I (tN T) (tN T) = fun _ => 0 := by funext b; rw [newI_at, if_pos rfl]
      rw [cE_int (by rw [hk]; exact hκ), hL, hI, vu_eq]
    have K1 := kk p l e s m args below meth cd G ab T0 ad0 _ _ H1 locs LS F D1 (hl.ad (by rw [newT_N]; omega) (fun k hk => va_up_ne _ _ (by omega))) (vs_c (by show tN T < tN T + 1; omega) (fun v hm => (vs_t hv v hm).mono (by rw [newT_N]; omega)))
    rw [List.map_cons, trv_map (ad := ad) (fun k hk => va_up_ne _ _ (by omega)) (vs_t hv)] at K1
    simp only [trv, vu_eq] at K1
    exact K1
theorem J.anew {n : Int32} {N κ idx : Nat} {CC : String} (hd : decode M.2.1 pc = .ok (.anewarray idx, 3)) (hlk : Cond.classLink M.1.cls idx CC ∈ TBg) (hov : Cond.arrayOver (.object CC) ∈ lw_tbl) (hty : aTy κ = .object CC) (hκ : 15 ≤ κ) (hn : ¬ n < 0) (hN : n.toNatClampNeg = N) (hb : N * 4 ≤ 536870912) (hc : c + 1 ≤ C) (hs : sl + N ≤ S)
    (kk : J d M Post C S (pc + 3) ls (.ref (tN T) :: st) (newT T κ N) (newI I (tN T)) (c + 1) (sl + N)) : J d M Post C S pc ls (.int n :: st) T I c sl := by
  intro p l e s m args below meth cd G ab T0 ad0 ad ca H locs LS F D hl hv
  refine va_newq F.1 F.2.1 F.2.2.2.1 (hasCode F hlk) (F.2.2.2.2.2.2.2.2.1 _ hov rfl) D.2.2.1 D.1 D.2.1 D.2.2.2.2.2.1 F.2.2.2.2.2.2.2.2.2.2 hn hN hb hc hs hd (fun q cA H1 hK1 hP1 hD1 hS1 => ?_)
  have hA := hK1.2 0 (cA, .object CC) rfl
  have D1 : Dy G s (Fr T0 ad0 s.heap.size) T0 ad0 (newT T κ N) (newI I (tN T)) (va_up ad (tN T) q) (va_up ca (tN T) cA) H1 locs := by
    refine D.new (q := q) (cA := cA) ?_ (D.2.2.2.1.newA (by rw [hty]; exact hA)) hP1 hD1 hS1
    have hk : tK (newT T κ N) (tN T) = κ := by rw [newT_K, if_pos rfl]
    have hL : tL (newT T κ N) (tN T) = N := by rw [newT_L, if_pos rfl]
    have hR : (fun j => (tR (newT T κ N) (tN T) j).map (va_up ad (tN T) q)) = fun _ => none := by funext b; rw [newT_R, if_pos rfl]; rfl
    rw [cE_ref (by rw [hk]; exact hκ), hL, hR, vu_eq]
  have K1 := kk p l e s m args below meth cd G ab T0 ad0 _ _ H1 locs LS F D1 (hl.ad (by rw [newT_N]; omega) (fun k hk => va_up_ne _ _ (by omega))) (vs_c (by show tN T < tN T + 1; omega) (fun v hm => (vs_t hv v hm).mono (by rw [newT_N]; omega)))
  rw [List.map_cons, trv_map (ad := ad) (fun k hk => va_up_ne _ _ (by omega)) (vs_t hv)] at K1
  simp only [trv, vu_eq] at K1
  exact K1
theorem J.new {κ idx : Nat} (hd : decode M.2.1 pc = .ok (.new idx, 3)) (hlk : cLk M.1.cls idx κ) (hc : c + 1 ≤ C) (hs : sl + nF κ ≤ S)
    (kk : J d M Post C S (pc + 3) ls (.ref (tN T) :: st) (newT T κ 0) (newI I (tN T)) (c + 1) (sl + nF κ)) : J d M Post C S pc ls st T I c sl := by
  intro p l e s m args below meth cd G ab T0 ad0 ad ca H locs LS F D hl hv
  obtain ⟨q0, hq, hl1, hl2, hl3⟩ := hlk
  have hκ := vwCl_lt hq
  obtain ⟨CC, FF, NN, ty0, h1, h2, h3, h4, h5, h6⟩ := kOK_all κ hκ
  obtain rfl : q0 = (CC, FF, NN) := Option.some.inj (hq.symm.trans h1)
  rw [h5] at hs kk
  refine va_new (ci := κ) (fs := (List.range NN).map (fun j => if rF κ j = true then Value.null else .int 0)) F.1 F.2.1 F.2.2.2.2.1 (fun w hw => List.mem_cons_of_mem _ (h4 w hw)) ty0 h2 F.2.2.2.1 (hasCode F hl1) (hasCode F hl2) (hasCode F hl3) D.2.2.1 D.1 D.2.1 D.2.2.2.2.2.1 F.2.2.2.2.2.2.2.2.2.2 hq (fun j hj => ?_) hc hs hd (fun q H1 hP1 hD1 hS1 => ?_)
  · rw [h6 j hj]
    simp [vp_V, hj]
  · have D1 : Dy G s (Fr T0 ad0 s.heap.size) T0 ad0 (newT T κ 0) (newI I (tN T)) (va_up ad (tN T) q) (va_up ca (tN T) 0) H1 locs := by
      refine D.new (q := q) (cA := 0) ?_ (D.2.2.2.1.newO hκ) hP1 hD1 hS1
      have hk : tK (newT T κ 0) (tN T) = κ := by rw [newT_K, if_pos rfl]
      rw [cE_obj hk hκ, h5]
      have : (fun j => if rF κ j = true then Value.null else Value.int 0) = fv (va_up ad (tN T) q) (newT T κ 0) (newI I (tN T)) (tN T) := by
        funext j
        simp only [fv, hk, newT_R, newI_at, if_true, Option.map_none, va_rf]
      rw [this]
    have K1 := kk p l e s m args below meth cd G ab T0 ad0 _ _ H1 locs LS F D1 (hl.ad (by rw [newT_N]; omega) (fun k hk => va_up_ne _ _ (by omega))) (vs_c (by show tN T < tN T + 1; omega) (fun v hm => (hv v hm).mono (by rw [newT_N]; omega)))
    rw [List.map_cons, trv_map (ad := ad) (fun k hk => va_up_ne _ _ (by omega)) hv] at K1
    simp only [trv, vu_eq] at K1
    exact K1
theorem J.iret {v : Int32} (hd : decode M.2.1 pc = .ok (.ireturn, 1)) (hr : M.2.2.2 = some .int) (hc : c ≤ C) (hs : sl ≤ S) (hp : Post (some (.int v)) T I) : J d M Post C S pc ls [.int v] T I c sl := by
  intro p l e s m args below meth cd G ab T0 ad0 ad ca H locs LS F D hl hv
  exact W.widen hc hs (W.iret F.1 F.2.1 (F.2.2.2.2.2.1.trans hr) (fun t ht hW => ⟨⟨some (.int v), T, I, ad, ca, rfl, hp, D.2.2.2.2.2.2.1, D.2.2.2.2.2.2.2, fun w hw => by cases hw; trivial, by rw [ht]; exact D.1, D.2.1, D.2.2.2.1.moved hW.alike, D.2.2.2.2.1⟩, D.2.2.2.2.2.1.F ht⟩) (fun q hq => D.2.2.2.2.2.1.2.2 q hq) hd F.2.2.2.2.2.2.1)
theorem J.zret {v : Int32} (hd : decode M.2.1 pc = .ok (.ireturn, 1)) (hr : M.2.2.2 = some .boolean) (hz : v = 0 ∨ v = 1) (hc : c ≤ C) (hs : sl ≤ S) (hp : Post (some (.int v)) T I) : J d M Post C S pc ls [.int v] T I c sl := by
  intro p l e s m args below meth cd G ab T0 ad0 ad ca H locs LS F D hl hv
  exact W.widen hc hs (W.zret F.1 F.2.1 (F.2.2.2.2.2.1.trans hr) (by rcases hz with rfl | rfl <;> rfl) (fun t ht hW => ⟨⟨some (.int v), T, I, ad, ca, rfl, hp, D.2.2.2.2.2.2.1, D.2.2.2.2.2.2.2, fun w hw => by cases hw; trivial, by rw [ht]; exact D.1, D.2.1, D.2.2.2.1.moved hW.alike, D.2.2.2.2.1⟩, D.2.2.2.2.2.1.F ht⟩) (fun q hq => D.2.2.2.2.2.1.2.2 q hq) hd F.2.2.2.2.2.2.1)
theorem J.vret (hd : decode M.2.1 pc = .ok (.return_, 1)) (hr : M.2.2.2 = none) (hc : c ≤ C) (hs : sl ≤ S) (hp : Post none T I) : J d M Post C S pc ls [] T I c sl := by
  intro p l e s m args below meth cd G ab T0 ad0 ad ca H locs LS F D hl hv
  exact W.widen hc hs (W.vret F.1 F.2.1 (F.2.2.2.2.2.1.trans hr) (fun t ht hW => ⟨⟨none, T, I, ad, ca, rfl, hp, D.2.2.2.2.2.2.1, D.2.2.2.2.2.2.2, (fun w hw => by cases hw), by rw [ht]; exact D.1, D.2.1, D.2.2.2.1.moved hW.alike, D.2.2.2.2.1⟩, D.2.2.2.2.2.1.F ht⟩) (fun q hq => D.2.2.2.2.2.1.2.2 q hq) hd F.2.2.2.2.2.2.1)
theorem J.aret {k : Nat} {ty : FieldType} (hd : decode M.2.1 pc = .ok (.areturn, 1)) (hr : M.2.2.2 = some ty) (hty : (∃ n, ty = .object n) ∨ ∃ t, ty = .array t) (hc : c ≤ C) (hs : sl ≤ S) (hp : Post (some (.ref k)) T I) : J d M Post C S pc ls [.ref k] T I c sl := by
  intro p l e s m args below meth cd G ab T0 ad0 ad ca H locs LS F D hl hv
  exact W.widen hc hs (W.aret F.1 F.2.1 (F.2.2.2.2.2.1.trans hr) hty (Or.inr ⟨_, rfl⟩) (fun t ht hW => ⟨⟨some (.ref k), T, I, ad, ca, rfl, hp, D.2.2.2.2.2.2.1, D.2.2.2.2.2.2.2, fun w hw => by cases hw; exact vs_h hv, by rw [ht]; exact D.1, D.2.1, D.2.2.2.1.moved hW.alike, D.2.2.2.2.1⟩, D.2.2.2.2.2.1.F ht⟩) (fun q hq => D.2.2.2.2.2.1.2.2 q hq) hd F.2.2.2.2.2.2.1)
/-- the parent of a kind, as the class reads it: getstatic, iload_2, iaload -/
theorem J.above {idx : Nat} {x : Int32} {host : String} (hd : decode M.2.1 pc = .ok (.getstatic idx, 3)) (hd2 : decode M.2.1 (pc + 3) = .ok (.iload_n 2, 1)) (hd3 : decode M.2.1 (pc + 3 + 1) = .ok (.iaload, 1)) (hlk : Cond.fieldLinkNest M.1.cls idx "SliceSeller" "ABOVE" "[I" host ∈ lw_tbl) (hx : ls[2]? = some (some (.int x))) (hin : vp_in x 5)
    (kk : J d M Post C S (pc + 3 + 1 + 1) ls (.int (abv x.toNatClampNeg) :: st) T I c sl) : J d M Post C S pc ls st T I c sl := by
  intro p l e s m args below meth cd G ab T0 ad0 ad ca H locs LS F D hl hv
  obtain ⟨hZ, hX, hlt, hA⟩ := F.2.2.2.2.2.2.2.2.2.1
  refine va_getsN F.1 F.2.1 hZ D.2.2.2.2.2.1 F.2.2.2.1 (va_Nw.use rfl (F.2.2.2.2.2.2.2.2.1 _ hlk rfl)) (fun _ h => h) hd ?_
  refine lv_iload_n F.1 F.2.1 hd2 rfl (hl.2.2.2 2 _ hx).1 ?_
  exact va_sld F.1 F.2.1 hX hlt hA D.2.2.2.2.2.1 hin hd3 (kk p l e s m args below meth cd G ab T0 ad0 ad ca H locs LS F D hl (vs_c trivial hv))
theorem lg_sl_1 : ∀ (vs : List Value), (∀ v ∈ vs, v.category = 1) → lg_sl vs = vs.map Slot.val
  | [], _ => rfl
  | v :: vs, h => by
    have h1 := h v List.mem_cons_self
    have ih := lg_sl_1 vs (fun w hw => h w (List.mem_cons_of_mem _ hw))
    unfold lg_sl at ih ⊢
    rw [List.flatMap_cons, ih, if_neg (by omega)]
    rfl
theorem Ct.ofJ {vs : List Value} {mc ms : Nat} (hy : plainName M.1.cls = true) (hlen : Nat.ble vs.length M.2.2.1 = true) (hcat : ∀ v ∈ vs, v.category = 1) (hls : ls = vs.map some ++ List.replicate (M.2.2.1 - vs.length) none) (h : J d M Post mc ms 0 ls [] T I 0 0) : Ct d M vs T I mc ms Post := by
  subst hls
  intro l G ab ad ca sz
  refine Met.ofW (cc := M.2.1) (maxL := M.2.2.1) (ret := M.2.2.2) hy rfl ?_
  intro p e s m args below meth cd s₁ B hml hv
  obtain ⟨rfl, hsz, hP, hD, hK, hA, hR, hAb, hN, hvs⟩ := hv
  subst hsz
  have hlen' : vs.length ≤ M.2.2.1 := Nat.le_of_ble_eq_true hlen
  have hcat' : ∀ v ∈ vs.map (trv ad), v.category = 1 := by
    intro v hm
    obtain ⟨w, hw, rfl⟩ := List.mem_map.mp hm
    exact (trv_cat ad w).trans (hcat w hw)
  have e1 : lg_sl (vs.map (trv ad)) = (vs.map (trv ad)).map Slot.val := lg_sl_1 _ hcat'
  have hle := lv_entry (vs.map (trv ad)) (n := M.2.2.1) (by rw [e1]; simpa using hlen')
  rw [lg_entry_eq]
  have hfin := h p l e s m (vs.map (trv ad)).toArray below meth cd G ab T ad ad ca s.heap [] ((lg_sl (vs.map (trv ad)) ++ List.replicate (M.2.2.1 - (lg_sl (vs.map (trv ad))).length) Slot.unset).toArray)
    ⟨B.exec, B.bytes, hml, findClass_of_methodNamed B.named, atoms_spec (ws := wd M) B.pre, B.returns, B.notSynchronized, (name_of_methodNamed B.named B.method).1, hN, hAb, fun q h => Or.inr h⟩
    ⟨hP, hD.weaken (fun k q hq _ => Or.inl ⟨k, (cW_of hq).1, by rw [(cW_of hq).2]⟩), hK, hA, hR, va_S.rf, Nat.le_refl _, fun _ _ => rfl⟩
    ⟨hle.1, hle.2.1, by simp; omega, fun i v hi => ?_⟩ (fun v hv => by cases hv)
  · exact hfin
  · have hi' : i < vs.length := by
      rcases Nat.lt_or_ge i vs.length with q | q
      · exact q
      · rw [List.getElem?_append_right (by simpa using q)] at hi
        have := List.mem_of_getElem? hi
        rw [List.mem_replicate] at this
        cases this.2
    rw [List.getElem?_append_left (by simpa using hi'), List.getElem?_map] at hi
    cases hx : vs[i]? with
    | none => rw [hx] at hi; cases hi
    | some w =>
      rw [hx] at hi
      cases hi
      refine ⟨?_, hcat v (List.mem_of_getElem? hx), hvs v (List.mem_of_getElem? hx)⟩
      rw [e1]
      rw [← Array.getElem?_toList]
      simp only [List.toList_toArray]
      rw [List.getElem?_append_left (by simpa using hi')]
      simp [hx]
end JN
end
section
/-! calls -/
def mLk (own : String) (idx : Nat) (y : MethodName) : Prop := Cond.methodLink own idx y ∈ TBg ∨ ∃ host, Cond.methodLinkNest own idx y host ∈ lw_tbl
def yOK (M : Mth) (n : Nat) : Prop := mIn M ∧ Cond.initialized M.1.cls ∈ TBg ∧ (M.1.cls ≠ "java/lang/invoke/MethodHandle" ∧ M.1.cls ≠ "java/lang/invoke/VarHandle" ∧ (parseMethodDescriptor M.1.desc).map (fun d => d.parameters.length) = some n) ∧ M.2.2.1 ≤ 41
def vMeth (M : Mth) : Prop := Cond.instanceMethod M.1 ∈ TBg ∧ Cond.selects M.1.cls M.1 M.1 ∈ TBg
def sMeth (M : Mth) : Prop := Cond.static M.1 ∈ TBg
def iMeth (M : Mth) : Prop := M.1.name = "<init>" ∧ Cond.instanceMethod M.1 ∈ TBg
theorem Abv.call {ab : Nat} {A B : Nat → Prop} {s U : State} {H : Heap} {locs : List Loc} (h : Abv ab A s s.heap) (hS : va_S A s.heap H locs) (hB : ∀ q, B q → A q) (hal : s.vm.Alike U.vm) (hU : U.heap = H) : Abv ab B U U.heap := by
  subst hU
  obtain ⟨hZ, hX, hlt, hA⟩ := h
  exact ⟨((hZ.kept hS.2.1).narrow hB).moved hal, (hX.kept (hS.2.1 ab hlt hA)).moved hal, Nat.lt_of_lt_of_le hlt hS.1, fun q => hA (hB _ q)⟩
theorem Abv.moved {ab : Nat} {A : Nat → Prop} {s U : State} {H : Heap} (h : Abv ab A s H) (hal : s.vm.Alike U.vm) : Abv ab A U H := ⟨h.1.moved hal, h.2.1.moved hal, h.2.2⟩
theorem Pw_blind {G : va_G} {ab : Nat} {vs : List Value} {T : Topo} {I : IM} {ad : Nat → Nat} {ca : Nat → ClassId} {sz : Nat} : FrameBlind (Pw G ab vs T I ad ca sz) := by
  intro a U g mk h
  obtain ⟨h1, h2, h3, h4, h5, h6, h7, h8, h9, h10⟩ := h
  exact ⟨h1, h2, h3, h4, va_K.moved (u := U) (U := U.calling g mk a) (Vm.Alike.refl U.vm) h5, aOK.moved (u := U) (U := U.calling g mk a) (Vm.Alike.refl U.vm) h6, h7, Abv.moved (s := U) (U := U.calling g mk a) h8 (Vm.Alike.refl U.vm), NestOK.same (u := U) (U := U.calling g mk a) rfl h9, h10⟩
theorem Fr_sub {G : va_G} {s : State} {A : Nat → Prop} {T0 T : Topo} {ad0 ad : Nat → Nat} {I : IM} {ca : Nat → ClassId} {H : Heap} {locs : List Loc} (D : Dy G s A T0 ad0 T I ad ca H locs) (hA : ∀ q, s.heap.size ≤ q → A q) : ∀ q, Fr T ad H.size q → A q := by
  rintro q (⟨k, hk, rfl⟩ | h)
  · exact D.2.1.2 k _ (cW_at hk)
  · exact hA q (Nat.le_trans D.2.2.2.2.2.1.1 h)
theorem Pw_at {M : Mth} {p : Program} {s U : State} {m : MethodId} {args : Array Value} {meth : Method} {cd : Code} {G : va_G} {ab : Nat} {A : Nat → Prop} {T0 T : Topo} {ad0 ad : Nat → Nat} {I : IM} {ca : Nat → ClassId} {H : Heap} {locs : List Loc} {vs : List Value} (F : Fx M p s m args meth cd ab A) (D : Dy G s A T0 ad0 T I ad ca H locs) (hvs : ∀ v ∈ vs, vOK (tN T) v) (hU : U.heap = H) (hW : s.WarmedH U.vm) : Pw G ab vs T I ad ca H.size (vs.map (trv ad)).toArray U := by
  refine ⟨rfl, by rw [hU], by rw [hU]; exact D.1, D.2.1.weaken (fun _ _ _ _ => trivial), va_K.moved hW.alike D.2.2.1, D.2.2.2.1.moved hW.alike, D.2.2.2.2.1, F.2.2.2.2.2.2.2.2.2.1.call D.2.2.2.2.2.1 (Fr_sub D F.2.2.2.2.2.2.2.2.2.2) hW.alike hU, F.2.2.2.2.2.2.2.2.1.warm hW, hvs⟩
section JC
variable {d : Nat} {M : Mth} {Post : Pst} {C S pc c sl : Nat} {ls : List (Option Value)} {st : List Value} {T : Topo} {I : IM}
theorem J_after {p : Program} {l : Launch} {e : Env} {s : State} {m : MethodId} {args : Array Value} {below : List Frame} {meth : Method} {cd : Code} {G : va_G} {ab : Nat} {T0 : Topo} {ad0 ad : Nat → Nat} {ca : Nat → ClassId} {H : Heap} {locs : List Loc} {LS : Array Slot} {g : List Value} {rest : List Value} {a : Array Value} {mc ms : Nat} {P' : Pst}
    (hr : va_Run p l e (Rm d C S) s m args below meth cd H locs c sl mc ms (F0 m pc LS g) (rest.map (trv ad)) (Qw G T ad H.size P' a) (Fr T ad H.size))
    (F : Fx M p s m args meth cd ab (Fr T0 ad0 s.heap.size)) (D : Dy G s (Fr T0 ad0 s.heap.size) T0 ad0 T I ad ca H locs) (hl : lvO LS M.2.2.1 ls ad (tN T)) (hv : ∀ v ∈ rest, vOK (tN T) v)
    (kk : ∀ r T' I', P' r T' I' → J d M Post C S (pc + 3) ls (r.toList ++ rest) T' I' (c + mc) (sl + ms)) :
    W p l e (Rm d C S) s m args below meth cd H locs c sl (MQ below (Qw G T0 ad0 s.heap.size Post) args s C S (Fr T0 ad0 s.heap.size)) (F0 m pc LS g) := by
  intro Tm hT X
  obtain ⟨v, st₀, t, T', L, h0, X', hL, e1, e2, ⟨⟨r, T2, I2, ad2, ca2, hv2, hp, hn2, had, hrv, hP, hD, hA, hR⟩, hz, hk⟩, stp⟩ := hr Tm hT X
  rw [h0] at hz hk
  cases hv2
  have hsub := Fr_sub D F.2.2.2.2.2.2.2.2.2.2
  have hal : t.vm.Alike s.vm := by rw [← e2]; exact X'.warmed.alike.symm
  have hS := D.2.2.2.2.2.1
  have D2 : Dy G s (Fr T0 ad0 s.heap.size) T0 ad0 T2 I2 ad2 ca2 T'.heap (locs ++ L) := by
    refine ⟨by rw [e1]; exact hP, hD.weaken (fun k q _ h => hsub _ h), D.2.2.1, hA.moved hal, hR, ⟨Nat.le_trans hS.1 (by rw [e1]; exact hz), fun q h1 h2 => ?_, fun q hq => ?_⟩, Nat.le_trans D.2.2.2.2.2.2.1 hn2, fun k hk0 => by rw [had k (Nat.lt_of_lt_of_le hk0 D.2.2.2.2.2.2.1)]; exact D.2.2.2.2.2.2.2 k hk0⟩
    · rw [e1, hk q (Nat.lt_of_lt_of_le h1 hS.1) (fun z => h2 (hsub q z))]
      exact hS.2.1 q h1 h2
    · rcases List.mem_append.mp hq with h | h
      · exact hS.2.2 q h
      · exact hsub _ (hL q h)
  have hst : ∀ w ∈ r.toList ++ rest, vOK (tN T2) w := by
    intro w hw
    rcases List.mem_append.mp hw with h | h
    · exact hrv w (by simpa using h)
    · exact (hv w h).mono hn2
  obtain ⟨t2, a1, b1⟩ := kk r T2 I2 hp p l e s m args below meth cd G ab T0 ad0 ad2 ca2 T'.heap (locs ++ L) LS F D2 (hl.ad hn2 had) hst T' rfl X'
  refine ⟨t2, stp t2 ?_, b1⟩
  have ef : (r.toList ++ rest).map (trv ad2) = (r.map (trv ad2)).toList ++ rest.map (trv ad) := by
    rw [List.map_append, trv_map had hv]
    cases r <;> rfl
  rw [ef] at a1
  exact a1
theorem room_d {d d' L : Nat} (h : d' + 1 ≤ d) (hL : L ≤ 41) : 8 + (L + 11) + 60 * d' ≤ 60 * d := by omega
theorem cat_map (ad : Nat → Nat) (rest : List Value) : ((rest.map (trv ad)).map fun v => v.category).sum = (rest.map fun v => v.category).sum := by
  rw [List.map_map]
  congr 1
  exact List.map_congr_left fun v _ => trv_cat ad v
theorem J.callV {M' : Mth} {n idx d' mc ms : Nat} {k : Nat} {as rest : List Value} {P' : Pst} {κ : Nat} {q : vw_C} (hκ : tK T k = κ) (hq : vwCl[κ]? = some q) (hqC : q.1 = M'.1.cls)
    (hd : decode M.2.1 pc = .ok (.invokevirtual idx, 3)) (hy : yOK M' n) (hvm : vMeth M') (hlk : mLk M.1.cls idx M'.1) (hst : st = as.reverse ++ .ref k :: rest) (hn : as.length = n) (hrest : Nat.ble ((rest.map fun v => v.category).sum) 8 = true) (hdep : d' + 1 ≤ d) (hc : c + mc ≤ C) (hs : sl + ms ≤ S)
    (hM : Ct d' M' (.ref k :: as) T I mc ms P')
    (kk : ∀ r T' I', P' r T' I' → J d M Post C S (pc + 3) ls (r.toList ++ rest) T' I' (c + mc) (sl + ms)) : J d M Post C S pc ls st T I c sl := by
  intro p l e s m args below meth cd G ab T0 ad0 ad ca H locs LS F D hl hv
  obtain ⟨hmi, hini, hnm, hL⟩ := hy
  have hvr : ∀ v ∈ rest, vOK (tN T) v := fun v hm => hv v (by rw [hst]; simp [hm])
  have hrest' : ((rest.map (trv ad)).map fun v => v.category).sum ≤ 8 := by rw [cat_map]; exact Nat.le_of_ble_eq_true hrest
  have hsk : st.map (trv ad) = (as.map (trv ad)).reverse ++ .ref (ad k) :: rest.map (trv ad) := by rw [hst, List.map_append, List.map_reverse, List.map_cons]; rfl
  have hvk : ∀ v ∈ (.ref k :: as : List Value), vOK (tN T) v := fun v hm => hv v (by rw [hst]; rcases List.mem_cons.mp hm with h | h <;> simp [h])
  have hts := F.2.2.2.2.1
  have hG : GoodIn (wd M) (wd M') := wd_good hmi
  have hFx : CallFix p m cd M.2.1 M.2.2.1 s args (wd M) M.1.cls := ⟨F.1, F.2.1, F.2.2.1, F.2.2.2.1, hts⟩
  have hR : (Rm d' mc ms).frames + 1 ≤ (Rm d C S).frames ∧ 8 + (M'.2.2.1 + 11) + (Rm d' mc ms).locals ≤ (Rm d C S).locals := ⟨hdep, room_d hdep hL⟩
  refine J_after (g := st.map (trv ad)) (rest := rest) (a := ((.ref k :: as : List Value).map (trv ad)).toArray) (P' := P') ?_ F D hl hvr kk
  rcases hlk with hlk | ⟨host, hlk⟩
  · have hrv : ∃ cellB : Cell, H[ad k]? = some cellB ∧ cellB.vm.isStatics = false ∧ s.vm.findClass M'.1.cls = some cellB.cls := by
      have h1 := va_recv D.2.2.1 D.1 hq ((cW_at (vs_h hvk)).trans (by rw [cE_obj hκ (vwCl_lt hq)]))
      rwa [hqC] at h1
    exact va_runV hFx (hM l G ab ad ca H.size) ⟨callB_of n hts hG rfl rfl rfl (hasCode F hini) (hasCode F hlk) hnm hR, hasCode F hvm.1, hasCode F hvm.2⟩ ⟨Pw_blind, hrv, fun U hU hW => Pw_at F D hvk hU hW⟩ rfl ((List.length_map _).trans hn) hl.1 hsk (lv_room hrest') hd ⟨hc, hs⟩
  · have hrv : ∃ cellB : Cell, H[ad k]? = some cellB ∧ cellB.vm.isStatics = false ∧ s.vm.findClass M'.1.cls = some cellB.cls := by
      have h1 := va_recv D.2.2.1 D.1 hq ((cW_at (vs_h hvk)).trans (by rw [cE_obj hκ (vwCl_lt hq)]))
      rwa [hqC] at h1
    exact va_runVN hFx (hM l G ab ad ca H.size) ⟨va_cnB n hts hG rfl rfl rfl (F.2.2.2.2.2.2.2.2.1 _ hlk rfl) (hasCode F hini) hnm hR, hasCode F hvm.1, hasCode F hvm.2⟩ ⟨Pw_blind, hrv, fun U hU hW => Pw_at F D hvk hU hW⟩ rfl ((List.length_map _).trans hn) hl.1 hsk (lv_room hrest') hd ⟨hc, hs⟩
theorem J.callS {M' : Mth} {n idx d' mc ms : Nat} {as rest : List Value} {P' : Pst} 
    (hd : decode M.2.1 pc = .ok (.invokestatic idx, 3)) (hy : yOK M' n) (hvm : sMeth M') (hlk : mLk M.1.cls idx M'.1) (hst : st = as.reverse ++ rest) (hn : as.length = n) (hrest : Nat.ble ((rest.map fun v => v.category).sum) 8 = true) (hdep : d' + 1 ≤ d) (hc : c + mc ≤ C) (hs : sl + ms ≤ S)
    (hM : Ct d' M' (as) T I mc ms P')
    (kk : ∀ r T' I', P' r T' I' → J d M Post C S (pc + 3) ls (r.toList ++ rest) T' I' (c + mc) (sl + ms)) : J d M Post C S pc ls st T I c sl := by
  intro p l e s m args below meth cd G ab T0 ad0 ad ca H locs LS F D hl hv
  obtain ⟨hmi, hini, hnm, hL⟩ := hy
  have hvr : ∀ v ∈ rest, vOK (tN T) v := fun v hm => hv v (by rw [hst]; simp [hm])
  have hrest' : ((rest.map (trv ad)).map fun v => v.category).sum ≤ 8 := by rw [cat_map]; exact Nat.le_of_ble_eq_true hrest
  have hsk : st.map (trv ad) = (as.map (trv ad)).reverse ++ rest.map (trv ad) := by rw [hst, List.map_append, List.map_reverse]
  have hvk : ∀ v ∈ (as : List Value), vOK (tN T) v := fun v hm => hv v (by rw [hst]; simp [hm])
  have hts := F.2.2.2.2.1
  have hG : GoodIn (wd M) (wd M') := wd_good hmi
  have hFx : CallFix p m cd M.2.1 M.2.2.1 s args (wd M) M.1.cls := ⟨F.1, F.2.1, F.2.2.1, F.2.2.2.1, hts⟩
  have hR : (Rm d' mc ms).frames + 1 ≤ (Rm d C S).frames ∧ 8 + (M'.2.2.1 + 11) + (Rm d' mc ms).locals ≤ (Rm d C S).locals := ⟨hdep, room_d hdep hL⟩
  refine J_after (g := st.map (trv ad)) (rest := rest) (a := ((as : List Value).map (trv ad)).toArray) (P' := P') ?_ F D hl hvr kk
  rcases hlk with hlk | ⟨host, hlk⟩
  · exact va_runS hFx (hM l G ab ad ca H.size) ⟨callB_of n hts hG rfl rfl rfl (hasCode F hini) (hasCode F hlk) hnm hR, hasCode F hvm⟩ ⟨Pw_blind, fun U hU hW => Pw_at F D hvk hU hW⟩ rfl ((List.length_map _).trans hn) hl.1 hsk (lv_room hrest') hd ⟨hc, hs⟩
  · exact va_runSN hFx (hM l G ab ad ca H.size) ⟨va_cnB n hts hG rfl rfl rfl (F.2.2.2.2.2.2.2.2.1 _ hlk rfl) (hasCode F hini) hnm hR, hasCode F hvm, trivial⟩ ⟨Pw_blind, fun U hU hW => Pw_at F D hvk hU hW⟩ rfl ((List.length_map _).trans hn) hl.1 hsk (lv_room hrest') hd ⟨hc, hs⟩
theorem J.callI {M' : Mth} {n idx d' mc ms : Nat} {k : Nat} {as rest : List Value} {P' : Pst} (hnone : M'.2.2.2 = none)
    (hd : decode M.2.1 pc = .ok (.invokespecial idx, 3)) (hy : yOK M' n) (hvm : iMeth M') (hlk : mLk M.1.cls idx M'.1) (hst : st = as.reverse ++ .ref k :: rest) (hn : as.length = n) (hrest : Nat.ble ((rest.map fun v => v.category).sum) 8 = true) (hdep : d' + 1 ≤ d) (hc : c + mc ≤ C) (hs : sl + ms ≤ S)
    (hM : Ct d' M' (.ref k :: as) T I mc ms P')
    (kk : ∀ r T' I', P' r T' I' → J d M Post C S (pc + 3) ls (r.toList ++ rest) T' I' (c + mc) (sl + ms)) : J d M Post C S pc ls st T I c sl := by
  intro p l e s m args below meth cd G ab T0 ad0 ad ca H locs LS F D hl hv
  obtain ⟨hmi, hini, hnm, hL⟩ := hy
  have hvr : ∀ v ∈ rest, vOK (tN T) v := fun v hm => hv v (by rw [hst]; simp [hm])
  have hrest' : ((rest.map (trv ad)).map fun v => v.category).sum ≤ 8 := by rw [cat_map]; exact Nat.le_of_ble_eq_true hrest
  have hsk : st.map (trv ad) = (as.map (trv ad)).reverse ++ .ref (ad k) :: rest.map (trv ad) := by rw [hst, List.map_append, List.map_reverse, List.map_cons]; rfl
  have hvk : ∀ v ∈ (.ref k :: as : List Value), vOK (tN T) v := fun v hm => hv v (by rw [hst]; rcases List.mem_cons.mp hm with h | h <;> simp [h])
  have hts := F.2.2.2.2.1
  have hG : GoodIn (wd M) (wd M') := wd_good hmi
  have hFx : CallFix p m cd M.2.1 M.2.2.1 s args (wd M) M.1.cls := ⟨F.1, F.2.1, F.2.2.1, F.2.2.2.1, hts⟩
  have hR : (Rm d' mc ms).frames + 1 ≤ (Rm d C S).frames ∧ 8 + (M'.2.2.1 + 11) + (Rm d' mc ms).locals ≤ (Rm d C S).locals := ⟨hdep, room_d hdep hL⟩
  refine J_after (g := st.map (trv ad)) (rest := rest) (a := ((.ref k :: as : List Value).map (trv ad)).toArray) (P' := P') ?_ F D hl hvr kk
  rcases hlk with hlk | ⟨host, hlk⟩
  · exact va_runI hFx (hM l G ab ad ca H.size) ⟨hnone ▸ callB_of n hts hG rfl rfl rfl (hasCode F hini) (hasCode F hlk) hnm hR, hvm.1, hasCode F hvm.2⟩ ⟨Pw_blind, fun U hU hW => Pw_at F D hvk hU hW⟩ rfl ((List.length_map _).trans hn) hl.1 hsk (lv_room hrest') hd ⟨hc, hs⟩
  · exact va_runIN hFx (hM l G ab ad ca H.size) ⟨hnone ▸ va_cnB n hts hG rfl rfl rfl (F.2.2.2.2.2.2.2.2.1 _ hlk rfl) (hasCode F hini) hnm hR, hvm.1, hasCode F hvm.2⟩ ⟨Pw_blind, fun U hU hW => Pw_at F D hvk hU hW⟩ rfl ((List.length_map _).trans hn) hl.1 hsk (lv_room hrest') hd ⟨hc, hs⟩
theorem J.objInit {k idx : Nat} (hd : decode M.2.1 pc = .ok (.invokespecial idx, 3)) (hlk : Cond.methodLink M.1.cls idx Lib.objectInit ∈ TBg) (hin : Cond.instanceMethod Lib.objectInit ∈ TBg) (hco : Cond.code Lib.objectInit ⟨#[0xb1]⟩ 1 none ∈ TBg) (hrest : Nat.ble ((st.map fun v => v.category).sum) 8 = true) (hdep : 1 ≤ d)
    (kk : J d M Post C S (pc + 3) ls st T I c sl) : J d M Post C S pc ls (.ref k :: st) T I c sl := by
  intro p l e s m args below meth cd G ab T0 ad0 ad ca H locs LS F D hl hv
  have hrest' : ((st.map (trv ad)).map fun v => v.category).sum ≤ 8 := by rw [cat_map]; exact Nat.le_of_ble_eq_true hrest
  refine W.objInit F.1 F.2.1 F.2.2.2.1 (hasCode F hlk) (hasCode F hin) (hasCode F hco) rfl (hl.1.trans F.2.2.1.symm) rfl hd hdep ?_ (kk p l e s m args below meth cd G ab T0 ad0 ad ca H locs LS F D hl (vs_t hv))
  have h60 : (Rm d C S).locals = 60 * d := rfl
  show 2 * 0 + _ + 12 ≤ _
  omega
def cpy2 (I : IM) (k0 k1 sp dp n : Nat) : IM := fun a => if a = k1 then va_cpy (I k0) (I k1) sp dp n else I a
theorem J.acopy {k0 k1 idx : Nat} {sp dp n : Int32} (hd : decode M.2.1 pc = .ok (.invokestatic idx, 3)) (hlk : Cond.methodLink M.1.cls idx arraycopyName ∈ TBg) (hnat : Cond.native arraycopyName ∈ TBg) (hstat : Cond.static arraycopyName ∈ TBg) (hini : Cond.initialized "java/lang/System" ∈ TBg) (hκ0 : tK T k0 = 13) (hκ1 : tK T k1 = 13)
    (h1 : ¬ sp < 0) (h2 : ¬ dp < 0) (h3 : ¬ n < 0) (h4 : sp.toNatClampNeg + n.toNatClampNeg ≤ tL T k0) (h5 : dp.toNatClampNeg + n.toNatClampNeg ≤ tL T k1) (hrest : Nat.ble ((st.map fun v => v.category).sum) 8 = true) (hdep : 1 ≤ d)
    (kk : J d M Post C S (pc + 3) ls st T (cpy2 I k0 k1 sp.toNatClampNeg dp.toNatClampNeg n.toNatClampNeg) c sl) : J d M Post C S pc ls (.int n :: .int dp :: .ref k1 :: .int sp :: .ref k0 :: st) T I c sl := by
  intro p l e s m args below meth cd G ab T0 ad0 ad ca H locs LS F D hl hv
  have hrest' : ((st.map (trv ad)).map fun v => v.category).sum ≤ 8 := by rw [cat_map]; exact Nat.le_of_ble_eq_true hrest
  have hk1 : k1 < tN T := vs_h (vs_t (vs_t hv))
  have hk0 : k0 < tN T := vs_h (vs_t (vs_t (vs_t (vs_t hv))))
  have hA0 := D.2.2.2.1 k0 hk0 (by omega)
  have hA1 := D.2.2.2.1 k1 hk1 (by omega)
  rw [hκ0] at hA0
  rw [hκ1] at hA1
  have hK2 : va_K G vwCl [(ca k0, .int), (ca k1, .int)] s := by
    refine ⟨D.2.2.1.1, fun i q hq => ?_⟩
    match i, hq with
    | 0, hq => cases hq; exact hA0
    | 1, hq => cases hq; exact hA1
    | i + 2, hq => simp at hq
  refine va_copyi F.1 F.2.1 (F.2.2.1.trans hl.1.symm) F.2.2.2.1 (hasCode F hlk) (hasCode F hnat) (hasCode F hstat) (hasCode F hini) hK2 D.1 D.2.1 D.2.2.2.2.2.1 k0 k1 0 1 ((cW_at hk0).trans (by rw [cE_int (by omega)])) ((cW_at hk1).trans (by rw [cE_int (by omega)])) rfl rfl rfl h1 h2 h3 h4 h5 (fun _ _ => rfl) hdep ?_ hd (fun H1 locs1 hP1 hD1 hS1 => ?_)
  · have h60 : (Rm d C S).locals = 60 * d := rfl
    have hnw : nativeFrameWords "java/lang/System" "arraycopy" 5 + 11 ≤ 52 := by decide
    omega
  · have eW : (cW ad ca T I).set k1 (ad k1, .inl (ca k1, tL T k1, .inl (va_cpy (I k0) (I k1) sp.toNatClampNeg dp.toNatClampNeg n.toNatClampNeg))) = cW ad ca T (cpy2 I k0 k1 sp.toNatClampNeg dp.toNatClampNeg n.toNatClampNeg) := by
      have en : ∀ a, a ≠ k1 → cpy2 I k0 k1 sp.toNatClampNeg dp.toNatClampNeg n.toNatClampNeg a = I a := fun a ha => if_neg ha
      refine cW_set hk1 rfl ?_ (fun a ha => ?_)
      · rw [cE_int (by omega), cpy2, if_pos rfl]
      · have e : fv ad T (cpy2 I k0 k1 sp.toNatClampNeg dp.toNatClampNeg n.toNatClampNeg) a = fv ad T I a := by funext i; simp only [fv, en a ha]
        simp only [cE, e, en a ha]
    rw [eW] at hP1 hD1
    exact kk p l e s m args below meth cd G ab T0 ad0 ad ca H1 locs1 LS F ⟨hP1, hD1, D.2.2.1, D.2.2.2.1, D.2.2.2.2.1, hS1, D.2.2.2.2.2.2⟩ hl (vs_t (vs_t (vs_t (vs_t (vs_t hv)))))
end JC
end
section
/-! contracts by what they answer -/
def PI (Q : Int32 → Topo → IM → Prop) : Pst := fun r T I => ∃ x, r = some (.int x) ∧ Q x T I
def PV (Q : Topo → IM → Prop) : Pst := fun r T I => r = none ∧ Q T I
def PR (Q : Nat → Topo → IM → Prop) : Pst := fun r T I => ∃ k, r = some (.ref k) ∧ Q k T I
/-- answers v and changes nothing -/
def CtP (d : Nat) (M : Mth) (vs : List Value) (T : Topo) (I : IM) (v : Int32) : Prop := Ct d M vs T I 0 0 (PI fun x T' I' => x = v ∧ T' = T ∧ I' = I)
/-- answers the cell k and changes nothing -/
def CtF (d : Nat) (M : Mth) (vs : List Value) (T : Topo) (I : IM) (k : Nat) : Prop := Ct d M vs T I 0 0 (PR fun x T' I' => x = k ∧ T' = T ∧ I' = I)
/-- makes nothing; numbers may change -/
def CtI (d : Nat) (M : Mth) (vs : List Value) (T : Topo) (I : IM) (Q : Int32 → IM → Prop) : Prop := Ct d M vs T I 0 0 (PI fun x T' I' => T' = T ∧ Q x I')
def CtV (d : Nat) (M : Mth) (vs : List Value) (T : Topo) (I : IM) (Q : IM → Prop) : Prop := Ct d M vs T I 0 0 (PV fun T' I' => T' = T ∧ Q I')
def bI (c : Prop) [Decidable c] : Int32 := if c then 1 else 0
theorem bI_01 (c : Prop) [Decidable c] : bI c = 0 ∨ bI c = 1 := by unfold bI; split <;> simp
theorem bI_0 (c : Prop) [Decidable c] : bI c = 0 ↔ ¬ c := by unfold bI; split <;> simp_all
theorem bI_t {c : Prop} [Decidable c] (h : c) : bI c = 1 := if_pos h
theorem bI_f {c : Prop} [Decidable c] (h : ¬ c) : bI c = 0 := if_neg h
def lsLe : List (Option Value) → List (Option Value) → Prop
  | [], [] => True
  | none :: a, _ :: b => lsLe a b
  | some v :: a, some w :: b => v = w ∧ lsLe a b
  | _, _ => False
theorem lsLe.at : ∀ {a b : List (Option Value)}, lsLe a b → a.length = b.length ∧ ∀ (i : Nat) (v : Value), a[i]? = some (some v) → b[i]? = some (some v)
  | [], [], _ => ⟨rfl, fun i v h => h⟩
  | none :: a, w :: b, h => by
    obtain ⟨h1, h2⟩ := lsLe.at (a := a) (b := b) h
    refine ⟨by simp [h1], fun i v hi => ?_⟩
    cases i with
    | zero => simp at hi
    | succ i => simpa using h2 i v (by simpa using hi)
  | some v :: a, some w :: b, h => by
    obtain ⟨e, h⟩ := h
    subst e
    obtain ⟨h1, h2⟩ := lsLe.at (a := a) (b := b) h
    refine ⟨by simp [h1], fun i v hi => ?_⟩
    cases i with
    | zero => simpa using hi
    | succ i => simpa using h2 i v (by simpa using hi)
section JQ
variable {d : Nat} {M : Mth} {Post : Pst} {C S pc c sl : Nat} {ls ls' : List (Option Value)} {st : List Value} {T : Topo} {I : IM}
theorem J.weaken (h : lsLe ls' ls) (k : J d M Post C S pc ls' st T I c sl) : J d M Post C S pc ls st T I c sl := by
  intro p l e s m args below meth cd G ab T0 ad0 ad ca H locs LS F D hl hv
  exact k p l e s m args below meth cd G ab T0 ad0 ad ca H locs LS F D ⟨hl.1, hl.2.1, h.at.1.trans hl.2.2.1, fun i v hi => hl.2.2.2 i v (h.at.2 i v hi)⟩ hv
theorem J.bz_eq {q : Prop} [Decidable q] {off : Int} {tgt : Nat} (hd : decode M.2.1 pc = .ok (.ifCond .eq off, 3)) (ht : (pc : Int) + off = (tgt : Int))
    (kt : ¬ q → J d M Post C S tgt ls st T I c sl) (kf : q → J d M Post C S (pc + 3) ls st T I c sl) : J d M Post C S pc ls (.int (bI q) :: st) T I c sl :=
  J.if_eq hd ht (fun h => kt ((bI_0 q).mp h)) (fun h => kf (Classical.byContradiction fun z => h ((bI_0 q).mpr z)))
theorem J.bz_ne {q : Prop} [Decidable q] {off : Int} {tgt : Nat} (hd : decode M.2.1 pc = .ok (.ifCond .ne off, 3)) (ht : (pc : Int) + off = (tgt : Int))
    (kt : q → J d M Post C S tgt ls st T I c sl) (kf : ¬ q → J d M Post C S (pc + 3) ls st T I c sl) : J d M Post C S pc ls (.int (bI q) :: st) T I c sl :=
  J.if_ne hd ht (fun h => kt (Classical.byContradiction fun z => h ((bI_0 q).mpr z))) (fun h => kf ((bI_0 q).mp h))
theorem J.iretQ {v : Int32} {Q : Int32 → Topo → IM → Prop} (hd : decode M.2.1 pc = .ok (.ireturn, 1)) (hr : M.2.2.2 = some .int) (hc : c ≤ C) (hs : sl ≤ S) (hp : Q v T I) : J d M (PI Q) C S pc ls [.int v] T I c sl := J.iret hd hr hc hs ⟨v, rfl, hp⟩
theorem J.zretQ {v : Int32} {Q : Int32 → Topo → IM → Prop} (hd : decode M.2.1 pc = .ok (.ireturn, 1)) (hr : M.2.2.2 = some .boolean) (hz : v = 0 ∨ v = 1) (hc : c ≤ C) (hs : sl ≤ S) (hp : Q v T I) : J d M (PI Q) C S pc ls [.int v] T I c sl := J.zret hd hr hz hc hs ⟨v, rfl, hp⟩
theorem J.vretQ {Q : Topo → IM → Prop} (hd : decode M.2.1 pc = .ok (.return_, 1)) (hr : M.2.2.2 = none) (hc : c ≤ C) (hs : sl ≤ S) (hp : Q T I) : J d M (PV Q) C S pc ls [] T I c sl := J.vret hd hr hc hs ⟨rfl, hp⟩
theorem J.aretQ {k : Nat} {ty : FieldType} {Q : Nat → Topo → IM → Prop} (hd : decode M.2.1 pc = .ok (.areturn, 1)) (hr : M.2.2.2 = some ty) (hty : (∃ n, ty = .object n) ∨ ∃ t, ty = .array t) (hc : c ≤ C) (hs : sl ≤ S) (hp : Q k T I) : J d M (PR Q) C S pc ls [.ref k] T I c sl := J.aret hd hr hty hc hs ⟨k, rfl, hp⟩
theorem J.callVP {M' : Mth} {n idx d' : Nat} {k : Nat} {as rest : List Value} {κ : Nat} {q : vw_C} {v : Int32} (hd : decode M.2.1 pc = .ok (.invokevirtual idx, 3)) (hy : yOK M' n) (hvm : vMeth M') (hlk : mLk M.1.cls idx M'.1) (hκ : tK T k = κ) (hq : vwCl[κ]? = some q) (hqC : q.1 = M'.1.cls) (hst : st = as.reverse ++ .ref k :: rest) (hn : as.length = n) (hrest : Nat.ble ((rest.map fun v => v.category).sum) 8 = true) (hdep : d' + 1 ≤ d) (hc : c ≤ C) (hs : sl ≤ S) (hM : CtP d' M' (.ref k :: as) T I v) (kk : J d M Post C S (pc + 3) ls (.int v :: rest) T I c sl) : J d M Post C S pc ls st T I c sl :=
  J.callV hκ hq hqC hd hy hvm hlk hst hn hrest hdep hc hs hM (fun r T' I' h => by obtain ⟨x, rfl, rfl, rfl, rfl⟩ := h; exact kk)
theorem J.callSP {M' : Mth} {n idx d' : Nat} {as rest : List Value} {v : Int32} (hd : decode M.2.1 pc = .ok (.invokestatic idx, 3)) (hy : yOK M' n) (hvm : sMeth M') (hlk : mLk M.1.cls idx M'.1) (hst : st = as.reverse ++ rest) (hn : as.length = n) (hrest : Nat.ble ((rest.map fun v => v.category).sum) 8 = true) (hdep : d' + 1 ≤ d) (hc : c ≤ C) (hs : sl ≤ S) (hM : CtP d' M' as T I v) (kk : J d M Post C S (pc + 3) ls (.int v :: rest) T I c sl) : J d M Post C S pc ls st T I c sl :=
  J.callS hd hy hvm hlk hst hn hrest hdep hc hs hM (fun r T' I' h => by obtain ⟨x, rfl, rfl, rfl, rfl⟩ := h; exact kk)
theorem J.callVF {M' : Mth} {n idx d' : Nat} {k : Nat} {as rest : List Value} {κ : Nat} {q : vw_C} {r : Nat} (hd : decode M.2.1 pc = .ok (.invokevirtual idx, 3)) (hy : yOK M' n) (hvm : vMeth M') (hlk : mLk M.1.cls idx M'.1) (hκ : tK T k = κ) (hq : vwCl[κ]? = some q) (hqC : q.1 = M'.1.cls) (hst : st = as.reverse ++ .ref k :: rest) (hn : as.length = n) (hrest : Nat.ble ((rest.map fun v => v.category).sum) 8 = true) (hdep : d' + 1 ≤ d) (hc : c ≤ C) (hs : sl ≤ S) (hM : CtF d' M' (.ref k :: as) T I r) (kk : J d M Post C S (pc + 3) ls (.ref r :: rest) T I c sl) : J d M Post C S pc ls st T I c sl :=
  J.callV hκ hq hqC hd hy hvm hlk hst hn hrest hdep hc hs hM (fun r T' I' h => by obtain ⟨x, rfl, rfl, rfl, rfl⟩ := h; exact kk)
theorem J.callVI {M' : Mth} {n idx d' : Nat} {k : Nat} {as rest : List Value} {κ : Nat} {q : vw_C} {Q : Int32 → IM → Prop} (hd : decode M.2.1 pc = .ok (.invokevirtual idx, 3)) (hy : yOK M' n) (hvm : vMeth M') (hlk : mLk M.1.cls idx M'.1) (hκ : tK T k = κ) (hq : vwCl[κ]? = some q) (hqC : q.1 = M'.1.cls) (hst : st = as.reverse ++ .ref k :: rest) (hn : as.length = n) (hrest : Nat.ble ((rest.map fun v => v.category).sum) 8 = true) (hdep : d' + 1 ≤ d) (hc : c ≤ C) (hs : sl ≤ S) (hM : CtI d' M' (.ref k :: as) T I Q) (kk : ∀ x I', Q x I' → J d M Post C S (pc + 3) ls (.int x :: rest) T I' c sl) : J d M Post C S pc ls st T I c sl :=
  J.callV hκ hq hqC hd hy hvm hlk hst hn hrest hdep hc hs hM (fun r T' I' h => by obtain ⟨x, rfl, rfl, h⟩ := h; exact kk x I' h)
theorem J.callVV {M' : Mth} {n idx d' : Nat} {k : Nat} {as rest : List Value} {κ : Nat} {q : vw_C} {Q : IM → Prop} (hd : decode M.2.1 pc = .ok (.invokevirtual idx, 3)) (hy : yOK M' n) (hvm : vMeth M') (hlk : mLk M.1.cls idx M'.1) (hκ : tK T k = κ) (hq : vwCl[κ]? = some q) (hqC : q.1 = M'.1.cls) (hst : st = as.reverse ++ .ref k :: rest) (hn : as.length = n) (hrest : Nat.ble ((rest.map fun v => v.category).sum) 8 = true) (hdep : d' + 1 ≤ d) (hc : c ≤ C) (hs : sl ≤ S) (hM : CtV d' M' (.ref k :: as) T I Q) (kk : ∀ I', Q I' → J d M Post C S (pc + 3) ls rest T I' c sl) : J d M Post C S pc ls st T I c sl :=
  J.callV hκ hq hqC hd hy hvm hlk hst hn hrest hdep hc hs hM (fun r T' I' h => by obtain ⟨rfl, rfl, h⟩ := h; exact kk I' h)
theorem J.callVgI {M' : Mth} {n idx d' : Nat} {k : Nat} {as rest : List Value} {κ : Nat} {q : vw_C} {mc ms : Nat} {Q : Int32 → Topo → IM → Prop} (hd : decode M.2.1 pc = .ok (.invokevirtual idx, 3)) (hy : yOK M' n) (hvm : vMeth M') (hlk : mLk M.1.cls idx M'.1) (hκ : tK T k = κ) (hq : vwCl[κ]? = some q) (hqC : q.1 = M'.1.cls) (hst : st = as.reverse ++ .ref k :: rest) (hn : as.length = n) (hrest : Nat.ble ((rest.map fun v => v.category).sum) 8 = true) (hdep : d' + 1 ≤ d) (hc : c + mc ≤ C) (hs : sl + ms ≤ S) (hM : Ct d' M' (.ref k :: as) T I mc ms (PI Q)) (kk : ∀ x T' I', Q x T' I' → J d M Post C S (pc + 3) ls (.int x :: rest) T' I' (c + mc) (sl + ms)) : J d M Post C S pc ls st T I c sl :=
  J.callV hκ hq hqC hd hy hvm hlk hst hn hrest hdep hc hs hM (fun r T' I' h => by obtain ⟨x, rfl, h⟩ := h; exact kk x T' I' h)
theorem J.callVgR {M' : Mth} {n idx d' : Nat} {k : Nat} {as rest : List Value} {κ : Nat} {q : vw_C} {mc ms : Nat} {Q : Nat → Topo → IM → Prop} (hd : decode M.2.1 pc = .ok (.invokevirtual idx, 3)) (hy : yOK M' n) (hvm : vMeth M') (hlk : mLk M.1.cls idx M'.1) (hκ : tK T k = κ) (hq : vwCl[κ]? = some q) (hqC : q.1 = M'.1.cls) (hst : st = as.reverse ++ .ref k :: rest) (hn : as.length = n) (hrest : Nat.ble ((rest.map fun v => v.category).sum) 8 = true) (hdep : d' + 1 ≤ d) (hc : c + mc ≤ C) (hs : sl + ms ≤ S) (hM : Ct d' M' (.ref k :: as) T I mc ms (PR Q)) (kk : ∀ x T' I', Q x T' I' → J d M Post C S (pc + 3) ls (.ref x :: rest) T' I' (c + mc) (sl + ms)) : J d M Post C S pc ls st T I c sl :=
  J.callV hκ hq hqC hd hy hvm hlk hst hn hrest hdep hc hs hM (fun r T' I' h => by obtain ⟨x, rfl, h⟩ := h; exact kk x T' I' h)
theorem J.callVgV {M' : Mth} {n idx d' : Nat} {k : Nat} {as rest : List Value} {κ : Nat} {q : vw_C} {mc ms : Nat} {Q : Topo → IM → Prop} (hd : decode M.2.1 pc = .ok (.invokevirtual idx, 3)) (hy : yOK M' n) (hvm : vMeth M') (hlk : mLk M.1.cls idx M'.1) (hκ : tK T k = κ) (hq : vwCl[κ]? = some q) (hqC : q.1 = M'.1.cls) (hst : st = as.reverse ++ .ref k :: rest) (hn : as.length = n) (hrest : Nat.ble ((rest.map fun v => v.category).sum) 8 = true) (hdep : d' + 1 ≤ d) (hc : c + mc ≤ C) (hs : sl + ms ≤ S) (hM : Ct d' M' (.ref k :: as) T I mc ms (PV Q)) (kk : ∀ T' I', Q T' I' → J d M Post C S (pc + 3) ls rest T' I' (c + mc) (sl + ms)) : J d M Post C S pc ls st T I c sl :=
  J.callV hκ hq hqC hd hy hvm hlk hst hn hrest hdep hc hs hM (fun r T' I' h => by obtain ⟨rfl, h⟩ := h; exact kk T' I' h)
theorem J.callIgV {M' : Mth} {n idx d' : Nat} {k : Nat} {as rest : List Value} {mc ms : Nat} {Q : Topo → IM → Prop} (hd : decode M.2.1 pc = .ok (.invokespecial idx, 3)) (hy : yOK M' n) (hvm : iMeth M') (hlk : mLk M.1.cls idx M'.1) (hnone : M'.2.2.2 = none) (hst : st = as.reverse ++ .ref k :: rest) (hn : as.length = n) (hrest : Nat.ble ((rest.map fun v => v.category).sum) 8 = true) (hdep : d' + 1 ≤ d) (hc : c + mc ≤ C) (hs : sl + ms ≤ S) (hM : Ct d' M' (.ref k :: as) T I mc ms (PV Q)) (kk : ∀ T' I', Q T' I' → J d M Post C S (pc + 3) ls rest T' I' (c + mc) (sl + ms)) : J d M Post C S pc ls st T I c sl :=
  J.callI hnone hd hy hvm hlk hst hn hrest hdep hc hs hM (fun r T' I' h => by obtain ⟨rfl, h⟩ := h; exact kk T' I' h)
end JQ
end
section
/-! where the cells lie behind both constructors -/
def kL0 : List Nat := [11, 5, 13, 15, 10, 13, 4, 4, 4, 4, 4, 4, 4, 4, 4, 9, 17, 8, 6, 13, 13, 8, 6, 13, 13, 8, 6, 13, 13, 8, 6, 13, 13, 8, 6, 13, 13, 8, 6, 13, 13, 8, 6, 13, 13, 8, 6, 13, 13, 0, 13, 13, 13, 13, 1, 13, 3, 0, 13, 13, 13, 13, 13, 13, 13, 13, 13, 13, 13, 2, 16, 7, 13, 7, 13, 7, 13, 7, 13, 12, 13, 13, 13, 13, 13, 13, 13, 13, 13, 14, 13, 13, 13, 13, 13, 13, 13, 13, 13, 13, 13, 13, 13, 13, 13, 13, 14, 13, 13, 13, 13, 13, 13, 13, 13, 13, 13, 13, 13, 13, 13, 13, 13, 13, 13, 13, 13, 13, 14, 13, 13, 13, 13, 13, 14, 13]
def lL0 : List Nat := [0, 0, 6, 9, 0, 27, 0, 0, 0, 0, 0, 0, 0, 0, 0, 0, 8, 0, 0, 0, 0, 0, 0, 0, 0, 0, 0, 0, 0, 0, 0, 0, 0, 0, 0, 0, 0, 0, 0, 0, 0, 0, 0, 0, 0, 0, 0, 0, 0, 0, 216, 216, 1944, 144, 0, 9, 0, 0, 216, 216, 1944, 144, 24, 8, 8, 8, 8, 256, 256, 0, 4, 0, 8, 0, 8, 0, 8, 0, 8, 0, 6, 9, 9, 9, 9, 9, 9, 9, 9, 9, 8, 8, 8, 8, 8, 8, 8, 8, 8, 8, 8, 8, 8, 8, 8, 8, 8, 8, 8, 8, 8, 8, 4, 4, 32, 9, 2304, 2304, 2304, 2304, 2304, 6, 6, 6, 8, 8, 8, 8, 8, 8, 8, 8, 8, 8, 256, 8]
def rL0 : List (List (Option Nat)) := [[some 1, some 15, some 49, some 54, some 56, some 69, some 70, none], [some 2, some 3, some 4, none, none, none], [], [some 6, some 7, some 8, some 9, some 10, some 11, some 12, some 13, some 14], [some 5, none, none, none, none], [], [], [], [], [], [], [], [], [], [], [some 16, none], [some 17, some 21, some 25, some 29, some 33, some 37, some 41, some 45], [none, none, none, none, none, none, none, none, none, none, none, none, none, none, none, none, none, none, some 18], [none, none, none, none, none], [], [], [none, none, none, none, none, none, none, none, none, none, none, none, none, none, none, none, none, none, some 22], [none, none, none, none, none], [], [], [none, none, none, none, none, none, none, none, none, none, none, none, none, none, none, none, none, none, some 26], [none, none, none, none, none], [], [], [none, none, none, none, none, none, none, none, none, none, none, none, none, none, none, none, none, none, some 30], [none, none, none, none, none], [], [], [none, none, none, none, none, none, none, none, none, none, none, none, none, none, none, none, none, none, some 34], [none, none, none, none, none], [], [], [none, none, none, none, none, none, none, none, none, none, none, none, none, none, none, none, none, none, some 38], [none, none, none, none, none], [], [], [none, none, none, none, none, none, none, none, none, none, none, none, none, none, none, none, none, none, some 42], [none, none, none, none, none], [], [], [none, none, none, none, none, none, none, none, none, none, none, none, none, none, none, none, none, none, some 46], [none, none, none, none, none], [], [], [some 50, some 51, some 52, some 53, none], [], [], [], [], [some 55, none, none], [], [some 1, some 15, some 57, some 62, some 63, some 64, some 65, some 66, some 67, some 68, none, none, none], [some 58, some 59, some 60, some 61, none], [], [], [], [], [], [], [], [], [], [], [], [some 1, some 15, none, none, none, none], [some 71, some 73, some 75, some 77], [some 72, none, none], [], [some 74, none, none], [], [some 76, none, none], [], [some 78, none, none], [], [none, none, none, none, none, none, none, none, none, some 80, some 81, some 82, some 83, some 84, some 85, some 86, some 87, some 88, some 89, some 90, some 91, some 92, some 93, some 94, some 95, some 96, some 97, some 98, some 99, some 100, some 101, some 102, some 103, some 104, some 105, some 106, some 107, some 108, some 109, some 110, some 111, some 112, some 113, some 114, some 115, some 116, some 117, some 118, some 119, some 120, some 121, some 122, some 123, none, none, some 124, some 125, some 126, some 127, some 128, some 129, some 130, some 131, some 132, some 133, some 134, some 135], [], [], [], [], [], [], [], [], [], [], [], [], [], [], [], [], [], [], [], [], [], [], [], [], [], [], [], [], [], [], [], [], [], [], [], [], [], [], [], [], [], [], [], [], [], [], [], [], [], [], [], [], [], [], [], []]
def tK0 (k : Nat) : Nat := kL0.getD k 0
def tL0 (k : Nat) : Nat := lL0.getD k 0
def tR0 (k j : Nat) : Option Nat := (rL0.getD k []).getD j none
def isPl (k : Nat) : Bool := Nat.ble 18 k && (Nat.ble k 46 && (k % 4 == 2))
/-- the cells lie as the constructors laid them (but for the rows of Places) -/
def Lay (T : Topo) : Prop := 136 ≤ tN T ∧ (∀ k, k < 136 → tK T k = tK0 k) ∧ (∀ k, k < 136 → tL T k = tL0 k) ∧ (∀ k j, k < 136 → isPl k = false → tR T k j = tR0 k j)
theorem blt_lt {a b : Nat} (h : Nat.blt a b = true) : a < b := by
  have : Nat.ble (a + 1) b = true := h
  exact Nat.le_of_ble_eq_true this
theorem Lay.k {T : Topo} (h : Lay T) (k : Nat) (hk : Nat.blt k 136 = true) : tK T k = tK0 k := h.2.1 k (blt_lt hk)
theorem Lay.l {T : Topo} (h : Lay T) (k : Nat) (hk : Nat.blt k 136 = true) : tL T k = tL0 k := h.2.2.1 k (blt_lt hk)
theorem Lay.r {T : Topo} (h : Lay T) (k j : Nat) (hk : Nat.blt k 136 = true) (hp : isPl k = false) : tR T k j = tR0 k j := h.2.2.2 k j (blt_lt hk) hp
theorem lay_line : ∀ i, i < 9 → tK0 (6 + i) = 4 ∧ tR0 3 i = some (6 + i) := by decide +kernel
theorem lay_slice : ∀ i, i < 8 → tK0 (17 + 4 * i) = 8 ∧ tR0 16 i = some (17 + 4 * i) ∧ tR0 (17 + 4 * i) 18 = some (18 + 4 * i) ∧ isPl (17 + 4 * i) = false ∧ tK0 (18 + 4 * i) = 6 := by decide +kernel
theorem lay_sheet : ∀ i, i < 4 → tK0 (71 + 2 * i) = 7 ∧ tR0 70 i = some (71 + 2 * i) ∧ tR0 (71 + 2 * i) 0 = some (72 + 2 * i) ∧ isPl (71 + 2 * i) = false ∧ tK0 (72 + 2 * i) = 13 ∧ tL0 (72 + 2 * i) = 8 := by decide +kernel
theorem Lay.lineK {T : Topo} (h : Lay T) {i : Nat} (hi : i < 9) : tK T (6 + i) = 4 := (h.2.1 _ (by omega)).trans (lay_line i hi).1
theorem Lay.lineR {T : Topo} (h : Lay T) {i : Nat} (hi : i < 9) : tR T 3 i = some (6 + i) := (h.r 3 i rfl rfl).trans (lay_line i hi).2
theorem Lay.sliceK {T : Topo} (h : Lay T) {i : Nat} (hi : i < 8) : tK T (17 + 4 * i) = 8 := (h.2.1 _ (by omega)).trans (lay_slice i hi).1
theorem Lay.sliceR {T : Topo} (h : Lay T) {i : Nat} (hi : i < 8) : tR T 16 i = some (17 + 4 * i) := (h.r 16 i rfl rfl).trans (lay_slice i hi).2.1
theorem Lay.sliceP {T : Topo} (h : Lay T) {i : Nat} (hi : i < 8) : tR T (17 + 4 * i) 18 = some (18 + 4 * i) := (h.2.2.2 _ _ (by omega) (lay_slice i hi).2.2.2.1).trans (lay_slice i hi).2.2.1
theorem Lay.placesK {T : Topo} (h : Lay T) {i : Nat} (hi : i < 8) : tK T (18 + 4 * i) = 6 := (h.2.1 _ (by omega)).trans (lay_slice i hi).2.2.2.2
theorem Lay.sheetK {T : Topo} (h : Lay T) {i : Nat} (hi : i < 4) : tK T (71 + 2 * i) = 7 := (h.2.1 _ (by omega)).trans (lay_sheet i hi).1
theorem Lay.sheetR {T : Topo} (h : Lay T) {i : Nat} (hi : i < 4) : tR T 70 i = some (71 + 2 * i) := (h.r 70 i rfl rfl).trans (lay_sheet i hi).2.1
theorem Lay.sheetN {T : Topo} (h : Lay T) {i : Nat} (hi : i < 4) : tR T (71 + 2 * i) 0 = some (72 + 2 * i) := (h.2.2.2 _ _ (by omega) (lay_sheet i hi).2.2.2.1).trans (lay_sheet i hi).2.2.1
theorem Lay.sheetA {T : Topo} (h : Lay T) {i : Nat} (hi : i < 4) : tK T (72 + 2 * i) = 13 := (h.2.1 _ (by omega)).trans (lay_sheet i hi).2.2.2.2.1
theorem Lay.sheetL {T : Topo} (h : Lay T) {i : Nat} (hi : i < 4) : tL T (72 + 2 * i) = 8 := (h.2.2.1 _ (by omega)).trans (lay_sheet i hi).2.2.2.2.2
def isBk (b : Nat) : Prop := b = 49 ∨ b = 57
theorem Lay.bookK {T : Topo} (h : Lay T) {b : Nat} (hb : isBk b) : tK T b = 0 := by rcases hb with rfl | rfl <;> exact h.k _ rfl
theorem Lay.bookR {T : Topo} (h : Lay T) {b : Nat} (hb : isBk b) (j : Nat) (hj : Nat.blt j 4 = true) : tR T b j = some (b + 1 + j) := by
  have hj' := blt_lt hj
  rcases hb with rfl | rfl
  · rw [h.r _ _ rfl rfl]; match j, hj' with
    | 0, _ => rfl
    | 1, _ => rfl
    | 2, _ => rfl
    | 3, _ => rfl
    | j + 4, hj' => omega
  · rw [h.r _ _ rfl rfl]; match j, hj' with
    | 0, _ => rfl
    | 1, _ => rfl
    | 2, _ => rfl
    | 3, _ => rfl
    | j + 4, hj' => omega
theorem Lay.bookA {T : Topo} (h : Lay T) {b : Nat} (hb : isBk b) (j : Nat) (hj : Nat.blt j 4 = true) : tK T (b + 1 + j) = 13 := by
  have hj' := blt_lt hj
  rcases hb with rfl | rfl
  · match j, hj' with
    | 0, _ => exact h.k _ rfl
    | 1, _ => exact h.k _ rfl
    | 2, _ => exact h.k _ rfl
    | 3, _ => exact h.k _ rfl
    | j + 4, hj' => omega
  · match j, hj' with
    | 0, _ => exact h.k _ rfl
    | 1, _ => exact h.k _ rfl
    | 2, _ => exact h.k _ rfl
    | 3, _ => exact h.k _ rfl
    | j + 4, hj' => omega
def bkLen (j : Nat) : Nat := [216, 216, 1944, 144].getD j 0
theorem Lay.bookL {T : Topo} (h : Lay T) {b : Nat} (hb : isBk b) (j : Nat) (hj : Nat.blt j 4 = true) : tL T (b + 1 + j) = bkLen j := by
  have hj' := blt_lt hj
  rcases hb with rfl | rfl
  · match j, hj' with
    | 0, _ => exact h.l _ rfl
    | 1, _ => exact h.l _ rfl
    | 2, _ => exact h.l _ rfl
    | 3, _ => exact h.l _ rfl
    | j + 4, hj' => omega
  · match j, hj' with
    | 0, _ => exact h.l _ rfl
    | 1, _ => exact h.l _ rfl
    | 2, _ => exact h.l _ rfl
    | 3, _ => exact h.l _ rfl
    | j + 4, hj' => omega
theorem vp_lt {i : Int32} {N : Nat} (h : vp_in i N) : i.toNatClampNeg < N := Nat.not_le.mp fun q => h (Or.inr q)
section JX
variable {d : Nat} {M : Mth} {Post : Pst} {C S pc pc' c sl : Nat} {ls : List (Option Value)} {st : List Value} {T : Topo} {I : IM}
theorem J.atpc (h : pc = pc') (k : J d M Post C S pc' ls st T I c sl) : J d M Post C S pc ls st T I c sl := h ▸ k
theorem J.iald {k N : Nat} {i : Int32} (hd : decode M.2.1 pc = .ok (.iaload, 1)) (hκ : tK T k = 13) (hL : tL T k = N) (hin : vp_in i N)
    (kk : J d M Post C S (pc + 1) ls (.int (I k i.toNatClampNeg) :: st) T I c sl) : J d M Post C S pc ls (.int i :: .ref k :: st) T I c sl := J.iaload hd hκ (by rw [hL]; exact hin) kk
theorem J.bald {k N : Nat} {i : Int32} (hd : decode M.2.1 pc = .ok (.baload, 1)) (hκ : tK T k = 14) (hL : tL T k = N) (hin : vp_in i N)
    (kk : J d M Post C S (pc + 1) ls (.int (I k i.toNatClampNeg) :: st) T I c sl) : J d M Post C S pc ls (.int i :: .ref k :: st) T I c sl := J.baload hd hκ (by rw [hL]; exact hin) kk
theorem J.iast {k N : Nat} {i x : Int32} (hd : decode M.2.1 pc = .ok (.iastore, 1)) (hκ : tK T k = 13) (hL : tL T k = N) (hin : vp_in i N)
    (kk : J d M Post C S (pc + 1) ls st T (up2 I k i.toNatClampNeg x) c sl) : J d M Post C S pc ls (.int x :: .int i :: .ref k :: st) T I c sl := J.iastore hd hκ (by rw [hL]; exact hin) kk
theorem J.bast {k N : Nat} {i x : Int32} (hd : decode M.2.1 pc = .ok (.bastore, 1)) (hκ : tK T k = 14) (hL : tL T k = N) (hin : vp_in i N) (hz : x = 0 ∨ x = 1)
    (kk : J d M Post C S (pc + 1) ls st T (up2 I k i.toNatClampNeg x) c sl) : J d M Post C S pc ls (.int x :: .int i :: .ref k :: st) T I c sl := J.bastore hd hκ (by rw [hL]; exact hin) hz kk
theorem J.aald {k r N κ : Nat} {i : Int32} {CC : String} (hd : decode M.2.1 pc = .ok (.aaload, 1)) (hκ : tK T k = κ) (h15 : Nat.ble 15 κ = true) (hty : aTy κ = .object CC) (hL : tL T k = N) (hin : vp_in i N) (hR : tR T k i.toNatClampNeg = some r)
    (kk : J d M Post C S (pc + 1) ls (.ref r :: st) T I c sl) : J d M Post C S pc ls (.int i :: .ref k :: st) T I c sl := J.aaload hd (by rw [hκ]; exact Nat.le_of_ble_eq_true h15) (by rw [hκ]; exact hty) (by rw [hL]; exact hin) hR kk
end JX
end
