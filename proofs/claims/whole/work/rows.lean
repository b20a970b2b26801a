section
-- ===== PART A: goes FIRST, ahead of the names: the tables' words, and 'selects' of the private methods out of them =====
/-- a private method of a class that the tables say can be made, by its rows of tables_1 -/
def lw_okq (q : MethodName × Nat) : Prop := (q.1.cls ≠ "java/lang/invoke/MethodHandle" ∧ q.1.cls ≠ "java/lang/invoke/VarHandle") ∧ Cond.instantiable q.1.cls q.2 ∈ tables_1 ∧ Cond.privateMethod q.1 ∈ tables_1 ∧ Cond.instanceMethod q.1 ∈ tables_1
theorem lw_p0 : lw_okq (⟨"SliceSeller", "finding", "(I)I"⟩, 8) := ⟨⟨by decide +kernel, by decide +kernel⟩, List.mem_of_getElem? (i := 18) (by decide +kernel), List.mem_of_getElem? (i := 435) (by decide +kernel), List.mem_of_getElem? (i := 436) (by decide +kernel)⟩
theorem lw_p1 : lw_okq (⟨"SliceSeller$Ways", "extend", "(LSliceSeller$Net;IIII)V"⟩, 5) := ⟨⟨by decide +kernel, by decide +kernel⟩, List.mem_of_getElem? (i := 34) (by decide +kernel), List.mem_of_getElem? (i := 488) (by decide +kernel), List.mem_of_getElem? (i := 489) (by decide +kernel)⟩
theorem lw_p2 : lw_okq (⟨"SliceSeller$Ways", "insert", "(I)V"⟩, 5) := ⟨⟨by decide +kernel, by decide +kernel⟩, List.mem_of_getElem? (i := 34) (by decide +kernel), List.mem_of_getElem? (i := 492) (by decide +kernel), List.mem_of_getElem? (i := 493) (by decide +kernel)⟩
theorem lw_p3 : lw_okq (⟨"SliceSeller$Cut", "roomOutOf", "(LSliceSeller$Net;I)I"⟩, 3) := ⟨⟨by decide +kernel, by decide +kernel⟩, List.mem_of_getElem? (i := 285) (by decide +kernel), List.mem_of_getElem? (i := 556) (by decide +kernel), List.mem_of_getElem? (i := 557) (by decide +kernel)⟩
theorem lw_p4 : lw_okq (⟨"SliceSeller$Cut", "weigh", "(II)V"⟩, 3) := ⟨⟨by decide +kernel, by decide +kernel⟩, List.mem_of_getElem? (i := 285) (by decide +kernel), List.mem_of_getElem? (i := 561) (by decide +kernel), List.mem_of_getElem? (i := 562) (by decide +kernel)⟩
theorem lw_p5 : lw_okq (⟨"SliceSeller$Places", "gather", "(LSliceSeller$Net;LSliceSeller$Slice;LSliceSeller$Ways;)V"⟩, 5) := ⟨⟨by decide +kernel, by decide +kernel⟩, List.mem_of_getElem? (i := 143) (by decide +kernel), List.mem_of_getElem? (i := 658) (by decide +kernel), List.mem_of_getElem? (i := 659) (by decide +kernel)⟩
theorem lw_p6 : lw_okq (⟨"SliceSeller$Places", "gatherSpares", "(LSliceSeller$Net;LSliceSeller$Slice;LSliceSeller$Ways;I)V"⟩, 5) := ⟨⟨by decide +kernel, by decide +kernel⟩, List.mem_of_getElem? (i := 143) (by decide +kernel), List.mem_of_getElem? (i := 668) (by decide +kernel), List.mem_of_getElem? (i := 669) (by decide +kernel)⟩
theorem lw_p7 : lw_okq (⟨"SliceSeller$Places", "gatherHosts", "(LSliceSeller$Net;III)V"⟩, 5) := ⟨⟨by decide +kernel, by decide +kernel⟩, List.mem_of_getElem? (i := 143) (by decide +kernel), List.mem_of_getElem? (i := 677) (by decide +kernel), List.mem_of_getElem? (i := 678) (by decide +kernel)⟩
theorem lw_p8 : lw_okq (⟨"SliceSeller$Book", "linesHoldAt", "(LSliceSeller$Net;III)Z"⟩, 5) := ⟨⟨by decide +kernel, by decide +kernel⟩, List.mem_of_getElem? (i := 262) (by decide +kernel), List.mem_of_getElem? (i := 709) (by decide +kernel), List.mem_of_getElem? (i := 710) (by decide +kernel)⟩
theorem lw_p9 : lw_okq (⟨"SliceSeller$Book", "fallWith", "(IIII)I"⟩, 5) := ⟨⟨by decide +kernel, by decide +kernel⟩, List.mem_of_getElem? (i := 262) (by decide +kernel), List.mem_of_getElem? (i := 715) (by decide +kernel), List.mem_of_getElem? (i := 716) (by decide +kernel)⟩
theorem lw_p10 : lw_okq (⟨"SliceSeller", "comeIn", "(LSliceSeller$Slice;I)V"⟩, 8) := ⟨⟨by decide +kernel, by decide +kernel⟩, List.mem_of_getElem? (i := 18) (by decide +kernel), List.mem_of_getElem? (i := 737) (by decide +kernel), List.mem_of_getElem? (i := 738) (by decide +kernel)⟩
theorem lw_p11 : lw_okq (⟨"SliceSeller$Book", "enterLines", "(LSliceSeller$Net;III)V"⟩, 5) := ⟨⟨by decide +kernel, by decide +kernel⟩, List.mem_of_getElem? (i := 262) (by decide +kernel), List.mem_of_getElem? (i := 745) (by decide +kernel), List.mem_of_getElem? (i := 746) (by decide +kernel)⟩
theorem lw_p12 : lw_okq (⟨"SliceSeller$Book", "enterFalls", "(IIII)V"⟩, 5) := ⟨⟨by decide +kernel, by decide +kernel⟩, List.mem_of_getElem? (i := 262) (by decide +kernel), List.mem_of_getElem? (i := 749) (by decide +kernel), List.mem_of_getElem? (i := 750) (by decide +kernel)⟩
theorem lw_p13 : lw_okq (⟨"SliceSeller", "whyNoRoom", "(LSliceSeller$Slice;LSliceSeller$Places;)I"⟩, 8) := ⟨⟨by decide +kernel, by decide +kernel⟩, List.mem_of_getElem? (i := 18) (by decide +kernel), List.mem_of_getElem? (i := 763) (by decide +kernel), List.mem_of_getElem? (i := 764) (by decide +kernel)⟩
theorem lw_p14 : lw_okq (⟨"SliceSeller", "goOut", "(LSliceSeller$Slice;)V"⟩, 8) := ⟨⟨by decide +kernel, by decide +kernel⟩, List.mem_of_getElem? (i := 18) (by decide +kernel), List.mem_of_getElem? (i := 775) (by decide +kernel), List.mem_of_getElem? (i := 776) (by decide +kernel)⟩
theorem lw_p15 : lw_okq (⟨"SliceSeller$Net", "lineFrom", "(II)I"⟩, 6) := ⟨⟨by decide +kernel, by decide +kernel⟩, List.mem_of_getElem? (i := 26) (by decide +kernel), List.mem_of_getElem? (i := 787) (by decide +kernel), List.mem_of_getElem? (i := 788) (by decide +kernel)⟩
def lw_privs_1 : List (MethodName × Nat) := [(⟨"SliceSeller", "finding", "(I)I"⟩, 8), (⟨"SliceSeller$Ways", "extend", "(LSliceSeller$Net;IIII)V"⟩, 5), (⟨"SliceSeller$Ways", "insert", "(I)V"⟩, 5), (⟨"SliceSeller$Cut", "roomOutOf", "(LSliceSeller$Net;I)I"⟩, 3), (⟨"SliceSeller$Cut", "weigh", "(II)V"⟩, 3), (⟨"SliceSeller$Places", "gather", "(LSliceSeller$Net;LSliceSeller$Slice;LSliceSeller$Ways;)V"⟩, 5), (⟨"SliceSeller$Places", "gatherSpares", "(LSliceSeller$Net;LSliceSeller$Slice;LSliceSeller$Ways;I)V"⟩, 5), (⟨"SliceSeller$Places", "gatherHosts", "(LSliceSeller$Net;III)V"⟩, 5), (⟨"SliceSeller$Book", "linesHoldAt", "(LSliceSeller$Net;III)Z"⟩, 5), (⟨"SliceSeller$Book", "fallWith", "(IIII)I"⟩, 5), (⟨"SliceSeller", "comeIn", "(LSliceSeller$Slice;I)V"⟩, 8), (⟨"SliceSeller$Book", "enterLines", "(LSliceSeller$Net;III)V"⟩, 5), (⟨"SliceSeller$Book", "enterFalls", "(IIII)V"⟩, 5), (⟨"SliceSeller", "whyNoRoom", "(LSliceSeller$Slice;LSliceSeller$Places;)I"⟩, 8), (⟨"SliceSeller", "goOut", "(LSliceSeller$Slice;)V"⟩, 8), (⟨"SliceSeller$Net", "lineFrom", "(II)I"⟩, 6)]
theorem lw_r1 : ∀ q ∈ lw_privs_1, lw_okq q := List.forall_mem_cons.mpr ⟨lw_p0, List.forall_mem_cons.mpr ⟨lw_p1, List.forall_mem_cons.mpr ⟨lw_p2, List.forall_mem_cons.mpr ⟨lw_p3, List.forall_mem_cons.mpr ⟨lw_p4, List.forall_mem_cons.mpr ⟨lw_p5, List.forall_mem_cons.mpr ⟨lw_p6, List.forall_mem_cons.mpr ⟨lw_p7, List.forall_mem_cons.mpr ⟨lw_p8, List.forall_mem_cons.mpr ⟨lw_p9, List.forall_mem_cons.mpr ⟨lw_p10, List.forall_mem_cons.mpr ⟨lw_p11, List.forall_mem_cons.mpr ⟨lw_p12, List.forall_mem_cons.mpr ⟨lw_p13, List.forall_mem_cons.mpr ⟨lw_p14, List.forall_mem_cons.mpr ⟨lw_p15, fun _ h => absurd h List.not_mem_nil⟩⟩⟩⟩⟩⟩⟩⟩⟩⟩⟩⟩⟩⟩⟩⟩
theorem lw_p16 : lw_okq (⟨"SliceSeller$Layer", "findUnlikeTicks", "()V"⟩, 13) := ⟨⟨by decide +kernel, by decide +kernel⟩, List.mem_of_getElem? (i := 303) (by decide +kernel), List.mem_of_getElem? (i := 845) (by decide +kernel), List.mem_of_getElem? (i := 846) (by decide +kernel)⟩
theorem lw_p17 : lw_okq (⟨"SliceSeller$Layer", "countingAt", "(I)I"⟩, 13) := ⟨⟨by decide +kernel, by decide +kernel⟩, List.mem_of_getElem? (i := 303) (by decide +kernel), List.mem_of_getElem? (i := 849) (by decide +kernel), List.mem_of_getElem? (i := 850) (by decide +kernel)⟩
theorem lw_p18 : lw_okq (⟨"SliceSeller$Layer", "isKnown", "(I)Z"⟩, 13) := ⟨⟨by decide +kernel, by decide +kernel⟩, List.mem_of_getElem? (i := 303) (by decide +kernel), List.mem_of_getElem? (i := 855) (by decide +kernel), List.mem_of_getElem? (i := 856) (by decide +kernel)⟩
theorem lw_p19 : lw_okq (⟨"SliceSeller$Layer", "note", "(I)V"⟩, 13) := ⟨⟨by decide +kernel, by decide +kernel⟩, List.mem_of_getElem? (i := 303) (by decide +kernel), List.mem_of_getElem? (i := 859) (by decide +kernel), List.mem_of_getElem? (i := 860) (by decide +kernel)⟩
theorem lw_p20 : lw_okq (⟨"SliceSeller$Layer", "gatherMembers", "(I)V"⟩, 13) := ⟨⟨by decide +kernel, by decide +kernel⟩, List.mem_of_getElem? (i := 303) (by decide +kernel), List.mem_of_getElem? (i := 867) (by decide +kernel), List.mem_of_getElem? (i := 868) (by decide +kernel)⟩
theorem lw_p21 : lw_okq (⟨"SliceSeller$Layer", "nextPlace", "(II)I"⟩, 13) := ⟨⟨by decide +kernel, by decide +kernel⟩, List.mem_of_getElem? (i := 303) (by decide +kernel), List.mem_of_getElem? (i := 871) (by decide +kernel), List.mem_of_getElem? (i := 872) (by decide +kernel)⟩
theorem lw_p22 : lw_okq (⟨"SliceSeller$Layer", "put", "(II)V"⟩, 13) := ⟨⟨by decide +kernel, by decide +kernel⟩, List.mem_of_getElem? (i := 303) (by decide +kernel), List.mem_of_getElem? (i := 878) (by decide +kernel), List.mem_of_getElem? (i := 879) (by decide +kernel)⟩
theorem lw_p23 : lw_okq (⟨"SliceSeller$Layer", "takeBack", "(I)V"⟩, 13) := ⟨⟨by decide +kernel, by decide +kernel⟩, List.mem_of_getElem? (i := 303) (by decide +kernel), List.mem_of_getElem? (i := 883) (by decide +kernel), List.mem_of_getElem? (i := 884) (by decide +kernel)⟩
theorem lw_p24 : lw_okq (⟨"SliceSeller", "takeOver", "(I)I"⟩, 8) := ⟨⟨by decide +kernel, by decide +kernel⟩, List.mem_of_getElem? (i := 18) (by decide +kernel), List.mem_of_getElem? (i := 888) (by decide +kernel), List.mem_of_getElem? (i := 889) (by decide +kernel)⟩
theorem lw_p25 : lw_okq (⟨"SliceSeller$Layer", "orderSets", "()I"⟩, 13) := ⟨⟨by decide +kernel, by decide +kernel⟩, List.mem_of_getElem? (i := 303) (by decide +kernel), List.mem_of_getElem? (i := 909) (by decide +kernel), List.mem_of_getElem? (i := 910) (by decide +kernel)⟩
theorem lw_p26 : lw_okq (⟨"SliceSeller$Layer", "mergeShifted", "(II)V"⟩, 13) := ⟨⟨by decide +kernel, by decide +kernel⟩, List.mem_of_getElem? (i := 303) (by decide +kernel), List.mem_of_getElem? (i := 914) (by decide +kernel), List.mem_of_getElem? (i := 915) (by decide +kernel)⟩
theorem lw_p27 : lw_okq (⟨"SliceSeller$Day", "forgetLatest", "()V"⟩, 6) := ⟨⟨by decide +kernel, by decide +kernel⟩, List.mem_of_getElem? (i := 353) (by decide +kernel), List.mem_of_getElem? (i := 935) (by decide +kernel), List.mem_of_getElem? (i := 936) (by decide +kernel)⟩
theorem lw_p28 : lw_okq (⟨"SliceSeller$Day", "passNeeds", "()V"⟩, 6) := ⟨⟨by decide +kernel, by decide +kernel⟩, List.mem_of_getElem? (i := 353) (by decide +kernel), List.mem_of_getElem? (i := 941) (by decide +kernel), List.mem_of_getElem? (i := 942) (by decide +kernel)⟩
theorem lw_p29 : lw_okq (⟨"SliceSeller$Day", "wayNow", "(LSliceSeller$Slice;)I"⟩, 6) := ⟨⟨by decide +kernel, by decide +kernel⟩, List.mem_of_getElem? (i := 353) (by decide +kernel), List.mem_of_getElem? (i := 945) (by decide +kernel), List.mem_of_getElem? (i := 946) (by decide +kernel)⟩
theorem lw_p30 : lw_okq (⟨"SliceSeller$Day", "leftOn", "(I)I"⟩, 6) := ⟨⟨by decide +kernel, by decide +kernel⟩, List.mem_of_getElem? (i := 353) (by decide +kernel), List.mem_of_getElem? (i := 954) (by decide +kernel), List.mem_of_getElem? (i := 955) (by decide +kernel)⟩
theorem lw_p31 : lw_okq (⟨"SliceSeller$Day", "pass", "(LSliceSeller$Slice;II)V"⟩, 6) := ⟨⟨by decide +kernel, by decide +kernel⟩, List.mem_of_getElem? (i := 353) (by decide +kernel), List.mem_of_getElem? (i := 962) (by decide +kernel), List.mem_of_getElem? (i := 963) (by decide +kernel)⟩
def lw_privs_2 : List (MethodName × Nat) := [(⟨"SliceSeller$Layer", "findUnlikeTicks", "()V"⟩, 13), (⟨"SliceSeller$Layer", "countingAt", "(I)I"⟩, 13), (⟨"SliceSeller$Layer", "isKnown", "(I)Z"⟩, 13), (⟨"SliceSeller$Layer", "note", "(I)V"⟩, 13), (⟨"SliceSeller$Layer", "gatherMembers", "(I)V"⟩, 13), (⟨"SliceSeller$Layer", "nextPlace", "(II)I"⟩, 13), (⟨"SliceSeller$Layer", "put", "(II)V"⟩, 13), (⟨"SliceSeller$Layer", "takeBack", "(I)V"⟩, 13), (⟨"SliceSeller", "takeOver", "(I)I"⟩, 8), (⟨"SliceSeller$Layer", "orderSets", "()I"⟩, 13), (⟨"SliceSeller$Layer", "mergeShifted", "(II)V"⟩, 13), (⟨"SliceSeller$Day", "forgetLatest", "()V"⟩, 6), (⟨"SliceSeller$Day", "passNeeds", "()V"⟩, 6), (⟨"SliceSeller$Day", "wayNow", "(LSliceSeller$Slice;)I"⟩, 6), (⟨"SliceSeller$Day", "leftOn", "(I)I"⟩, 6), (⟨"SliceSeller$Day", "pass", "(LSliceSeller$Slice;II)V"⟩, 6)]
theorem lw_r2 : ∀ q ∈ lw_privs_2, lw_okq q := List.forall_mem_cons.mpr ⟨lw_p16, List.forall_mem_cons.mpr ⟨lw_p17, List.forall_mem_cons.mpr ⟨lw_p18, List.forall_mem_cons.mpr ⟨lw_p19, List.forall_mem_cons.mpr ⟨lw_p20, List.forall_mem_cons.mpr ⟨lw_p21, List.forall_mem_cons.mpr ⟨lw_p22, List.forall_mem_cons.mpr ⟨lw_p23, List.forall_mem_cons.mpr ⟨lw_p24, List.forall_mem_cons.mpr ⟨lw_p25, List.forall_mem_cons.mpr ⟨lw_p26, List.forall_mem_cons.mpr ⟨lw_p27, List.forall_mem_cons.mpr ⟨lw_p28, List.forall_mem_cons.mpr ⟨lw_p29, List.forall_mem_cons.mpr ⟨lw_p30, List.forall_mem_cons.mpr ⟨lw_p31, fun _ h => absurd h List.not_mem_nil⟩⟩⟩⟩⟩⟩⟩⟩⟩⟩⟩⟩⟩⟩⟩⟩
theorem lw_p32 : lw_okq (⟨"SliceSeller$Day", "lend", "()V"⟩, 6) := ⟨⟨by decide +kernel, by decide +kernel⟩, List.mem_of_getElem? (i := 353) (by decide +kernel), List.mem_of_getElem? (i := 970) (by decide +kernel), List.mem_of_getElem? (i := 971) (by decide +kernel)⟩
theorem lw_p33 : lw_okq (⟨"SliceSeller$Day", "canBorrow", "(LSliceSeller$Slice;)Z"⟩, 6) := ⟨⟨by decide +kernel, by decide +kernel⟩, List.mem_of_getElem? (i := 353) (by decide +kernel), List.mem_of_getElem? (i := 974) (by decide +kernel), List.mem_of_getElem? (i := 975) (by decide +kernel)⟩
theorem lw_p34 : lw_okq (⟨"SliceSeller$Sheet", "lowest", "(I)I"⟩, 3) := ⟨⟨by decide +kernel, by decide +kernel⟩, List.mem_of_getElem? (i := 382) (by decide +kernel), List.mem_of_getElem? (i := 1013) (by decide +kernel), List.mem_of_getElem? (i := 1014) (by decide +kernel)⟩
theorem lw_p35 : lw_okq (⟨"SliceSellerModel", "finds", "(I)I"⟩, 67) := ⟨⟨by decide +kernel, by decide +kernel⟩, List.mem_of_getElem? (i := 1058) (by decide +kernel), List.mem_of_getElem? (i := 1275) (by decide +kernel), List.mem_of_getElem? (i := 1276) (by decide +kernel)⟩
theorem lw_p36 : lw_okq (⟨"SliceSellerModel", "isNode", "(I)Z"⟩, 67) := ⟨⟨by decide +kernel, by decide +kernel⟩, List.mem_of_getElem? (i := 1058) (by decide +kernel), List.mem_of_getElem? (i := 1284) (by decide +kernel), List.mem_of_getElem? (i := 1285) (by decide +kernel)⟩
theorem lw_p37 : lw_okq (⟨"SliceSellerModel", "isLine", "(I)Z"⟩, 67) := ⟨⟨by decide +kernel, by decide +kernel⟩, List.mem_of_getElem? (i := 1058) (by decide +kernel), List.mem_of_getElem? (i := 1292) (by decide +kernel), List.mem_of_getElem? (i := 1293) (by decide +kernel)⟩
theorem lw_p38 : lw_okq (⟨"SliceSellerModel", "areNodes", "(II)Z"⟩, 67) := ⟨⟨by decide +kernel, by decide +kernel⟩, List.mem_of_getElem? (i := 1058) (by decide +kernel), List.mem_of_getElem? (i := 1300) (by decide +kernel), List.mem_of_getElem? (i := 1301) (by decide +kernel)⟩
theorem lw_p39 : lw_okq (⟨"SliceSellerModel", "gather", "(III)V"⟩, 67) := ⟨⟨by decide +kernel, by decide +kernel⟩, List.mem_of_getElem? (i := 1058) (by decide +kernel), List.mem_of_getElem? (i := 1304) (by decide +kernel), List.mem_of_getElem? (i := 1305) (by decide +kernel)⟩
theorem lw_p40 : lw_okq (⟨"SliceSellerModel", "record", "(III)V"⟩, 67) := ⟨⟨by decide +kernel, by decide +kernel⟩, List.mem_of_getElem? (i := 1058) (by decide +kernel), List.mem_of_getElem? (i := 1311) (by decide +kernel), List.mem_of_getElem? (i := 1312) (by decide +kernel)⟩
theorem lw_p41 : lw_okq (⟨"SliceSellerModel", "isAhead", "(IIII)Z"⟩, 67) := ⟨⟨by decide +kernel, by decide +kernel⟩, List.mem_of_getElem? (i := 1058) (by decide +kernel), List.mem_of_getElem? (i := 1315) (by decide +kernel), List.mem_of_getElem? (i := 1316) (by decide +kernel)⟩
theorem lw_p42 : lw_okq (⟨"SliceSellerModel", "isSlice", "(I)Z"⟩, 67) := ⟨⟨by decide +kernel, by decide +kernel⟩, List.mem_of_getElem? (i := 1058) (by decide +kernel), List.mem_of_getElem? (i := 1335) (by decide +kernel), List.mem_of_getElem? (i := 1336) (by decide +kernel)⟩
theorem lw_p43 : lw_okq (⟨"SliceSellerModel", "need", "(I)I"⟩, 67) := ⟨⟨by decide +kernel, by decide +kernel⟩, List.mem_of_getElem? (i := 1058) (by decide +kernel), List.mem_of_getElem? (i := 1356) (by decide +kernel), List.mem_of_getElem? (i := 1357) (by decide +kernel)⟩
theorem lw_p44 : lw_okq (⟨"SliceSellerModel", "countingAt", "(I)I"⟩, 67) := ⟨⟨by decide +kernel, by decide +kernel⟩, List.mem_of_getElem? (i := 1058) (by decide +kernel), List.mem_of_getElem? (i := 1364) (by decide +kernel), List.mem_of_getElem? (i := 1365) (by decide +kernel)⟩
theorem lw_p45 : lw_okq (⟨"SliceSellerModel", "does", "(II)Z"⟩, 67) := ⟨⟨by decide +kernel, by decide +kernel⟩, List.mem_of_getElem? (i := 1058) (by decide +kernel), List.mem_of_getElem? (i := 1368) (by decide +kernel), List.mem_of_getElem? (i := 1369) (by decide +kernel)⟩
theorem lw_p46 : lw_okq (⟨"SliceSellerModel", "loadOf", "(II)I"⟩, 67) := ⟨⟨by decide +kernel, by decide +kernel⟩, List.mem_of_getElem? (i := 1058) (by decide +kernel), List.mem_of_getElem? (i := 1372) (by decide +kernel), List.mem_of_getElem? (i := 1373) (by decide +kernel)⟩
theorem lw_p47 : lw_okq (⟨"SliceSellerModel", "fallOf", "(II)I"⟩, 67) := ⟨⟨by decide +kernel, by decide +kernel⟩, List.mem_of_getElem? (i := 1058) (by decide +kernel), List.mem_of_getElem? (i := 1380) (by decide +kernel), List.mem_of_getElem? (i := 1381) (by decide +kernel)⟩
def lw_privs_3 : List (MethodName × Nat) := [(⟨"SliceSeller$Day", "lend", "()V"⟩, 6), (⟨"SliceSeller$Day", "canBorrow", "(LSliceSeller$Slice;)Z"⟩, 6), (⟨"SliceSeller$Sheet", "lowest", "(I)I"⟩, 3), (⟨"SliceSellerModel", "finds", "(I)I"⟩, 67), (⟨"SliceSellerModel", "isNode", "(I)Z"⟩, 67), (⟨"SliceSellerModel", "isLine", "(I)Z"⟩, 67), (⟨"SliceSellerModel", "areNodes", "(II)Z"⟩, 67), (⟨"SliceSellerModel", "gather", "(III)V"⟩, 67), (⟨"SliceSellerModel", "record", "(III)V"⟩, 67), (⟨"SliceSellerModel", "isAhead", "(IIII)Z"⟩, 67), (⟨"SliceSellerModel", "isSlice", "(I)Z"⟩, 67), (⟨"SliceSellerModel", "need", "(I)I"⟩, 67), (⟨"SliceSellerModel", "countingAt", "(I)I"⟩, 67), (⟨"SliceSellerModel", "does", "(II)Z"⟩, 67), (⟨"SliceSellerModel", "loadOf", "(II)I"⟩, 67), (⟨"SliceSellerModel", "fallOf", "(II)I"⟩, 67)]
theorem lw_r3 : ∀ q ∈ lw_privs_3, lw_okq q := List.forall_mem_cons.mpr ⟨lw_p32, List.forall_mem_cons.mpr ⟨lw_p33, List.forall_mem_cons.mpr ⟨lw_p34, List.forall_mem_cons.mpr ⟨lw_p35, List.forall_mem_cons.mpr ⟨lw_p36, List.forall_mem_cons.mpr ⟨lw_p37, List.forall_mem_cons.mpr ⟨lw_p38, List.forall_mem_cons.mpr ⟨lw_p39, List.forall_mem_cons.mpr ⟨lw_p40, List.forall_mem_cons.mpr ⟨lw_p41, List.forall_mem_cons.mpr ⟨lw_p42, List.forall_mem_cons.mpr ⟨lw_p43, List.forall_mem_cons.mpr ⟨lw_p44, List.forall_mem_cons.mpr ⟨lw_p45, List.forall_mem_cons.mpr ⟨lw_p46, List.forall_mem_cons.mpr ⟨lw_p47, fun _ h => absurd h List.not_mem_nil⟩⟩⟩⟩⟩⟩⟩⟩⟩⟩⟩⟩⟩⟩⟩⟩
theorem lw_p48 : lw_okq (⟨"SliceSellerModel", "workOf", "(II)I"⟩, 67) := ⟨⟨by decide +kernel, by decide +kernel⟩, List.mem_of_getElem? (i := 1058) (by decide +kernel), List.mem_of_getElem? (i := 1388) (by decide +kernel), List.mem_of_getElem? (i := 1389) (by decide +kernel)⟩
theorem lw_p49 : lw_okq (⟨"SliceSellerModel", "leftOf", "(II)I"⟩, 67) := ⟨⟨by decide +kernel, by decide +kernel⟩, List.mem_of_getElem? (i := 1058) (by decide +kernel), List.mem_of_getElem? (i := 1396) (by decide +kernel), List.mem_of_getElem? (i := 1397) (by decide +kernel)⟩
theorem lw_p50 : lw_okq (⟨"SliceSellerModel", "findCut", "(III)V"⟩, 67) := ⟨⟨by decide +kernel, by decide +kernel⟩, List.mem_of_getElem? (i := 1058) (by decide +kernel), List.mem_of_getElem? (i := 1404) (by decide +kernel), List.mem_of_getElem? (i := 1405) (by decide +kernel)⟩
theorem lw_p51 : lw_okq (⟨"SliceSellerModel", "start", "(I)V"⟩, 67) := ⟨⟨by decide +kernel, by decide +kernel⟩, List.mem_of_getElem? (i := 1058) (by decide +kernel), List.mem_of_getElem? (i := 1420) (by decide +kernel), List.mem_of_getElem? (i := 1421) (by decide +kernel)⟩
theorem lw_p52 : lw_okq (⟨"SliceSellerModel", "advance", "(I)Z"⟩, 67) := ⟨⟨by decide +kernel, by decide +kernel⟩, List.mem_of_getElem? (i := 1058) (by decide +kernel), List.mem_of_getElem? (i := 1424) (by decide +kernel), List.mem_of_getElem? (i := 1425) (by decide +kernel)⟩
theorem lw_p53 : lw_okq (⟨"SliceSellerModel", "puts", "(I)Z"⟩, 67) := ⟨⟨by decide +kernel, by decide +kernel⟩, List.mem_of_getElem? (i := 1058) (by decide +kernel), List.mem_of_getElem? (i := 1432) (by decide +kernel), List.mem_of_getElem? (i := 1433) (by decide +kernel)⟩
theorem lw_p54 : lw_okq (⟨"SliceSellerModel", "areUp", "(I)Z"⟩, 67) := ⟨⟨by decide +kernel, by decide +kernel⟩, List.mem_of_getElem? (i := 1058) (by decide +kernel), List.mem_of_getElem? (i := 1436) (by decide +kernel), List.mem_of_getElem? (i := 1437) (by decide +kernel)⟩
theorem lw_p55 : lw_okq (⟨"SliceSellerModel", "holds", "(Z)Z"⟩, 67) := ⟨⟨by decide +kernel, by decide +kernel⟩, List.mem_of_getElem? (i := 1058) (by decide +kernel), List.mem_of_getElem? (i := 1440) (by decide +kernel), List.mem_of_getElem? (i := 1441) (by decide +kernel)⟩
theorem lw_p56 : lw_okq (⟨"SliceSellerModel", "linesHold", "(I)Z"⟩, 67) := ⟨⟨by decide +kernel, by decide +kernel⟩, List.mem_of_getElem? (i := 1058) (by decide +kernel), List.mem_of_getElem? (i := 1444) (by decide +kernel), List.mem_of_getElem? (i := 1445) (by decide +kernel)⟩
theorem lw_p57 : lw_okq (⟨"SliceSellerModel", "takes", "(II)I"⟩, 67) := ⟨⟨by decide +kernel, by decide +kernel⟩, List.mem_of_getElem? (i := 1058) (by decide +kernel), List.mem_of_getElem? (i := 1468) (by decide +kernel), List.mem_of_getElem? (i := 1469) (by decide +kernel)⟩
theorem lw_p58 : lw_okq (⟨"SliceSellerModel", "isOfThem", "(I)Z"⟩, 67) := ⟨⟨by decide +kernel, by decide +kernel⟩, List.mem_of_getElem? (i := 1058) (by decide +kernel), List.mem_of_getElem? (i := 1476) (by decide +kernel), List.mem_of_getElem? (i := 1477) (by decide +kernel)⟩
theorem lw_p59 : lw_okq (⟨"SliceSellerModel", "keeps", "()V"⟩, 67) := ⟨⟨by decide +kernel, by decide +kernel⟩, List.mem_of_getElem? (i := 1058) (by decide +kernel), List.mem_of_getElem? (i := 1480) (by decide +kernel), List.mem_of_getElem? (i := 1481) (by decide +kernel)⟩
theorem lw_p60 : lw_okq (⟨"SliceSellerModel", "lays", "(I)I"⟩, 67) := ⟨⟨by decide +kernel, by decide +kernel⟩, List.mem_of_getElem? (i := 1058) (by decide +kernel), List.mem_of_getElem? (i := 1484) (by decide +kernel), List.mem_of_getElem? (i := 1485) (by decide +kernel)⟩
theorem lw_p61 : lw_okq (⟨"SliceSellerModel", "after", "(II)I"⟩, 67) := ⟨⟨by decide +kernel, by decide +kernel⟩, List.mem_of_getElem? (i := 1058) (by decide +kernel), List.mem_of_getElem? (i := 1488) (by decide +kernel), List.mem_of_getElem? (i := 1489) (by decide +kernel)⟩
theorem lw_p62 : lw_okq (⟨"SliceSellerModel", "comesIn", "(I)I"⟩, 67) := ⟨⟨by decide +kernel, by decide +kernel⟩, List.mem_of_getElem? (i := 1058) (by decide +kernel), List.mem_of_getElem? (i := 1492) (by decide +kernel), List.mem_of_getElem? (i := 1493) (by decide +kernel)⟩
theorem lw_p63 : lw_okq (⟨"SliceSellerModel", "before", "(II)I"⟩, 67) := ⟨⟨by decide +kernel, by decide +kernel⟩, List.mem_of_getElem? (i := 1058) (by decide +kernel), List.mem_of_getElem? (i := 1497) (by decide +kernel), List.mem_of_getElem? (i := 1498) (by decide +kernel)⟩
def lw_privs_4 : List (MethodName × Nat) := [(⟨"SliceSellerModel", "workOf", "(II)I"⟩, 67), (⟨"SliceSellerModel", "leftOf", "(II)I"⟩, 67), (⟨"SliceSellerModel", "findCut", "(III)V"⟩, 67), (⟨"SliceSellerModel", "start", "(I)V"⟩, 67), (⟨"SliceSellerModel", "advance", "(I)Z"⟩, 67), (⟨"SliceSellerModel", "puts", "(I)Z"⟩, 67), (⟨"SliceSellerModel", "areUp", "(I)Z"⟩, 67), (⟨"SliceSellerModel", "holds", "(Z)Z"⟩, 67), (⟨"SliceSellerModel", "linesHold", "(I)Z"⟩, 67), (⟨"SliceSellerModel", "takes", "(II)I"⟩, 67), (⟨"SliceSellerModel", "isOfThem", "(I)Z"⟩, 67), (⟨"SliceSellerModel", "keeps", "()V"⟩, 67), (⟨"SliceSellerModel", "lays", "(I)I"⟩, 67), (⟨"SliceSellerModel", "after", "(II)I"⟩, 67), (⟨"SliceSellerModel", "comesIn", "(I)I"⟩, 67), (⟨"SliceSellerModel", "before", "(II)I"⟩, 67)]
theorem lw_r4 : ∀ q ∈ lw_privs_4, lw_okq q := List.forall_mem_cons.mpr ⟨lw_p48, List.forall_mem_cons.mpr ⟨lw_p49, List.forall_mem_cons.mpr ⟨lw_p50, List.forall_mem_cons.mpr ⟨lw_p51, List.forall_mem_cons.mpr ⟨lw_p52, List.forall_mem_cons.mpr ⟨lw_p53, List.forall_mem_cons.mpr ⟨lw_p54, List.forall_mem_cons.mpr ⟨lw_p55, List.forall_mem_cons.mpr ⟨lw_p56, List.forall_mem_cons.mpr ⟨lw_p57, List.forall_mem_cons.mpr ⟨lw_p58, List.forall_mem_cons.mpr ⟨lw_p59, List.forall_mem_cons.mpr ⟨lw_p60, List.forall_mem_cons.mpr ⟨lw_p61, List.forall_mem_cons.mpr ⟨lw_p62, List.forall_mem_cons.mpr ⟨lw_p63, fun _ h => absurd h List.not_mem_nil⟩⟩⟩⟩⟩⟩⟩⟩⟩⟩⟩⟩⟩⟩⟩⟩
theorem lw_p64 : lw_okq (⟨"SliceSellerModel", "backTo", "()V"⟩, 67) := ⟨⟨by decide +kernel, by decide +kernel⟩, List.mem_of_getElem? (i := 1058) (by decide +kernel), List.mem_of_getElem? (i := 1501) (by decide +kernel), List.mem_of_getElem? (i := 1502) (by decide +kernel)⟩
theorem lw_p65 : lw_okq (⟨"SliceSellerModel", "worthOf", "(I)I"⟩, 67) := ⟨⟨by decide +kernel, by decide +kernel⟩, List.mem_of_getElem? (i := 1058) (by decide +kernel), List.mem_of_getElem? (i := 1513) (by decide +kernel), List.mem_of_getElem? (i := 1514) (by decide +kernel)⟩
theorem lw_p66 : lw_okq (⟨"SliceSellerModel", "oneTick", "()V"⟩, 67) := ⟨⟨by decide +kernel, by decide +kernel⟩, List.mem_of_getElem? (i := 1058) (by decide +kernel), List.mem_of_getElem? (i := 1529) (by decide +kernel), List.mem_of_getElem? (i := 1530) (by decide +kernel)⟩
theorem lw_p67 : lw_okq (⟨"SliceSellerModel", "leftIn", "(I)I"⟩, 67) := ⟨⟨by decide +kernel, by decide +kernel⟩, List.mem_of_getElem? (i := 1058) (by decide +kernel), List.mem_of_getElem? (i := 1533) (by decide +kernel), List.mem_of_getElem? (i := 1534) (by decide +kernel)⟩
theorem lw_p68 : lw_okq (⟨"SliceSellerModel", "passes", "(III)V"⟩, 67) := ⟨⟨by decide +kernel, by decide +kernel⟩, List.mem_of_getElem? (i := 1058) (by decide +kernel), List.mem_of_getElem? (i := 1537) (by decide +kernel), List.mem_of_getElem? (i := 1538) (by decide +kernel)⟩
theorem lw_p69 : lw_okq (⟨"SliceSellerModel", "countIn", "()I"⟩, 67) := ⟨⟨by decide +kernel, by decide +kernel⟩, List.mem_of_getElem? (i := 1058) (by decide +kernel), List.mem_of_getElem? (i := 1570) (by decide +kernel), List.mem_of_getElem? (i := 1571) (by decide +kernel)⟩
def lw_privs_5 : List (MethodName × Nat) := [(⟨"SliceSellerModel", "backTo", "()V"⟩, 67), (⟨"SliceSellerModel", "worthOf", "(I)I"⟩, 67), (⟨"SliceSellerModel", "oneTick", "()V"⟩, 67), (⟨"SliceSellerModel", "leftIn", "(I)I"⟩, 67), (⟨"SliceSellerModel", "passes", "(III)V"⟩, 67), (⟨"SliceSellerModel", "countIn", "()I"⟩, 67)]
theorem lw_r5 : ∀ q ∈ lw_privs_5, lw_okq q := List.forall_mem_cons.mpr ⟨lw_p64, List.forall_mem_cons.mpr ⟨lw_p65, List.forall_mem_cons.mpr ⟨lw_p66, List.forall_mem_cons.mpr ⟨lw_p67, List.forall_mem_cons.mpr ⟨lw_p68, List.forall_mem_cons.mpr ⟨lw_p69, fun _ h => absurd h List.not_mem_nil⟩⟩⟩⟩⟩⟩
def lw_privs : List (MethodName × Nat) := lw_privs_1 ++ (lw_privs_2 ++ (lw_privs_3 ++ (lw_privs_4 ++ (lw_privs_5))))
def lw_tbl : List Cond := k2_sels lw_privs ++ tables_1
theorem lw_privs_ok : ∀ q ∈ lw_privs, lw_okq q := by
  show ∀ q ∈ lw_privs_1 ++ (lw_privs_2 ++ (lw_privs_3 ++ (lw_privs_4 ++ (lw_privs_5)))), lw_okq q
  exact List.forall_mem_append.mpr ⟨lw_r1, List.forall_mem_append.mpr ⟨lw_r2, List.forall_mem_append.mpr ⟨lw_r3, List.forall_mem_append.mpr ⟨lw_r4, lw_r5⟩⟩⟩⟩
end
section
def RX0 : String := "SliceSeller$Book"
def TX0 : u_T := fun k => match k with
  | 0 => ("SliceSeller$Book", "loads", "[I", true)
  | 1 => ("SliceSeller$Book", "falls", "[I", true)
  | 2 => ("SliceSeller$Book", "pairs", "[I", true)
  | 3 => ("SliceSeller$Book", "works", "[I", true)
  | _ => ("SliceSeller$Book", "ticks", "I", false)
def tyX0 : Nat → FieldType := fun k => match k with
  | 0 => .array .int
  | 1 => .array .int
  | 2 => .array .int
  | 3 => .array .int
  | _ => .int
abbrev wsX00 : List Cond := u_ws RX0 TX0 5
theorem nmX0 : ∀ a, a < 5 → ∀ b, b < 5 → a ≠ b → (TX0 a).2.1 ≠ (TX0 b).2.1 := by decide +kernel
theorem tyX0_ok : ∀ k, k < 5 → parseFieldDescriptor (TX0 k).2.2.1 = some (tyX0 k) := by decide +kernel
abbrev cX0_init : ByteArray := prog_2_method_1_code
def yX0_init : MethodName := ⟨RX0, "<init>", "()V"⟩
abbrev cX0_loadAt : ByteArray := prog_2_method_2_code
def yX0_loadAt : MethodName := ⟨RX0, "loadAt", "(II)I"⟩
abbrev cX0_fallAt : ByteArray := prog_2_method_3_code
def yX0_fallAt : MethodName := ⟨RX0, "fallAt", "(II)I"⟩
abbrev cX0_worksAt : ByteArray := prog_2_method_4_code
def yX0_worksAt : MethodName := ⟨RX0, "worksAt", "(II)I"⟩
abbrev cX0_freeAt : ByteArray := prog_2_method_5_code
def yX0_freeAt : MethodName := ⟨RX0, "freeAt", "(LSliceSeller$Net;II)I"⟩
abbrev cX0_linesHold : ByteArray := prog_2_method_6_code
def yX0_linesHold : MethodName := ⟨RX0, "linesHold", "(LSliceSeller$Net;LSliceSeller$Slice;II)Z"⟩
abbrev cX0_hostHolds : ByteArray := prog_2_method_7_code
def yX0_hostHolds : MethodName := ⟨RX0, "hostHolds", "(LSliceSeller$Net;LSliceSeller$Slice;II)Z"⟩
abbrev cX0_linesHoldAt : ByteArray := prog_2_method_8_code
def yX0_linesHoldAt : MethodName := ⟨RX0, "linesHoldAt", "(LSliceSeller$Net;III)Z"⟩
abbrev cX0_fallWith : ByteArray := prog_2_method_9_code
def yX0_fallWith : MethodName := ⟨RX0, "fallWith", "(IIII)I"⟩
abbrev cX0_enter : ByteArray := prog_2_method_10_code
def yX0_enter : MethodName := ⟨RX0, "enter", "(LSliceSeller$Net;LSliceSeller$Slice;III)V"⟩
abbrev cX0_enterLines : ByteArray := prog_2_method_11_code
def yX0_enterLines : MethodName := ⟨RX0, "enterLines", "(LSliceSeller$Net;III)V"⟩
abbrev cX0_enterFalls : ByteArray := prog_2_method_12_code
def yX0_enterFalls : MethodName := ⟨RX0, "enterFalls", "(IIII)V"⟩
def RX1 : String := "SliceSeller$Cut"
def TX1 : u_T := fun k => match k with
  | 0 => ("SliceSeller$Cut", "free", "[I", true)
  | 1 => ("SliceSeller$Cut", "room", "I", false)
  | _ => ("SliceSeller$Cut", "set", "I", false)
def tyX1 : Nat → FieldType := fun k => match k with
  | 0 => .array .int
  | 1 => .int
  | _ => .int
abbrev wsX10 : List Cond := u_ws RX1 TX1 3
theorem nmX1 : ∀ a, a < 3 → ∀ b, b < 3 → a ≠ b → (TX1 a).2.1 ≠ (TX1 b).2.1 := by decide +kernel
theorem tyX1_ok : ∀ k, k < 3 → parseFieldDescriptor (TX1 k).2.2.1 = some (tyX1 k) := by decide +kernel
abbrev cX1_init : ByteArray := prog_3_method_1_code
def yX1_init : MethodName := ⟨RX1, "<init>", "()V"⟩
abbrev cX1_find : ByteArray := prog_3_method_2_code
def yX1_find : MethodName := ⟨RX1, "find", "(LSliceSeller$Net;LSliceSeller$Book;III)V"⟩
abbrev cX1_roomOutOf : ByteArray := prog_3_method_3_code
def yX1_roomOutOf : MethodName := ⟨RX1, "roomOutOf", "(LSliceSeller$Net;I)I"⟩
abbrev cX1_weigh : ByteArray := prog_3_method_4_code
def yX1_weigh : MethodName := ⟨RX1, "weigh", "(II)V"⟩
def RX2 : String := "SliceSeller$Day"
def TX2 : u_T := fun k => match k with
  | 0 => ("SliceSeller$Day", "net", "LSliceSeller$Net;", true)
  | 1 => ("SliceSeller$Day", "slices", "LSliceSeller$Slices;", true)
  | 2 => ("SliceSeller$Day", "lentTo", "I", false)
  | 3 => ("SliceSeller$Day", "tick", "I", false)
  | 4 => ("SliceSeller$Day", "passed", "I", false)
  | _ => ("SliceSeller$Day", "paid", "I", false)
def tyX2 : Nat → FieldType := fun k => match k with
  | 0 => .object "SliceSeller$Net"
  | 1 => .object "SliceSeller$Slices"
  | 2 => .int
  | 3 => .int
  | 4 => .int
  | _ => .int
abbrev wsX20 : List Cond := u_ws RX2 TX2 6
theorem nmX2 : ∀ a, a < 6 → ∀ b, b < 6 → a ≠ b → (TX2 a).2.1 ≠ (TX2 b).2.1 := by decide +kernel
theorem tyX2_ok : ∀ k, k < 6 → parseFieldDescriptor (TX2 k).2.2.1 = some (tyX2 k) := by decide +kernel
abbrev cX2_init : ByteArray := prog_4_method_1_code
def yX2_init : MethodName := ⟨RX2, "<init>", "(LSliceSeller$Net;LSliceSeller$Slices;)V"⟩
abbrev cX2_doTick : ByteArray := prog_4_method_2_code
def yX2_doTick : MethodName := ⟨RX2, "doTick", "()V"⟩
abbrev cX2_forgetLatest : ByteArray := prog_4_method_3_code
def yX2_forgetLatest : MethodName := ⟨RX2, "forgetLatest", "()V"⟩
abbrev cX2_passNeeds : ByteArray := prog_4_method_4_code
def yX2_passNeeds : MethodName := ⟨RX2, "passNeeds", "()V"⟩
abbrev cX2_lend : ByteArray := prog_4_method_5_code
def yX2_lend : MethodName := ⟨RX2, "lend", "()V"⟩
abbrev cX2_canBorrow : ByteArray := prog_4_method_6_code
def yX2_canBorrow : MethodName := ⟨RX2, "canBorrow", "(LSliceSeller$Slice;)Z"⟩
abbrev cX2_wayNow : ByteArray := prog_4_method_7_code
def yX2_wayNow : MethodName := ⟨RX2, "wayNow", "(LSliceSeller$Slice;)I"⟩
abbrev cX2_leftOn : ByteArray := prog_4_method_8_code
def yX2_leftOn : MethodName := ⟨RX2, "leftOn", "(I)I"⟩
abbrev cX2_pass : ByteArray := prog_4_method_9_code
def yX2_pass : MethodName := ⟨RX2, "pass", "(LSliceSeller$Slice;II)V"⟩
def RX3 : String := "SliceSeller$Layer"
def TX3 : u_T := fun k => match k with
  | 0 => ("SliceSeller$Layer", "net", "LSliceSeller$Net;", true)
  | 1 => ("SliceSeller$Layer", "slices", "LSliceSeller$Slices;", true)
  | 2 => ("SliceSeller$Layer", "trial", "LSliceSeller$Book;", true)
  | 3 => ("SliceSeller$Layer", "unlike", "[I", true)
  | 4 => ("SliceSeller$Layer", "when", "[I", true)
  | 5 => ("SliceSeller$Layer", "members", "[I", true)
  | 6 => ("SliceSeller$Layer", "reached", "[I", true)
  | 7 => ("SliceSeller$Layer", "got", "[I", true)
  | 8 => ("SliceSeller$Layer", "keys", "[I", true)
  | 9 => ("SliceSeller$Layer", "merged", "[I", true)
  | 10 => ("SliceSeller$Layer", "size", "I", false)
  | 11 => ("SliceSeller$Layer", "asked", "I", false)
  | _ => ("SliceSeller$Layer", "spent", "Z", false)
def tyX3 : Nat → FieldType := fun k => match k with
  | 0 => .object "SliceSeller$Net"
  | 1 => .object "SliceSeller$Slices"
  | 2 => .object "SliceSeller$Book"
  | 3 => .array .int
  | 4 => .array .int
  | 5 => .array .int
  | 6 => .array .int
  | 7 => .array .int
  | 8 => .array .int
  | 9 => .array .int
  | 10 => .int
  | 11 => .int
  | _ => .boolean
abbrev wsX30 : List Cond := u_ws RX3 TX3 13
theorem nmX3 : ∀ a, a < 13 → ∀ b, b < 13 → a ≠ b → (TX3 a).2.1 ≠ (TX3 b).2.1 := by decide +kernel
theorem tyX3_ok : ∀ k, k < 13 → parseFieldDescriptor (TX3 k).2.2.1 = some (tyX3 k) := by decide +kernel
abbrev cX3_init : ByteArray := prog_5_method_1_code
def yX3_init : MethodName := ⟨RX3, "<init>", "(LSliceSeller$Net;LSliceSeller$Slices;)V"⟩
abbrev cX3_begin : ByteArray := prog_5_method_2_code
def yX3_begin : MethodName := ⟨RX3, "begin", "()V"⟩
abbrev cX3_placeGot : ByteArray := prog_5_method_3_code
def yX3_placeGot : MethodName := ⟨RX3, "placeGot", "(I)I"⟩
abbrev cX3_laid : ByteArray := prog_5_method_4_code
def yX3_laid : MethodName := ⟨RX3, "laid", "(I)Z"⟩
abbrev cX3_dearest : ByteArray := prog_5_method_5_code
def yX3_dearest : MethodName := ⟨RX3, "dearest", "()I"⟩
abbrev cX3_findUnlikeTicks : ByteArray := prog_5_method_6_code
def yX3_findUnlikeTicks : MethodName := ⟨RX3, "findUnlikeTicks", "()V"⟩
abbrev cX3_countingAt : ByteArray := prog_5_method_7_code
def yX3_countingAt : MethodName := ⟨RX3, "countingAt", "(I)I"⟩
abbrev cX3_isKnown : ByteArray := prog_5_method_8_code
def yX3_isKnown : MethodName := ⟨RX3, "isKnown", "(I)Z"⟩
abbrev cX3_note : ByteArray := prog_5_method_9_code
def yX3_note : MethodName := ⟨RX3, "note", "(I)V"⟩
abbrev cX3_gatherMembers : ByteArray := prog_5_method_10_code
def yX3_gatherMembers : MethodName := ⟨RX3, "gatherMembers", "(I)V"⟩
abbrev cX3_nextPlace : ByteArray := prog_5_method_11_code
def yX3_nextPlace : MethodName := ⟨RX3, "nextPlace", "(II)I"⟩
abbrev cX3_put : ByteArray := prog_5_method_12_code
def yX3_put : MethodName := ⟨RX3, "put", "(II)V"⟩
abbrev cX3_takeBack : ByteArray := prog_5_method_13_code
def yX3_takeBack : MethodName := ⟨RX3, "takeBack", "(I)V"⟩
abbrev cX3_orderSets : ByteArray := prog_5_method_14_code
def yX3_orderSets : MethodName := ⟨RX3, "orderSets", "()I"⟩
abbrev cX3_mergeShifted : ByteArray := prog_5_method_15_code
def yX3_mergeShifted : MethodName := ⟨RX3, "mergeShifted", "(II)V"⟩
def RX4 : String := "SliceSeller$Line"
def TX4 : u_T := fun k => match k with
  | 0 => ("SliceSeller$Line", "a", "I", false)
  | 1 => ("SliceSeller$Line", "b", "I", false)
  | 2 => ("SliceSeller$Line", "room", "I", false)
  | 3 => ("SliceSeller$Line", "late", "I", false)
  | 4 => ("SliceSeller$Line", "price", "I", false)
  | 5 => ("SliceSeller$Line", "passed", "I", false)
  | 6 => ("SliceSeller$Line", "latest", "I", false)
  | _ => ("SliceSeller$Line", "earned", "I", false)
def tyX4 : Nat → FieldType := fun k => match k with
  | 0 => .int
  | 1 => .int
  | 2 => .int
  | 3 => .int
  | 4 => .int
  | 5 => .int
  | 6 => .int
  | _ => .int
abbrev wsX40 : List Cond := u_ws RX4 TX4 8
theorem nmX4 : ∀ a, a < 8 → ∀ b, b < 8 → a ≠ b → (TX4 a).2.1 ≠ (TX4 b).2.1 := by decide +kernel
theorem tyX4_ok : ∀ k, k < 8 → parseFieldDescriptor (TX4 k).2.2.1 = some (tyX4 k) := by decide +kernel
abbrev cX4_init : ByteArray := prog_6_method_1_code
def yX4_init : MethodName := ⟨RX4, "<init>", "()V"⟩
abbrev cX4_otherEnd : ByteArray := prog_6_method_2_code
def yX4_otherEnd : MethodName := ⟨RX4, "otherEnd", "(I)I"⟩
abbrev cX4_leftNow : ByteArray := prog_6_method_3_code
def yX4_leftNow : MethodName := ⟨RX4, "leftNow", "()I"⟩
abbrev cX4_pass : ByteArray := prog_6_method_4_code
def yX4_pass : MethodName := ⟨RX4, "pass", "(I)V"⟩
abbrev cX4_tell : ByteArray := prog_6_method_5_code
def yX4_tell : MethodName := ⟨RX4, "tell", "(I)I"⟩
def RX5 : String := "SliceSeller$Net"
def TX5 : u_T := fun k => match k with
  | 0 => ("SliceSeller$Net", "workrooms", "[I", true)
  | 1 => ("SliceSeller$Net", "row", "[LSliceSeller$Line;", true)
  | 2 => ("SliceSeller$Net", "found", "LSliceSeller$Ways;", true)
  | 3 => ("SliceSeller$Net", "nodes", "I", false)
  | 4 => ("SliceSeller$Net", "lines", "I", false)
  | _ => ("SliceSeller$Net", "down", "I", false)
def tyX5 : Nat → FieldType := fun k => match k with
  | 0 => .array .int
  | 1 => .array (.object "SliceSeller$Line")
  | 2 => .object "SliceSeller$Ways"
  | 3 => .int
  | 4 => .int
  | _ => .int
abbrev wsX50 : List Cond := u_ws RX5 TX5 6
theorem nmX5 : ∀ a, a < 6 → ∀ b, b < 6 → a ≠ b → (TX5 a).2.1 ≠ (TX5 b).2.1 := by decide +kernel
theorem tyX5_ok : ∀ k, k < 6 → parseFieldDescriptor (TX5 k).2.2.1 = some (tyX5 k) := by decide +kernel
abbrev cX5_init : ByteArray := prog_7_method_1_code
def yX5_init : MethodName := ⟨RX5, "<init>", "()V"⟩
abbrev cX5_hasNode : ByteArray := prog_7_method_2_code
def yX5_hasNode : MethodName := ⟨RX5, "hasNode", "(I)Z"⟩
abbrev cX5_hasLine : ByteArray := prog_7_method_3_code
def yX5_hasLine : MethodName := ⟨RX5, "hasLine", "(I)Z"⟩
abbrev cX5_areTwoNodes : ByteArray := prog_7_method_4_code
def yX5_areTwoNodes : MethodName := ⟨RX5, "areTwoNodes", "(II)Z"⟩
abbrev cX5_lineAt : ByteArray := prog_7_method_5_code
def yX5_lineAt : MethodName := ⟨RX5, "lineAt", "(I)LSliceSeller$Line;"⟩
abbrev cX5_workroomOf : ByteArray := prog_7_method_6_code
def yX5_workroomOf : MethodName := ⟨RX5, "workroomOf", "(I)I"⟩
abbrev cX5_addNode : ByteArray := prog_7_method_7_code
def yX5_addNode : MethodName := ⟨RX5, "addNode", "(I)I"⟩
abbrev cX5_addLine : ByteArray := prog_7_method_8_code
def yX5_addLine : MethodName := ⟨RX5, "addLine", "(IIIII)I"⟩
abbrev cX5_isUp : ByteArray := prog_7_method_9_code
def yX5_isUp : MethodName := ⟨RX5, "isUp", "(I)Z"⟩
abbrev cX5_setUp : ByteArray := prog_7_method_10_code
def yX5_setUp : MethodName := ⟨RX5, "setUp", "(IZ)Z"⟩
abbrev cX5_waysBetween : ByteArray := prog_7_method_11_code
def yX5_waysBetween : MethodName := ⟨RX5, "waysBetween", "(II)LSliceSeller$Ways;"⟩
abbrev cX5_nodesOn : ByteArray := prog_7_method_12_code
def yX5_nodesOn : MethodName := ⟨RX5, "nodesOn", "(I)I"⟩
abbrev cX5_lineAlong : ByteArray := prog_7_method_13_code
def yX5_lineAlong : MethodName := ⟨RX5, "lineAlong", "(III)I"⟩
abbrev cX5_lineFrom : ByteArray := prog_7_method_14_code
def yX5_lineFrom : MethodName := ⟨RX5, "lineFrom", "(II)I"⟩
def RX6 : String := "SliceSeller$Places"
def TX6 : u_T := fun k => match k with
  | 0 => ("SliceSeller$Places", "all", "[I", false)
  | 1 => ("SliceSeller$Places", "kept", "[I", false)
  | 2 => ("SliceSeller$Places", "linesThen", "I", false)
  | 3 => ("SliceSeller$Places", "size", "I", false)
  | _ => ("SliceSeller$Places", "upSize", "I", false)
def tyX6 : Nat → FieldType := fun k => match k with
  | 0 => .array .int
  | 1 => .array .int
  | 2 => .int
  | 3 => .int
  | _ => .int
abbrev wsX60 : List Cond := u_ws RX6 TX6 5
theorem nmX6 : ∀ a, a < 5 → ∀ b, b < 5 → a ≠ b → (TX6 a).2.1 ≠ (TX6 b).2.1 := by decide +kernel
theorem tyX6_ok : ∀ k, k < 5 → parseFieldDescriptor (TX6 k).2.2.1 = some (tyX6 k) := by decide +kernel
abbrev cX6_init : ByteArray := prog_8_method_1_code
def yX6_init : MethodName := ⟨RX6, "<init>", "()V"⟩
abbrev cX6_placeAt : ByteArray := prog_8_method_2_code
def yX6_placeAt : MethodName := ⟨RX6, "placeAt", "(I)I"⟩
abbrev cX6_upAt : ByteArray := prog_8_method_3_code
def yX6_upAt : MethodName := ⟨RX6, "upAt", "(I)I"⟩
abbrev cX6_find : ByteArray := prog_8_method_4_code
def yX6_find : MethodName := ⟨RX6, "find", "(LSliceSeller$Net;LSliceSeller$Slice;)V"⟩
abbrev cX6_keepUp : ByteArray := prog_8_method_5_code
def yX6_keepUp : MethodName := ⟨RX6, "keepUp", "(LSliceSeller$Net;)V"⟩
abbrev cX6_gather : ByteArray := prog_8_method_6_code
def yX6_gather : MethodName := ⟨RX6, "gather", "(LSliceSeller$Net;LSliceSeller$Slice;LSliceSeller$Ways;)V"⟩
abbrev cX6_gatherSpares : ByteArray := prog_8_method_7_code
def yX6_gatherSpares : MethodName := ⟨RX6, "gatherSpares", "(LSliceSeller$Net;LSliceSeller$Slice;LSliceSeller$Ways;I)V"⟩
abbrev cX6_gatherHosts : ByteArray := prog_8_method_8_code
def yX6_gatherHosts : MethodName := ⟨RX6, "gatherHosts", "(LSliceSeller$Net;III)V"⟩
def RX7 : String := "SliceSeller$Sheet"
def TX7 : u_T := fun k => match k with
  | 0 => ("SliceSeller$Sheet", "numbers", "[I", true)
  | 1 => ("SliceSeller$Sheet", "bits", "I", false)
  | _ => ("SliceSeller$Sheet", "size", "I", false)
def tyX7 : Nat → FieldType := fun k => match k with
  | 0 => .array .int
  | 1 => .int
  | _ => .int
abbrev wsX70 : List Cond := u_ws RX7 TX7 3
theorem nmX7 : ∀ a, a < 3 → ∀ b, b < 3 → a ≠ b → (TX7 a).2.1 ≠ (TX7 b).2.1 := by decide +kernel
theorem tyX7_ok : ∀ k, k < 3 → parseFieldDescriptor (TX7 k).2.2.1 = some (tyX7 k) := by decide +kernel
abbrev cX7_init : ByteArray := prog_9_method_1_code
def yX7_init : MethodName := ⟨RX7, "<init>", "()V"⟩
abbrev cX7_isMissing : ByteArray := prog_9_method_2_code
def yX7_isMissing : MethodName := ⟨RX7, "isMissing", "()Z"⟩
abbrev cX7_begin : ByteArray := prog_9_method_3_code
def yX7_begin : MethodName := ⟨RX7, "begin", "(II)I"⟩
abbrev cX7_put : ByteArray := prog_9_method_4_code
def yX7_put : MethodName := ⟨RX7, "put", "(II)I"⟩
abbrev cX7_lowest : ByteArray := prog_9_method_5_code
def yX7_lowest : MethodName := ⟨RX7, "lowest", "(I)I"⟩
abbrev cX7_hasRun : ByteArray := prog_9_method_6_code
def yX7_hasRun : MethodName := ⟨RX7, "hasRun", "(II)Z"⟩
abbrev cX7_hasAbove : ByteArray := prog_9_method_7_code
def yX7_hasAbove : MethodName := ⟨RX7, "hasAbove", "(I)Z"⟩
abbrev cX7_unitsAt : ByteArray := prog_9_method_8_code
def yX7_unitsAt : MethodName := ⟨RX7, "unitsAt", "(I)I"⟩
def RX8 : String := "SliceSeller$Slice"
def TX8 : u_T := fun k => match k with
  | 0 => ("SliceSeller$Slice", "kind", "I", false)
  | 1 => ("SliceSeller$Slice", "from", "I", false)
  | 2 => ("SliceSeller$Slice", "to", "I", false)
  | 3 => ("SliceSeller$Slice", "rate", "I", false)
  | 4 => ("SliceSeller$Slice", "bound", "I", false)
  | 5 => ("SliceSeller$Slice", "least", "I", false)
  | 6 => ("SliceSeller$Slice", "work", "I", false)
  | 7 => ("SliceSeller$Slice", "price", "I", false)
  | 8 => ("SliceSeller$Slice", "first", "I", false)
  | 9 => ("SliceSeller$Slice", "last", "I", false)
  | 10 => ("SliceSeller$Slice", "hours", "I", false)
  | 11 => ("SliceSeller$Slice", "ticks", "I", false)
  | 12 => ("SliceSeller$Slice", "place", "I", false)
  | 13 => ("SliceSeller$Slice", "waiting", "I", false)
  | 14 => ("SliceSeller$Slice", "passed", "I", false)
  | 15 => ("SliceSeller$Slice", "lent", "I", false)
  | 16 => ("SliceSeller$Slice", "paid", "I", false)
  | 17 => ("SliceSeller$Slice", "latest", "I", false)
  | _ => ("SliceSeller$Slice", "places", "LSliceSeller$Places;", true)
def tyX8 : Nat → FieldType := fun k => match k with
  | 0 => .int
  | 1 => .int
  | 2 => .int
  | 3 => .int
  | 4 => .int
  | 5 => .int
  | 6 => .int
  | 7 => .int
  | 8 => .int
  | 9 => .int
  | 10 => .int
  | 11 => .int
  | 12 => .int
  | 13 => .int
  | 14 => .int
  | 15 => .int
  | 16 => .int
  | 17 => .int
  | _ => .object "SliceSeller$Places"
abbrev wsX80 : List Cond := u_ws RX8 TX8 19
theorem nmX8 : ∀ a, a < 19 → ∀ b, b < 19 → a ≠ b → (TX8 a).2.1 ≠ (TX8 b).2.1 := by decide +kernel
theorem tyX8_ok : ∀ k, k < 19 → parseFieldDescriptor (TX8 k).2.2.1 = some (tyX8 k) := by decide +kernel
abbrev cX8_init : ByteArray := prog_10_method_1_code
def yX8_init : MethodName := ⟨RX8, "<init>", "()V"⟩
abbrev cX8_setTerms : ByteArray := prog_10_method_2_code
def yX8_setTerms : MethodName := ⟨RX8, "setTerms", "(III)V"⟩
abbrev cX8_setSpan : ByteArray := prog_10_method_3_code
def yX8_setSpan : MethodName := ⟨RX8, "setSpan", "(III)V"⟩
abbrev cX8_isIn : ByteArray := prog_10_method_4_code
def yX8_isIn : MethodName := ⟨RX8, "isIn", "()Z"⟩
abbrev cX8_isOf : ByteArray := prog_10_method_5_code
def yX8_isOf : MethodName := ⟨RX8, "isOf", "(I)Z"⟩
abbrev cX8_needed : ByteArray := prog_10_method_6_code
def yX8_needed : MethodName := ⟨RX8, "needed", "()I"⟩
abbrev cX8_takenWay : ByteArray := prog_10_method_7_code
def yX8_takenWay : MethodName := ⟨RX8, "takenWay", "(I)I"⟩
abbrev cX8_askedFor : ByteArray := prog_10_method_8_code
def yX8_askedFor : MethodName := ⟨RX8, "askedFor", "(I)I"⟩
abbrev cX8_becameOf : ByteArray := prog_10_method_9_code
def yX8_becameOf : MethodName := ⟨RX8, "becameOf", "(I)I"⟩
def RX9 : String := "SliceSeller$Slices"
def TX9 : u_T := fun k => match k with
  | 0 => ("SliceSeller$Slices", "row", "[LSliceSeller$Slice;", true)
  | _ => ("SliceSeller$Slices", "size", "I", false)
def tyX9 : Nat → FieldType := fun k => match k with
  | 0 => .array (.object "SliceSeller$Slice")
  | _ => .int
abbrev wsX90 : List Cond := u_ws RX9 TX9 2
theorem nmX9 : ∀ a, a < 2 → ∀ b, b < 2 → a ≠ b → (TX9 a).2.1 ≠ (TX9 b).2.1 := by decide +kernel
theorem tyX9_ok : ∀ k, k < 2 → parseFieldDescriptor (TX9 k).2.2.1 = some (tyX9 k) := by decide +kernel
abbrev cX9_init : ByteArray := prog_11_method_1_code
def yX9_init : MethodName := ⟨RX9, "<init>", "()V"⟩
abbrev cX9_hasSlice : ByteArray := prog_11_method_2_code
def yX9_hasSlice : MethodName := ⟨RX9, "hasSlice", "(I)Z"⟩
abbrev cX9_haveAll : ByteArray := prog_11_method_3_code
def yX9_haveAll : MethodName := ⟨RX9, "haveAll", "(I)Z"⟩
abbrev cX9_at : ByteArray := prog_11_method_4_code
def yX9_at : MethodName := ⟨RX9, "at", "(I)LSliceSeller$Slice;"⟩
abbrev cX9_add : ByteArray := prog_11_method_5_code
def yX9_add : MethodName := ⟨RX9, "add", "(IIIII)I"⟩
abbrev cX9_placesOf : ByteArray := prog_11_method_6_code
def yX9_placesOf : MethodName := ⟨RX9, "placesOf", "(LSliceSeller$Net;I)LSliceSeller$Places;"⟩
abbrev cX9_countIn : ByteArray := prog_11_method_7_code
def yX9_countIn : MethodName := ⟨RX9, "countIn", "()I"⟩
abbrev cX9_wouldOverflow : ByteArray := prog_11_method_8_code
def yX9_wouldOverflow : MethodName := ⟨RX9, "wouldOverflow", "(LSliceSeller$Sheet;)Z"⟩
abbrev cX9_offerAll : ByteArray := prog_11_method_9_code
def yX9_offerAll : MethodName := ⟨RX9, "offerAll", "(LSliceSeller$Sheet;)I"⟩
def RX10 : String := "SliceSeller$Ways"
def TX10 : u_T := fun k => match k with
  | 0 => ("SliceSeller$Ways", "keys", "[I", true)
  | 1 => ("SliceSeller$Ways", "from", "I", false)
  | 2 => ("SliceSeller$Ways", "to", "I", false)
  | 3 => ("SliceSeller$Ways", "linesThen", "I", false)
  | _ => ("SliceSeller$Ways", "size", "I", false)
def tyX10 : Nat → FieldType := fun k => match k with
  | 0 => .array .int
  | 1 => .int
  | 2 => .int
  | 3 => .int
  | _ => .int
abbrev wsX100 : List Cond := u_ws RX10 TX10 5
theorem nmX10 : ∀ a, a < 5 → ∀ b, b < 5 → a ≠ b → (TX10 a).2.1 ≠ (TX10 b).2.1 := by decide +kernel
theorem tyX10_ok : ∀ k, k < 5 → parseFieldDescriptor (TX10 k).2.2.1 = some (tyX10 k) := by decide +kernel
abbrev cX10_init : ByteArray := prog_12_method_1_code
def yX10_init : MethodName := ⟨RX10, "<init>", "()V"⟩
abbrev cX10_lateOf : ByteArray := prog_12_method_2_code
def yX10_lateOf : MethodName := ⟨RX10, "lateOf", "(I)I"⟩
abbrev cX10_countOf : ByteArray := prog_12_method_3_code
def yX10_countOf : MethodName := ⟨RX10, "countOf", "(I)I"⟩
abbrev cX10_lineAt : ByteArray := prog_12_method_4_code
def yX10_lineAt : MethodName := ⟨RX10, "lineAt", "(II)I"⟩
abbrev cX10_linesIn : ByteArray := prog_12_method_5_code
def yX10_linesIn : MethodName := ⟨RX10, "linesIn", "(I)I"⟩
abbrev cX10_longer : ByteArray := prog_12_method_6_code
def yX10_longer : MethodName := ⟨RX10, "longer", "(III)I"⟩
abbrev cX10_keyAt : ByteArray := prog_12_method_7_code
def yX10_keyAt : MethodName := ⟨RX10, "keyAt", "(I)I"⟩
abbrev cX10_find : ByteArray := prog_12_method_8_code
def yX10_find : MethodName := ⟨RX10, "find", "(LSliceSeller$Net;II)V"⟩
abbrev cX10_extend : ByteArray := prog_12_method_9_code
def yX10_extend : MethodName := ⟨RX10, "extend", "(LSliceSeller$Net;IIII)V"⟩
abbrev cX10_insert : ByteArray := prog_12_method_10_code
def yX10_insert : MethodName := ⟨RX10, "insert", "(I)V"⟩
def RX11 : String := "SliceSeller"
def TX11 : u_T := fun k => match k with
  | 0 => ("SliceSeller", "net", "LSliceSeller$Net;", true)
  | 1 => ("SliceSeller", "slices", "LSliceSeller$Slices;", true)
  | 2 => ("SliceSeller", "book", "LSliceSeller$Book;", true)
  | 3 => ("SliceSeller", "leastCut", "LSliceSeller$Cut;", true)
  | 4 => ("SliceSeller", "layer", "LSliceSeller$Layer;", true)
  | 5 => ("SliceSeller", "day", "LSliceSeller$Day;", true)
  | 6 => ("SliceSeller", "sheets", "[LSliceSeller$Sheet;", true)
  | _ => ("SliceSeller", "findings", "I", false)
def tyX11 : Nat → FieldType := fun k => match k with
  | 0 => .object "SliceSeller$Net"
  | 1 => .object "SliceSeller$Slices"
  | 2 => .object "SliceSeller$Book"
  | 3 => .object "SliceSeller$Cut"
  | 4 => .object "SliceSeller$Layer"
  | 5 => .object "SliceSeller$Day"
  | 6 => .array (.object "SliceSeller$Sheet")
  | _ => .int
abbrev wsX110 : List Cond := u_ws RX11 TX11 8
theorem nmX11 : ∀ a, a < 8 → ∀ b, b < 8 → a ≠ b → (TX11 a).2.1 ≠ (TX11 b).2.1 := by decide +kernel
theorem tyX11_ok : ∀ k, k < 8 → parseFieldDescriptor (TX11 k).2.2.1 = some (tyX11 k) := by decide +kernel
abbrev cX11_init : ByteArray := prog_1_method_1_code
def yX11_init : MethodName := ⟨RX11, "<init>", "()V"⟩
abbrev cX11_node : ByteArray := prog_1_method_2_code
def yX11_node : MethodName := ⟨RX11, "node", "(I)I"⟩
abbrev cX11_line : ByteArray := prog_1_method_3_code
def yX11_line : MethodName := ⟨RX11, "line", "(IIIII)I"⟩
abbrev cX11_up : ByteArray := prog_1_method_4_code
def yX11_up : MethodName := ⟨RX11, "up", "(IZ)I"⟩
abbrev cX11_ways : ByteArray := prog_1_method_5_code
def yX11_ways : MethodName := ⟨RX11, "ways", "(II)I"⟩
abbrev cX11_way : ByteArray := prog_1_method_6_code
def yX11_way : MethodName := ⟨RX11, "way", "(IIII)I"⟩
abbrev cX11_flow : ByteArray := prog_1_method_7_code
def yX11_flow : MethodName := ⟨RX11, "flow", "(III)I"⟩
abbrev cX11_cut : ByteArray := prog_1_method_8_code
def yX11_cut : MethodName := ⟨RX11, "cut", "(III)I"⟩
abbrev cX11_slice : ByteArray := prog_1_method_9_code
def yX11_slice : MethodName := ⟨RX11, "slice", "(IIIII)I"⟩
abbrev cX11_terms : ByteArray := prog_1_method_10_code
def yX11_terms : MethodName := ⟨RX11, "terms", "(IIII)I"⟩
abbrev cX11_span : ByteArray := prog_1_method_11_code
def yX11_span : MethodName := ⟨RX11, "span", "(IIII)I"⟩
abbrev cX11_as : ByteArray := prog_1_method_12_code
def yX11_as : MethodName := ⟨RX11, "as", "(II)I"⟩
abbrev cX11_of : ByteArray := prog_1_method_13_code
def yX11_of : MethodName := ⟨RX11, "of", "(II)I"⟩
abbrev cX11_places : ByteArray := prog_1_method_14_code
def yX11_places : MethodName := ⟨RX11, "places", "(I)I"⟩
abbrev cX11_letIn : ByteArray := prog_1_method_15_code
def yX11_letIn : MethodName := ⟨RX11, "letIn", "(I)I"⟩
abbrev cX11_why : ByteArray := prog_1_method_16_code
def yX11_why : MethodName := ⟨RX11, "why", "(I)I"⟩
abbrev cX11_out : ByteArray := prog_1_method_17_code
def yX11_out : MethodName := ⟨RX11, "out", "(I)I"⟩
abbrev cX11_wayOf : ByteArray := prog_1_method_18_code
def yX11_wayOf : MethodName := ⟨RX11, "wayOf", "(IZI)I"⟩
abbrev cX11_host : ByteArray := prog_1_method_19_code
def yX11_host : MethodName := ⟨RX11, "host", "(I)I"⟩
abbrev cX11_load : ByteArray := prog_1_method_20_code
def yX11_load : MethodName := ⟨RX11, "load", "(II)I"⟩
abbrev cX11_fallRoom : ByteArray := prog_1_method_21_code
def yX11_fallRoom : MethodName := ⟨RX11, "fallRoom", "(II)I"⟩
abbrev cX11_work : ByteArray := prog_1_method_22_code
def yX11_work : MethodName := ⟨RX11, "work", "(II)I"⟩
abbrev cX11_spare : ByteArray := prog_1_method_23_code
def yX11_spare : MethodName := ⟨RX11, "spare", "(I)I"⟩
abbrev cX11_took : ByteArray := prog_1_method_24_code
def yX11_took : MethodName := ⟨RX11, "took", "(I)I"⟩
abbrev cX11_lay : ByteArray := prog_1_method_25_code
def yX11_lay : MethodName := ⟨RX11, "lay", "(I)I"⟩
abbrev cX11_can : ByteArray := prog_1_method_26_code
def yX11_can : MethodName := ⟨RX11, "can", "(I)I"⟩
abbrev cX11_best : ByteArray := prog_1_method_27_code
def yX11_best : MethodName := ⟨RX11, "best", "()I"⟩
abbrev cX11_tries : ByteArray := prog_1_method_28_code
def yX11_tries : MethodName := ⟨RX11, "tries", "()I"⟩
abbrev cX11_offer : ByteArray := prog_1_method_29_code
def yX11_offer : MethodName := ⟨RX11, "offer", "(II)I"⟩
abbrev cX11_run : ByteArray := prog_1_method_30_code
def yX11_run : MethodName := ⟨RX11, "run", "(I)I"⟩
abbrev cX11_about : ByteArray := prog_1_method_31_code
def yX11_about : MethodName := ⟨RX11, "about", "(II)I"⟩
abbrev cX11_sheet : ByteArray := prog_1_method_32_code
def yX11_sheet : MethodName := ⟨RX11, "sheet", "(III)I"⟩
abbrev cX11_write : ByteArray := prog_1_method_33_code
def yX11_write : MethodName := ⟨RX11, "write", "(III)I"⟩
abbrev cX11_copy : ByteArray := prog_1_method_34_code
def yX11_copy : MethodName := ⟨RX11, "copy", "(IIIII)I"⟩
abbrev cX11_read : ByteArray := prog_1_method_35_code
def yX11_read : MethodName := ⟨RX11, "read", "(I)I"⟩
abbrev cX11_told : ByteArray := prog_1_method_36_code
def yX11_told : MethodName := ⟨RX11, "told", "(I)I"⟩
abbrev cX11_finding : ByteArray := prog_1_method_37_code
def yX11_finding : MethodName := ⟨RX11, "finding", "(I)I"⟩
abbrev cX11_comeIn : ByteArray := prog_1_method_38_code
def yX11_comeIn : MethodName := ⟨RX11, "comeIn", "(LSliceSeller$Slice;I)V"⟩
abbrev cX11_goOut : ByteArray := prog_1_method_39_code
def yX11_goOut : MethodName := ⟨RX11, "goOut", "(LSliceSeller$Slice;)V"⟩
abbrev cX11_whyNoRoom : ByteArray := prog_1_method_40_code
def yX11_whyNoRoom : MethodName := ⟨RX11, "whyNoRoom", "(LSliceSeller$Slice;LSliceSeller$Places;)I"⟩
abbrev cX11_takeOver : ByteArray := prog_1_method_41_code
def yX11_takeOver : MethodName := ⟨RX11, "takeOver", "(I)I"⟩
abbrev cX11_isWithin : ByteArray := prog_1_method_42_code
def yX11_isWithin : MethodName := ⟨RX11, "isWithin", "(III)Z"⟩
abbrev cX11_isTick : ByteArray := prog_1_method_43_code
def yX11_isTick : MethodName := ⟨RX11, "isTick", "(I)Z"⟩
abbrev cX11_isKind : ByteArray := prog_1_method_44_code
def yX11_isKind : MethodName := ⟨RX11, "isKind", "(I)Z"⟩
abbrev cX11_isSheet : ByteArray := prog_1_method_45_code
def yX11_isSheet : MethodName := ⟨RX11, "isSheet", "(I)Z"⟩
abbrev cX11_has : ByteArray := prog_1_method_46_code
def yX11_has : MethodName := ⟨RX11, "has", "(II)Z"⟩
abbrev cX11_placeOn : ByteArray := prog_1_method_47_code
def yX11_placeOn : MethodName := ⟨RX11, "placeOn", "(III)I"⟩
abbrev cX11_wayIn : ByteArray := prog_1_method_48_code
def yX11_wayIn : MethodName := ⟨RX11, "wayIn", "(I)I"⟩
abbrev cX11_spareOf : ByteArray := prog_1_method_49_code
def yX11_spareOf : MethodName := ⟨RX11, "spareOf", "(I)I"⟩
abbrev cX11_linesOf : ByteArray := prog_1_method_50_code
def yX11_linesOf : MethodName := ⟨RX11, "linesOf", "(I)I"⟩
abbrev cX11_hostOf : ByteArray := prog_1_method_51_code
def yX11_hostOf : MethodName := ⟨RX11, "hostOf", "(I)I"⟩
def RX12 : String := "SliceSellerModel"
def TX12 : u_T := fun k => match k with
  | 0 => ("SliceSellerModel", "nodes", "I", false)
  | 1 => ("SliceSellerModel", "lines", "I", false)
  | 2 => ("SliceSellerModel", "slices", "I", false)
  | 3 => ("SliceSellerModel", "tick", "I", false)
  | 4 => ("SliceSellerModel", "findings", "I", false)
  | 5 => ("SliceSellerModel", "tried", "I", false)
  | 6 => ("SliceSellerModel", "passedEver", "I", false)
  | 7 => ("SliceSellerModel", "paidEver", "I", false)
  | 8 => ("SliceSellerModel", "lentLast", "I", false)
  | 9 => ("SliceSellerModel", "workroom", "[I", true)
  | 10 => ("SliceSellerModel", "lineA", "[I", true)
  | 11 => ("SliceSellerModel", "lineB", "[I", true)
  | 12 => ("SliceSellerModel", "room", "[I", true)
  | 13 => ("SliceSellerModel", "late", "[I", true)
  | 14 => ("SliceSellerModel", "price", "[I", true)
  | 15 => ("SliceSellerModel", "over", "[I", true)
  | 16 => ("SliceSellerModel", "overLatest", "[I", true)
  | 17 => ("SliceSellerModel", "earned", "[I", true)
  | 18 => ("SliceSellerModel", "isUp", "[Z", true)
  | 19 => ("SliceSellerModel", "kind", "[I", true)
  | 20 => ("SliceSellerModel", "endA", "[I", true)
  | 21 => ("SliceSellerModel", "endB", "[I", true)
  | 22 => ("SliceSellerModel", "rate", "[I", true)
  | 23 => ("SliceSellerModel", "bound", "[I", true)
  | 24 => ("SliceSellerModel", "least", "[I", true)
  | 25 => ("SliceSellerModel", "works", "[I", true)
  | 26 => ("SliceSellerModel", "worth", "[I", true)
  | 27 => ("SliceSellerModel", "first", "[I", true)
  | 28 => ("SliceSellerModel", "last", "[I", true)
  | 29 => ("SliceSellerModel", "hours", "[I", true)
  | 30 => ("SliceSellerModel", "waiting", "[I", true)
  | 31 => ("SliceSellerModel", "passed", "[I", true)
  | 32 => ("SliceSellerModel", "lent", "[I", true)
  | 33 => ("SliceSellerModel", "paid", "[I", true)
  | 34 => ("SliceSellerModel", "passedLatest", "[I", true)
  | 35 => ("SliceSellerModel", "isIn", "[Z", true)
  | 36 => ("SliceSellerModel", "way", "[I", true)
  | 37 => ("SliceSellerModel", "spare", "[I", true)
  | 38 => ("SliceSellerModel", "wayRow", "[I", true)
  | 39 => ("SliceSellerModel", "spareRow", "[I", true)
  | 40 => ("SliceSellerModel", "host", "[I", true)
  | 41 => ("SliceSellerModel", "sheetBits", "[I", true)
  | 42 => ("SliceSellerModel", "sheetSize", "[I", true)
  | 43 => ("SliceSellerModel", "sheets", "[I", true)
  | 44 => ("SliceSellerModel", "many", "[I", true)
  | 45 => ("SliceSellerModel", "rows", "[I", true)
  | 46 => ("SliceSellerModel", "counts", "[I", true)
  | 47 => ("SliceSellerModel", "lates", "[I", true)
  | 48 => ("SliceSellerModel", "sets", "[I", true)
  | 49 => ("SliceSellerModel", "through", "[I", true)
  | 50 => ("SliceSellerModel", "at", "[I", true)
  | 51 => ("SliceSellerModel", "next", "[I", true)
  | 52 => ("SliceSellerModel", "path", "[I", true)
  | 53 => ("SliceSellerModel", "bestCut", "I", false)
  | 54 => ("SliceSellerModel", "bestSum", "I", false)
  | 55 => ("SliceSellerModel", "atWay", "[I", true)
  | 56 => ("SliceSellerModel", "atSpare", "[I", true)
  | 57 => ("SliceSellerModel", "atHost", "[I", true)
  | 58 => ("SliceSellerModel", "number", "[I", true)
  | 59 => ("SliceSellerModel", "oldIn", "[Z", true)
  | 60 => ("SliceSellerModel", "oldWay", "[I", true)
  | 61 => ("SliceSellerModel", "oldSpare", "[I", true)
  | 62 => ("SliceSellerModel", "oldWayRow", "[I", true)
  | 63 => ("SliceSellerModel", "oldSpareRow", "[I", true)
  | 64 => ("SliceSellerModel", "oldHost", "[I", true)
  | 65 => ("SliceSellerModel", "isDone", "[Z", true)
  | _ => ("SliceSellerModel", "carried", "[I", true)
def tyX12 : Nat → FieldType := fun k => match k with
  | 0 => .int
  | 1 => .int
  | 2 => .int
  | 3 => .int
  | 4 => .int
  | 5 => .int
  | 6 => .int
  | 7 => .int
  | 8 => .int
  | 9 => .array .int
  | 10 => .array .int
  | 11 => .array .int
  | 12 => .array .int
  | 13 => .array .int
  | 14 => .array .int
  | 15 => .array .int
  | 16 => .array .int
  | 17 => .array .int
  | 18 => .array .boolean
  | 19 => .array .int
  | 20 => .array .int
  | 21 => .array .int
  | 22 => .array .int
  | 23 => .array .int
  | 24 => .array .int
  | 25 => .array .int
  | 26 => .array .int
  | 27 => .array .int
  | 28 => .array .int
  | 29 => .array .int
  | 30 => .array .int
  | 31 => .array .int
  | 32 => .array .int
  | 33 => .array .int
  | 34 => .array .int
  | 35 => .array .boolean
  | 36 => .array .int
  | 37 => .array .int
  | 38 => .array .int
  | 39 => .array .int
  | 40 => .array .int
  | 41 => .array .int
  | 42 => .array .int
  | 43 => .array .int
  | 44 => .array .int
  | 45 => .array .int
  | 46 => .array .int
  | 47 => .array .int
  | 48 => .array .int
  | 49 => .array .int
  | 50 => .array .int
  | 51 => .array .int
  | 52 => .array .int
  | 53 => .int
  | 54 => .int
  | 55 => .array .int
  | 56 => .array .int
  | 57 => .array .int
  | 58 => .array .int
  | 59 => .array .boolean
  | 60 => .array .int
  | 61 => .array .int
  | 62 => .array .int
  | 63 => .array .int
  | 64 => .array .int
  | 65 => .array .boolean
  | _ => .array .int
abbrev wsX120 : List Cond := u_ws RX12 TX12 67
theorem nmX12 : ∀ a, a < 67 → ∀ b, b < 67 → a ≠ b → (TX12 a).2.1 ≠ (TX12 b).2.1 := by decide +kernel
theorem tyX12_ok : ∀ k, k < 67 → parseFieldDescriptor (TX12 k).2.2.1 = some (tyX12 k) := by decide +kernel
abbrev cX12_init : ByteArray := prog_14_method_1_code
def yX12_init : MethodName := ⟨RX12, "<init>", "()V"⟩
abbrev cX12_in : ByteArray := prog_14_method_3_code
def yX12_in : MethodName := ⟨RX12, "in", "(III)Z"⟩
abbrev cX12_finds : ByteArray := prog_14_method_4_code
def yX12_finds : MethodName := ⟨RX12, "finds", "(I)I"⟩
abbrev cX12_isNode : ByteArray := prog_14_method_5_code
def yX12_isNode : MethodName := ⟨RX12, "isNode", "(I)Z"⟩
abbrev cX12_isLine : ByteArray := prog_14_method_6_code
def yX12_isLine : MethodName := ⟨RX12, "isLine", "(I)Z"⟩
abbrev cX12_isSlice : ByteArray := prog_14_method_7_code
def yX12_isSlice : MethodName := ⟨RX12, "isSlice", "(I)Z"⟩
abbrev cX12_isTick : ByteArray := prog_14_method_8_code
def yX12_isTick : MethodName := ⟨RX12, "isTick", "(I)Z"⟩
abbrev cX12_has : ByteArray := prog_14_method_9_code
def yX12_has : MethodName := ⟨RX12, "has", "(II)Z"⟩
abbrev cX12_node : ByteArray := prog_14_method_10_code
def yX12_node : MethodName := ⟨RX12, "node", "(I)I"⟩
abbrev cX12_line : ByteArray := prog_14_method_11_code
def yX12_line : MethodName := ⟨RX12, "line", "(IIIII)I"⟩
abbrev cX12_up : ByteArray := prog_14_method_12_code
def yX12_up : MethodName := ⟨RX12, "up", "(IZ)I"⟩
abbrev cX12_gather : ByteArray := prog_14_method_13_code
def yX12_gather : MethodName := ⟨RX12, "gather", "(III)V"⟩
abbrev cX12_record : ByteArray := prog_14_method_14_code
def yX12_record : MethodName := ⟨RX12, "record", "(III)V"⟩
abbrev cX12_isAhead : ByteArray := prog_14_method_15_code
def yX12_isAhead : MethodName := ⟨RX12, "isAhead", "(IIII)Z"⟩
abbrev cX12_areNodes : ByteArray := prog_14_method_16_code
def yX12_areNodes : MethodName := ⟨RX12, "areNodes", "(II)Z"⟩
abbrev cX12_ways : ByteArray := prog_14_method_17_code
def yX12_ways : MethodName := ⟨RX12, "ways", "(II)I"⟩
abbrev cX12_digit : ByteArray := prog_14_method_18_code
def yX12_digit : MethodName := ⟨RX12, "digit", "(III)I"⟩
abbrev cX12_ones : ByteArray := prog_14_method_19_code
def yX12_ones : MethodName := ⟨RX12, "ones", "(I)I"⟩
abbrev cX12_way : ByteArray := prog_14_method_20_code
def yX12_way : MethodName := ⟨RX12, "way", "(IIII)I"⟩
abbrev cX12_slice : ByteArray := prog_14_method_21_code
def yX12_slice : MethodName := ⟨RX12, "slice", "(IIIII)I"⟩
abbrev cX12_terms : ByteArray := prog_14_method_22_code
def yX12_terms : MethodName := ⟨RX12, "terms", "(IIII)I"⟩
abbrev cX12_span : ByteArray := prog_14_method_23_code
def yX12_span : MethodName := ⟨RX12, "span", "(IIII)I"⟩
abbrev cX12_as : ByteArray := prog_14_method_24_code
def yX12_as : MethodName := ⟨RX12, "as", "(II)I"⟩
abbrev cX12_need : ByteArray := prog_14_method_25_code
def yX12_need : MethodName := ⟨RX12, "need", "(I)I"⟩
abbrev cX12_does : ByteArray := prog_14_method_26_code
def yX12_does : MethodName := ⟨RX12, "does", "(II)Z"⟩
abbrev cX12_countIn : ByteArray := prog_14_method_27_code
def yX12_countIn : MethodName := ⟨RX12, "countIn", "()I"⟩
abbrev cX12_of : ByteArray := prog_14_method_28_code
def yX12_of : MethodName := ⟨RX12, "of", "(II)I"⟩
abbrev cX12_countingAt : ByteArray := prog_14_method_29_code
def yX12_countingAt : MethodName := ⟨RX12, "countingAt", "(I)I"⟩
abbrev cX12_loadOf : ByteArray := prog_14_method_30_code
def yX12_loadOf : MethodName := ⟨RX12, "loadOf", "(II)I"⟩
abbrev cX12_fallOf : ByteArray := prog_14_method_31_code
def yX12_fallOf : MethodName := ⟨RX12, "fallOf", "(II)I"⟩
abbrev cX12_workOf : ByteArray := prog_14_method_32_code
def yX12_workOf : MethodName := ⟨RX12, "workOf", "(II)I"⟩
abbrev cX12_linesHold : ByteArray := prog_14_method_33_code
def yX12_linesHold : MethodName := ⟨RX12, "linesHold", "(I)Z"⟩
abbrev cX12_holds : ByteArray := prog_14_method_34_code
def yX12_holds : MethodName := ⟨RX12, "holds", "(Z)Z"⟩
abbrev cX12_load : ByteArray := prog_14_method_35_code
def yX12_load : MethodName := ⟨RX12, "load", "(II)I"⟩
abbrev cX12_fallRoom : ByteArray := prog_14_method_36_code
def yX12_fallRoom : MethodName := ⟨RX12, "fallRoom", "(II)I"⟩
abbrev cX12_work : ByteArray := prog_14_method_37_code
def yX12_work : MethodName := ⟨RX12, "work", "(II)I"⟩
abbrev cX12_leftOf : ByteArray := prog_14_method_38_code
def yX12_leftOf : MethodName := ⟨RX12, "leftOf", "(II)I"⟩
abbrev cX12_spare : ByteArray := prog_14_method_39_code
def yX12_spare : MethodName := ⟨RX12, "spare", "(I)I"⟩
abbrev cX12_findCut : ByteArray := prog_14_method_40_code
def yX12_findCut : MethodName := ⟨RX12, "findCut", "(III)V"⟩
abbrev cX12_flow : ByteArray := prog_14_method_41_code
def yX12_flow : MethodName := ⟨RX12, "flow", "(III)I"⟩
abbrev cX12_cut : ByteArray := prog_14_method_42_code
def yX12_cut : MethodName := ⟨RX12, "cut", "(III)I"⟩
abbrev cX12_start : ByteArray := prog_14_method_43_code
def yX12_start : MethodName := ⟨RX12, "start", "(I)V"⟩
abbrev cX12_advance : ByteArray := prog_14_method_44_code
def yX12_advance : MethodName := ⟨RX12, "advance", "(I)Z"⟩
abbrev cX12_areUp : ByteArray := prog_14_method_45_code
def yX12_areUp : MethodName := ⟨RX12, "areUp", "(I)Z"⟩
abbrev cX12_puts : ByteArray := prog_14_method_46_code
def yX12_puts : MethodName := ⟨RX12, "puts", "(I)Z"⟩
abbrev cX12_places : ByteArray := prog_14_method_47_code
def yX12_places : MethodName := ⟨RX12, "places", "(I)I"⟩
abbrev cX12_letIn : ByteArray := prog_14_method_48_code
def yX12_letIn : MethodName := ⟨RX12, "letIn", "(I)I"⟩
abbrev cX12_why : ByteArray := prog_14_method_49_code
def yX12_why : MethodName := ⟨RX12, "why", "(I)I"⟩
abbrev cX12_out : ByteArray := prog_14_method_50_code
def yX12_out : MethodName := ⟨RX12, "out", "(I)I"⟩
abbrev cX12_wayOf : ByteArray := prog_14_method_51_code
def yX12_wayOf : MethodName := ⟨RX12, "wayOf", "(IZI)I"⟩
abbrev cX12_host : ByteArray := prog_14_method_52_code
def yX12_host : MethodName := ⟨RX12, "host", "(I)I"⟩
abbrev cX12_takes : ByteArray := prog_14_method_53_code
def yX12_takes : MethodName := ⟨RX12, "takes", "(II)I"⟩
abbrev cX12_took : ByteArray := prog_14_method_54_code
def yX12_took : MethodName := ⟨RX12, "took", "(I)I"⟩
abbrev cX12_keeps : ByteArray := prog_14_method_55_code
def yX12_keeps : MethodName := ⟨RX12, "keeps", "()V"⟩
abbrev cX12_backTo : ByteArray := prog_14_method_56_code
def yX12_backTo : MethodName := ⟨RX12, "backTo", "()V"⟩
abbrev cX12_comesIn : ByteArray := prog_14_method_57_code
def yX12_comesIn : MethodName := ⟨RX12, "comesIn", "(I)I"⟩
abbrev cX12_after : ByteArray := prog_14_method_58_code
def yX12_after : MethodName := ⟨RX12, "after", "(II)I"⟩
abbrev cX12_before : ByteArray := prog_14_method_59_code
def yX12_before : MethodName := ⟨RX12, "before", "(II)I"⟩
abbrev cX12_lays : ByteArray := prog_14_method_60_code
def yX12_lays : MethodName := ⟨RX12, "lays", "(I)I"⟩
abbrev cX12_isOfThem : ByteArray := prog_14_method_61_code
def yX12_isOfThem : MethodName := ⟨RX12, "isOfThem", "(I)Z"⟩
abbrev cX12_lay : ByteArray := prog_14_method_62_code
def yX12_lay : MethodName := ⟨RX12, "lay", "(I)I"⟩
abbrev cX12_can : ByteArray := prog_14_method_63_code
def yX12_can : MethodName := ⟨RX12, "can", "(I)I"⟩
abbrev cX12_worthOf : ByteArray := prog_14_method_64_code
def yX12_worthOf : MethodName := ⟨RX12, "worthOf", "(I)I"⟩
abbrev cX12_best : ByteArray := prog_14_method_65_code
def yX12_best : MethodName := ⟨RX12, "best", "()I"⟩
abbrev cX12_tries : ByteArray := prog_14_method_66_code
def yX12_tries : MethodName := ⟨RX12, "tries", "()I"⟩
abbrev cX12_offer : ByteArray := prog_14_method_67_code
def yX12_offer : MethodName := ⟨RX12, "offer", "(II)I"⟩
abbrev cX12_passes : ByteArray := prog_14_method_68_code
def yX12_passes : MethodName := ⟨RX12, "passes", "(III)V"⟩
abbrev cX12_leftIn : ByteArray := prog_14_method_69_code
def yX12_leftIn : MethodName := ⟨RX12, "leftIn", "(I)I"⟩
abbrev cX12_oneTick : ByteArray := prog_14_method_70_code
def yX12_oneTick : MethodName := ⟨RX12, "oneTick", "()V"⟩
abbrev cX12_run : ByteArray := prog_14_method_71_code
def yX12_run : MethodName := ⟨RX12, "run", "(I)I"⟩
abbrev cX12_about : ByteArray := prog_14_method_72_code
def yX12_about : MethodName := ⟨RX12, "about", "(II)I"⟩
abbrev cX12_isSheet : ByteArray := prog_14_method_73_code
def yX12_isSheet : MethodName := ⟨RX12, "isSheet", "(I)Z"⟩
abbrev cX12_sheet : ByteArray := prog_14_method_74_code
def yX12_sheet : MethodName := ⟨RX12, "sheet", "(III)I"⟩
abbrev cX12_write : ByteArray := prog_14_method_75_code
def yX12_write : MethodName := ⟨RX12, "write", "(III)I"⟩
abbrev cX12_copy : ByteArray := prog_14_method_76_code
def yX12_copy : MethodName := ⟨RX12, "copy", "(IIIII)I"⟩
abbrev cX12_read : ByteArray := prog_14_method_77_code
def yX12_read : MethodName := ⟨RX12, "read", "(I)I"⟩
abbrev cX12_told : ByteArray := prog_14_method_78_code
def yX12_told : MethodName := ⟨RX12, "told", "(I)I"⟩
def RJ6 : String := "java/lang/Integer"
def TJ6 : u_T := fun k => match k with
  | _ => ("", "", "", false)
def tyJ6 : Nat → FieldType := fun k => match k with
  | _ => .int
abbrev wsJ60 : List Cond := u_ws RJ6 TJ6 0
theorem nmJ6 : ∀ a, a < 0 → ∀ b, b < 0 → a ≠ b → (TJ6 a).2.1 ≠ (TJ6 b).2.1 := by decide +kernel
theorem tyJ6_ok : ∀ k, k < 0 → parseFieldDescriptor (TJ6 k).2.2.1 = some (tyJ6 k) := by decide +kernel
abbrev cJ6_bitCount_0f7a4 : ByteArray := prog_15_method_49_code
def yJ6_bitCount_0f7a4 : MethodName := ⟨RJ6, "bitCount", "(I)I"⟩
def RJ9 : String := "java/lang/Math"
def TJ9 : u_T := fun k => match k with
  | _ => ("", "", "", false)
def tyJ9 : Nat → FieldType := fun k => match k with
  | _ => .int
abbrev wsJ90 : List Cond := u_ws RJ9 TJ9 0
theorem nmJ9 : ∀ a, a < 0 → ∀ b, b < 0 → a ≠ b → (TJ9 a).2.1 ≠ (TJ9 b).2.1 := by decide +kernel
theorem tyJ9_ok : ∀ k, k < 0 → parseFieldDescriptor (TJ9 k).2.2.1 = some (tyJ9 k) := by decide +kernel
abbrev cJ9_max_7cf53 : ByteArray := prog_16_method_65_code
def yJ9_max_7cf53 : MethodName := ⟨RJ9, "max", "(II)I"⟩
abbrev cJ9_min_7cf53 : ByteArray := prog_16_method_69_code
def yJ9_min_7cf53 : MethodName := ⟨RJ9, "min", "(II)I"⟩
def RJ10 : String := "java/lang/System"
def TJ10 : u_T := fun k => match k with
  | _ => ("", "", "", false)
def tyJ10 : Nat → FieldType := fun k => match k with
  | _ => .int
abbrev wsJ100 : List Cond := u_ws RJ10 TJ10 0
theorem nmJ10 : ∀ a, a < 0 → ∀ b, b < 0 → a ≠ b → (TJ10 a).2.1 ≠ (TJ10 b).2.1 := by decide +kernel
theorem tyJ10_ok : ∀ k, k < 0 → parseFieldDescriptor (TJ10 k).2.2.1 = some (tyJ10 k) := by decide +kernel
def RL : String := "SliceSellerLaw"
abbrev cL_law : ByteArray := code
def yL_law : MethodName := ⟨RL, "law", "([I)Z"⟩
abbrev vwCl : List vw_C := [(RX0, TX0, 5), (RX1, TX1, 3), (RX2, TX2, 6), (RX3, TX3, 13), (RX4, TX4, 8), (RX5, TX5, 6), (RX6, TX6, 5), (RX7, TX7, 3), (RX8, TX8, 19), (RX9, TX9, 2), (RX10, TX10, 5), (RX11, TX11, 8), (RX12, TX12, 67)]
end
section
theorem dJ6_bitCount_0f7a4_0 : decode cJ6_bitCount_0f7a4 0 = .ok (.iload_n 0, 1) := by decide +kernel
theorem dJ6_bitCount_0f7a4_1 : decode cJ6_bitCount_0f7a4 1 = .ok (.iload_n 0, 1) := by decide +kernel
theorem dJ6_bitCount_0f7a4_2 : decode cJ6_bitCount_0f7a4 2 = .ok (.iconst 1, 1) := by decide +kernel
theorem dJ6_bitCount_0f7a4_3 : decode cJ6_bitCount_0f7a4 3 = .ok (.iushr, 1) := by decide +kernel
theorem dJ6_bitCount_0f7a4_4 : decode cJ6_bitCount_0f7a4 4 = .ok (.ldc_w 265, 3) := by decide +kernel
theorem dJ6_bitCount_0f7a4_7 : decode cJ6_bitCount_0f7a4 7 = .ok (.iand, 1) := by decide +kernel
theorem dJ6_bitCount_0f7a4_8 : decode cJ6_bitCount_0f7a4 8 = .ok (.isub, 1) := by decide +kernel
theorem dJ6_bitCount_0f7a4_9 : decode cJ6_bitCount_0f7a4 9 = .ok (.istore_n 0, 1) := by decide +kernel
theorem dJ6_bitCount_0f7a4_10 : decode cJ6_bitCount_0f7a4 10 = .ok (.iload_n 0, 1) := by decide +kernel
theorem dJ6_bitCount_0f7a4_11 : decode cJ6_bitCount_0f7a4 11 = .ok (.ldc_w 266, 3) := by decide +kernel
theorem dJ6_bitCount_0f7a4_14 : decode cJ6_bitCount_0f7a4 14 = .ok (.iand, 1) := by decide +kernel
theorem dJ6_bitCount_0f7a4_15 : decode cJ6_bitCount_0f7a4 15 = .ok (.iload_n 0, 1) := by decide +kernel
theorem dJ6_bitCount_0f7a4_16 : decode cJ6_bitCount_0f7a4 16 = .ok (.iconst 2, 1) := by decide +kernel
theorem dJ6_bitCount_0f7a4_17 : decode cJ6_bitCount_0f7a4 17 = .ok (.iushr, 1) := by decide +kernel
theorem dJ6_bitCount_0f7a4_18 : decode cJ6_bitCount_0f7a4 18 = .ok (.ldc_w 266, 3) := by decide +kernel
theorem dJ6_bitCount_0f7a4_21 : decode cJ6_bitCount_0f7a4 21 = .ok (.iand, 1) := by decide +kernel
theorem dJ6_bitCount_0f7a4_22 : decode cJ6_bitCount_0f7a4 22 = .ok (.iadd, 1) := by decide +kernel
theorem dJ6_bitCount_0f7a4_23 : decode cJ6_bitCount_0f7a4 23 = .ok (.istore_n 0, 1) := by decide +kernel
theorem dJ6_bitCount_0f7a4_24 : decode cJ6_bitCount_0f7a4 24 = .ok (.iload_n 0, 1) := by decide +kernel
theorem dJ6_bitCount_0f7a4_25 : decode cJ6_bitCount_0f7a4 25 = .ok (.iload_n 0, 1) := by decide +kernel
theorem dJ6_bitCount_0f7a4_26 : decode cJ6_bitCount_0f7a4 26 = .ok (.iconst 4, 1) := by decide +kernel
theorem dJ6_bitCount_0f7a4_27 : decode cJ6_bitCount_0f7a4 27 = .ok (.iushr, 1) := by decide +kernel
theorem dJ6_bitCount_0f7a4_28 : decode cJ6_bitCount_0f7a4 28 = .ok (.iadd, 1) := by decide +kernel
theorem dJ6_bitCount_0f7a4_29 : decode cJ6_bitCount_0f7a4 29 = .ok (.ldc_w 267, 3) := by decide +kernel
theorem dJ6_bitCount_0f7a4_32 : decode cJ6_bitCount_0f7a4 32 = .ok (.iand, 1) := by decide +kernel
theorem dJ6_bitCount_0f7a4_33 : decode cJ6_bitCount_0f7a4 33 = .ok (.istore_n 0, 1) := by decide +kernel
theorem dJ6_bitCount_0f7a4_34 : decode cJ6_bitCount_0f7a4 34 = .ok (.iload_n 0, 1) := by decide +kernel
theorem dJ6_bitCount_0f7a4_35 : decode cJ6_bitCount_0f7a4 35 = .ok (.iload_n 0, 1) := by decide +kernel
theorem dJ6_bitCount_0f7a4_36 : decode cJ6_bitCount_0f7a4 36 = .ok (.bipush 8, 2) := by decide +kernel
theorem dJ6_bitCount_0f7a4_38 : decode cJ6_bitCount_0f7a4 38 = .ok (.iushr, 1) := by decide +kernel
theorem dJ6_bitCount_0f7a4_39 : decode cJ6_bitCount_0f7a4 39 = .ok (.iadd, 1) := by decide +kernel
theorem dJ6_bitCount_0f7a4_40 : decode cJ6_bitCount_0f7a4 40 = .ok (.istore_n 0, 1) := by decide +kernel
theorem dJ6_bitCount_0f7a4_41 : decode cJ6_bitCount_0f7a4 41 = .ok (.iload_n 0, 1) := by decide +kernel
theorem dJ6_bitCount_0f7a4_42 : decode cJ6_bitCount_0f7a4 42 = .ok (.iload_n 0, 1) := by decide +kernel
theorem dJ6_bitCount_0f7a4_43 : decode cJ6_bitCount_0f7a4 43 = .ok (.bipush 16, 2) := by decide +kernel
theorem dJ6_bitCount_0f7a4_45 : decode cJ6_bitCount_0f7a4 45 = .ok (.iushr, 1) := by decide +kernel
theorem dJ6_bitCount_0f7a4_46 : decode cJ6_bitCount_0f7a4 46 = .ok (.iadd, 1) := by decide +kernel
theorem dJ6_bitCount_0f7a4_47 : decode cJ6_bitCount_0f7a4 47 = .ok (.istore_n 0, 1) := by decide +kernel
theorem dJ6_bitCount_0f7a4_48 : decode cJ6_bitCount_0f7a4 48 = .ok (.iload_n 0, 1) := by decide +kernel
theorem dJ6_bitCount_0f7a4_49 : decode cJ6_bitCount_0f7a4 49 = .ok (.bipush 63, 2) := by decide +kernel
theorem dJ6_bitCount_0f7a4_51 : decode cJ6_bitCount_0f7a4 51 = .ok (.iand, 1) := by decide +kernel
theorem dJ6_bitCount_0f7a4_52 : decode cJ6_bitCount_0f7a4 52 = .ok (.ireturn, 1) := by decide +kernel
theorem dJ9_max_7cf53_0 : decode cJ9_max_7cf53 0 = .ok (.iload_n 0, 1) := by decide +kernel
theorem dJ9_max_7cf53_1 : decode cJ9_max_7cf53 1 = .ok (.iload_n 1, 1) := by decide +kernel
theorem dJ9_max_7cf53_2 : decode cJ9_max_7cf53 2 = .ok (.if_icmp .lt 7, 3) := by decide +kernel
theorem dJ9_max_7cf53_5 : decode cJ9_max_7cf53 5 = .ok (.iload_n 0, 1) := by decide +kernel
theorem dJ9_max_7cf53_6 : decode cJ9_max_7cf53 6 = .ok (.goto 4, 3) := by decide +kernel
theorem dJ9_max_7cf53_9 : decode cJ9_max_7cf53 9 = .ok (.iload_n 1, 1) := by decide +kernel
theorem dJ9_max_7cf53_10 : decode cJ9_max_7cf53 10 = .ok (.ireturn, 1) := by decide +kernel
theorem dJ9_min_7cf53_0 : decode cJ9_min_7cf53 0 = .ok (.iload_n 0, 1) := by decide +kernel
theorem dJ9_min_7cf53_1 : decode cJ9_min_7cf53 1 = .ok (.iload_n 1, 1) := by decide +kernel
theorem dJ9_min_7cf53_2 : decode cJ9_min_7cf53 2 = .ok (.if_icmp .gt 7, 3) := by decide +kernel
theorem dJ9_min_7cf53_5 : decode cJ9_min_7cf53 5 = .ok (.iload_n 0, 1) := by decide +kernel
theorem dJ9_min_7cf53_6 : decode cJ9_min_7cf53 6 = .ok (.goto 4, 3) := by decide +kernel
theorem dJ9_min_7cf53_9 : decode cJ9_min_7cf53 9 = .ok (.iload_n 1, 1) := by decide +kernel
theorem dJ9_min_7cf53_10 : decode cJ9_min_7cf53 10 = .ok (.ireturn, 1) := by decide +kernel
theorem dX0_init_0 : decode cX0_init 0 = .ok (.aload_n 0, 1) := by decide +kernel
theorem dX0_init_1 : decode cX0_init 1 = .ok (.invokespecial 3, 3) := by decide +kernel
theorem dX0_init_4 : decode cX0_init 4 = .ok (.aload_n 0, 1) := by decide +kernel
theorem dX0_init_5 : decode cX0_init 5 = .ok (.sipush 216, 3) := by decide +kernel
theorem dX0_init_8 : decode cX0_init 8 = .ok (.newarray .int, 2) := by decide +kernel
theorem dX0_init_10 : decode cX0_init 10 = .ok (.putfield 9, 3) := by decide +kernel
theorem dX0_init_13 : decode cX0_init 13 = .ok (.aload_n 0, 1) := by decide +kernel
theorem dX0_init_14 : decode cX0_init 14 = .ok (.sipush 216, 3) := by decide +kernel
theorem dX0_init_17 : decode cX0_init 17 = .ok (.newarray .int, 2) := by decide +kernel
theorem dX0_init_19 : decode cX0_init 19 = .ok (.putfield 15, 3) := by decide +kernel
theorem dX0_init_22 : decode cX0_init 22 = .ok (.aload_n 0, 1) := by decide +kernel
theorem dX0_init_23 : decode cX0_init 23 = .ok (.sipush 1944, 3) := by decide +kernel
theorem dX0_init_26 : decode cX0_init 26 = .ok (.newarray .int, 2) := by decide +kernel
theorem dX0_init_28 : decode cX0_init 28 = .ok (.putfield 18, 3) := by decide +kernel
theorem dX0_init_31 : decode cX0_init 31 = .ok (.aload_n 0, 1) := by decide +kernel
theorem dX0_init_32 : decode cX0_init 32 = .ok (.sipush 144, 3) := by decide +kernel
theorem dX0_init_35 : decode cX0_init 35 = .ok (.newarray .int, 2) := by decide +kernel
theorem dX0_init_37 : decode cX0_init 37 = .ok (.putfield 21, 3) := by decide +kernel
theorem dX0_init_40 : decode cX0_init 40 = .ok (.aload_n 0, 1) := by decide +kernel
theorem dX0_init_41 : decode cX0_init 41 = .ok (.bipush 24, 2) := by decide +kernel
theorem dX0_init_43 : decode cX0_init 43 = .ok (.putfield 24, 3) := by decide +kernel
theorem dX0_init_46 : decode cX0_init 46 = .ok (.return_, 1) := by decide +kernel
theorem dX0_loadAt_0 : decode cX0_loadAt 0 = .ok (.aload_n 0, 1) := by decide +kernel
theorem dX0_loadAt_1 : decode cX0_loadAt 1 = .ok (.getfield 9, 3) := by decide +kernel
theorem dX0_loadAt_4 : decode cX0_loadAt 4 = .ok (.iload_n 2, 1) := by decide +kernel
theorem dX0_loadAt_5 : decode cX0_loadAt 5 = .ok (.bipush 9, 2) := by decide +kernel
theorem dX0_loadAt_7 : decode cX0_loadAt 7 = .ok (.imul, 1) := by decide +kernel
theorem dX0_loadAt_8 : decode cX0_loadAt 8 = .ok (.iload_n 1, 1) := by decide +kernel
theorem dX0_loadAt_9 : decode cX0_loadAt 9 = .ok (.iadd, 1) := by decide +kernel
theorem dX0_loadAt_10 : decode cX0_loadAt 10 = .ok (.iaload, 1) := by decide +kernel
theorem dX0_loadAt_11 : decode cX0_loadAt 11 = .ok (.ireturn, 1) := by decide +kernel
theorem dX0_fallAt_0 : decode cX0_fallAt 0 = .ok (.aload_n 0, 1) := by decide +kernel
theorem dX0_fallAt_1 : decode cX0_fallAt 1 = .ok (.getfield 15, 3) := by decide +kernel
theorem dX0_fallAt_4 : decode cX0_fallAt 4 = .ok (.iload_n 2, 1) := by decide +kernel
theorem dX0_fallAt_5 : decode cX0_fallAt 5 = .ok (.bipush 9, 2) := by decide +kernel
theorem dX0_fallAt_7 : decode cX0_fallAt 7 = .ok (.imul, 1) := by decide +kernel
theorem dX0_fallAt_8 : decode cX0_fallAt 8 = .ok (.iload_n 1, 1) := by decide +kernel
theorem dX0_fallAt_9 : decode cX0_fallAt 9 = .ok (.iadd, 1) := by decide +kernel
theorem dX0_fallAt_10 : decode cX0_fallAt 10 = .ok (.iaload, 1) := by decide +kernel
theorem dX0_fallAt_11 : decode cX0_fallAt 11 = .ok (.ireturn, 1) := by decide +kernel
theorem dX0_worksAt_0 : decode cX0_worksAt 0 = .ok (.aload_n 0, 1) := by decide +kernel
theorem dX0_worksAt_1 : decode cX0_worksAt 1 = .ok (.getfield 21, 3) := by decide +kernel
theorem dX0_worksAt_4 : decode cX0_worksAt 4 = .ok (.iload_n 2, 1) := by decide +kernel
theorem dX0_worksAt_5 : decode cX0_worksAt 5 = .ok (.bipush 6, 2) := by decide +kernel
theorem dX0_worksAt_7 : decode cX0_worksAt 7 = .ok (.imul, 1) := by decide +kernel
theorem dX0_worksAt_8 : decode cX0_worksAt 8 = .ok (.iload_n 1, 1) := by decide +kernel
theorem dX0_worksAt_9 : decode cX0_worksAt 9 = .ok (.iadd, 1) := by decide +kernel
theorem dX0_worksAt_10 : decode cX0_worksAt 10 = .ok (.iaload, 1) := by decide +kernel
theorem dX0_worksAt_11 : decode cX0_worksAt 11 = .ok (.ireturn, 1) := by decide +kernel
theorem dX0_freeAt_0 : decode cX0_freeAt 0 = .ok (.aload_n 1, 1) := by decide +kernel
theorem dX0_freeAt_1 : decode cX0_freeAt 1 = .ok (.iload_n 2, 1) := by decide +kernel
theorem dX0_freeAt_2 : decode cX0_freeAt 2 = .ok (.invokevirtual 28, 3) := by decide +kernel
theorem dX0_freeAt_5 : decode cX0_freeAt 5 = .ok (.getfield 34, 3) := by decide +kernel
theorem dX0_freeAt_8 : decode cX0_freeAt 8 = .ok (.aload_n 0, 1) := by decide +kernel
theorem dX0_freeAt_9 : decode cX0_freeAt 9 = .ok (.iload_n 2, 1) := by decide +kernel
theorem dX0_freeAt_10 : decode cX0_freeAt 10 = .ok (.iload_n 3, 1) := by decide +kernel
theorem dX0_freeAt_11 : decode cX0_freeAt 11 = .ok (.invokevirtual 39, 3) := by decide +kernel
theorem dX0_freeAt_14 : decode cX0_freeAt 14 = .ok (.isub, 1) := by decide +kernel
theorem dX0_freeAt_15 : decode cX0_freeAt 15 = .ok (.aload_n 0, 1) := by decide +kernel
theorem dX0_freeAt_16 : decode cX0_freeAt 16 = .ok (.iload_n 2, 1) := by decide +kernel
theorem dX0_freeAt_17 : decode cX0_freeAt 17 = .ok (.iload_n 3, 1) := by decide +kernel
theorem dX0_freeAt_18 : decode cX0_freeAt 18 = .ok (.invokevirtual 43, 3) := by decide +kernel
theorem dX0_freeAt_21 : decode cX0_freeAt 21 = .ok (.isub, 1) := by decide +kernel
theorem dX0_freeAt_22 : decode cX0_freeAt 22 = .ok (.ireturn, 1) := by decide +kernel
theorem dX0_linesHold_0 : decode cX0_linesHold 0 = .ok (.aload_n 2, 1) := by decide +kernel
theorem dX0_linesHold_1 : decode cX0_linesHold 1 = .ok (.invokevirtual 46, 3) := by decide +kernel
theorem dX0_linesHold_4 : decode cX0_linesHold 4 = .ok (.istore 5, 2) := by decide +kernel
theorem dX0_linesHold_6 : decode cX0_linesHold 6 = .ok (.iconst 0, 1) := by decide +kernel
theorem dX0_linesHold_7 : decode cX0_linesHold 7 = .ok (.istore 6, 2) := by decide +kernel
theorem dX0_linesHold_9 : decode cX0_linesHold 9 = .ok (.iload 6, 2) := by decide +kernel
theorem dX0_linesHold_11 : decode cX0_linesHold 11 = .ok (.aload_n 0, 1) := by decide +kernel
theorem dX0_linesHold_12 : decode cX0_linesHold 12 = .ok (.getfield 24, 3) := by decide +kernel
theorem dX0_linesHold_15 : decode cX0_linesHold 15 = .ok (.if_icmp .ge 34, 3) := by decide +kernel
theorem dX0_linesHold_18 : decode cX0_linesHold 18 = .ok (.iload 4, 2) := by decide +kernel
theorem dX0_linesHold_20 : decode cX0_linesHold 20 = .ok (.iload 6, 2) := by decide +kernel
theorem dX0_linesHold_22 : decode cX0_linesHold 22 = .ok (.invokestatic 52, 3) := by decide +kernel
theorem dX0_linesHold_25 : decode cX0_linesHold 25 = .ok (.ifCond .eq 18, 3) := by decide +kernel
theorem dX0_linesHold_28 : decode cX0_linesHold 28 = .ok (.aload_n 0, 1) := by decide +kernel
theorem dX0_linesHold_29 : decode cX0_linesHold 29 = .ok (.aload_n 1, 1) := by decide +kernel
theorem dX0_linesHold_30 : decode cX0_linesHold 30 = .ok (.iload_n 3, 1) := by decide +kernel
theorem dX0_linesHold_31 : decode cX0_linesHold 31 = .ok (.iload 5, 2) := by decide +kernel
theorem dX0_linesHold_33 : decode cX0_linesHold 33 = .ok (.iload 6, 2) := by decide +kernel
theorem dX0_linesHold_35 : decode cX0_linesHold 35 = .ok (.invokevirtual 56, 3) := by decide +kernel
theorem dX0_linesHold_38 : decode cX0_linesHold 38 = .ok (.ifCond .ne 5, 3) := by decide +kernel
theorem dX0_linesHold_41 : decode cX0_linesHold 41 = .ok (.iconst 0, 1) := by decide +kernel
theorem dX0_linesHold_42 : decode cX0_linesHold 42 = .ok (.ireturn, 1) := by decide +kernel
theorem dX0_linesHold_43 : decode cX0_linesHold 43 = .ok (.iinc 6 1, 3) := by decide +kernel
theorem dX0_linesHold_46 : decode cX0_linesHold 46 = .ok (.goto (-37), 3) := by decide +kernel
theorem dX0_linesHold_49 : decode cX0_linesHold 49 = .ok (.iconst 1, 1) := by decide +kernel
theorem dX0_linesHold_50 : decode cX0_linesHold 50 = .ok (.ireturn, 1) := by decide +kernel
theorem dX0_hostHolds_0 : decode cX0_hostHolds 0 = .ok (.iload_n 3, 1) := by decide +kernel
theorem dX0_hostHolds_1 : decode cX0_hostHolds 1 = .ok (.invokestatic 60, 3) := by decide +kernel
theorem dX0_hostHolds_4 : decode cX0_hostHolds 4 = .ok (.istore 5, 2) := by decide +kernel
theorem dX0_hostHolds_6 : decode cX0_hostHolds 6 = .ok (.aload_n 1, 1) := by decide +kernel
theorem dX0_hostHolds_7 : decode cX0_hostHolds 7 = .ok (.iload 5, 2) := by decide +kernel
theorem dX0_hostHolds_9 : decode cX0_hostHolds 9 = .ok (.invokevirtual 64, 3) := by decide +kernel
theorem dX0_hostHolds_12 : decode cX0_hostHolds 12 = .ok (.aload_n 2, 1) := by decide +kernel
theorem dX0_hostHolds_13 : decode cX0_hostHolds 13 = .ok (.getfield 67, 3) := by decide +kernel
theorem dX0_hostHolds_16 : decode cX0_hostHolds 16 = .ok (.isub, 1) := by decide +kernel
theorem dX0_hostHolds_17 : decode cX0_hostHolds 17 = .ok (.istore 6, 2) := by decide +kernel
theorem dX0_hostHolds_19 : decode cX0_hostHolds 19 = .ok (.iconst 0, 1) := by decide +kernel
theorem dX0_hostHolds_20 : decode cX0_hostHolds 20 = .ok (.istore 7, 2) := by decide +kernel
theorem dX0_hostHolds_22 : decode cX0_hostHolds 22 = .ok (.iload 7, 2) := by decide +kernel
theorem dX0_hostHolds_24 : decode cX0_hostHolds 24 = .ok (.aload_n 0, 1) := by decide +kernel
theorem dX0_hostHolds_25 : decode cX0_hostHolds 25 = .ok (.getfield 24, 3) := by decide +kernel
theorem dX0_hostHolds_28 : decode cX0_hostHolds 28 = .ok (.if_icmp .ge 34, 3) := by decide +kernel
theorem dX0_hostHolds_31 : decode cX0_hostHolds 31 = .ok (.iload 4, 2) := by decide +kernel
theorem dX0_hostHolds_33 : decode cX0_hostHolds 33 = .ok (.iload 7, 2) := by decide +kernel
theorem dX0_hostHolds_35 : decode cX0_hostHolds 35 = .ok (.invokestatic 52, 3) := by decide +kernel
theorem dX0_hostHolds_38 : decode cX0_hostHolds 38 = .ok (.ifCond .eq 18, 3) := by decide +kernel
theorem dX0_hostHolds_41 : decode cX0_hostHolds 41 = .ok (.aload_n 0, 1) := by decide +kernel
theorem dX0_hostHolds_42 : decode cX0_hostHolds 42 = .ok (.iload 5, 2) := by decide +kernel
theorem dX0_hostHolds_44 : decode cX0_hostHolds 44 = .ok (.iload 7, 2) := by decide +kernel
theorem dX0_hostHolds_46 : decode cX0_hostHolds 46 = .ok (.invokevirtual 70, 3) := by decide +kernel
theorem dX0_hostHolds_49 : decode cX0_hostHolds 49 = .ok (.iload 6, 2) := by decide +kernel
theorem dX0_hostHolds_51 : decode cX0_hostHolds 51 = .ok (.if_icmp .le 5, 3) := by decide +kernel
theorem dX0_hostHolds_54 : decode cX0_hostHolds 54 = .ok (.iconst 0, 1) := by decide +kernel
theorem dX0_hostHolds_55 : decode cX0_hostHolds 55 = .ok (.ireturn, 1) := by decide +kernel
theorem dX0_hostHolds_56 : decode cX0_hostHolds 56 = .ok (.iinc 7 1, 3) := by decide +kernel
theorem dX0_hostHolds_59 : decode cX0_hostHolds 59 = .ok (.goto (-37), 3) := by decide +kernel
theorem dX0_hostHolds_62 : decode cX0_hostHolds 62 = .ok (.iconst 1, 1) := by decide +kernel
theorem dX0_hostHolds_63 : decode cX0_hostHolds 63 = .ok (.ireturn, 1) := by decide +kernel
theorem dX0_linesHoldAt_0 : decode cX0_linesHoldAt 0 = .ok (.iload_n 2, 1) := by decide +kernel
theorem dX0_linesHoldAt_1 : decode cX0_linesHoldAt 1 = .ok (.invokestatic 73, 3) := by decide +kernel
theorem dX0_linesHoldAt_4 : decode cX0_linesHoldAt 4 = .ok (.istore 5, 2) := by decide +kernel
theorem dX0_linesHoldAt_6 : decode cX0_linesHoldAt 6 = .ok (.iload_n 2, 1) := by decide +kernel
theorem dX0_linesHoldAt_7 : decode cX0_linesHoldAt 7 = .ok (.invokestatic 76, 3) := by decide +kernel
theorem dX0_linesHoldAt_10 : decode cX0_linesHoldAt 10 = .ok (.istore 6, 2) := by decide +kernel
theorem dX0_linesHoldAt_12 : decode cX0_linesHoldAt 12 = .ok (.iconst 0, 1) := by decide +kernel
theorem dX0_linesHoldAt_13 : decode cX0_linesHoldAt 13 = .ok (.istore 7, 2) := by decide +kernel
theorem dX0_linesHoldAt_15 : decode cX0_linesHoldAt 15 = .ok (.iload 7, 2) := by decide +kernel
theorem dX0_linesHoldAt_17 : decode cX0_linesHoldAt 17 = .ok (.aload_n 1, 1) := by decide +kernel
theorem dX0_linesHoldAt_18 : decode cX0_linesHoldAt 18 = .ok (.getfield 79, 3) := by decide +kernel
theorem dX0_linesHoldAt_21 : decode cX0_linesHoldAt 21 = .ok (.if_icmp .ge 84, 3) := by decide +kernel
theorem dX0_linesHoldAt_24 : decode cX0_linesHoldAt 24 = .ok (.aload_n 1, 1) := by decide +kernel
theorem dX0_linesHoldAt_25 : decode cX0_linesHoldAt 25 = .ok (.iload 7, 2) := by decide +kernel
theorem dX0_linesHoldAt_27 : decode cX0_linesHoldAt 27 = .ok (.invokevirtual 28, 3) := by decide +kernel
theorem dX0_linesHoldAt_30 : decode cX0_linesHoldAt 30 = .ok (.getfield 34, 3) := by decide +kernel
theorem dX0_linesHoldAt_33 : decode cX0_linesHoldAt 33 = .ok (.aload_n 0, 1) := by decide +kernel
theorem dX0_linesHoldAt_34 : decode cX0_linesHoldAt 34 = .ok (.iload 7, 2) := by decide +kernel
theorem dX0_linesHoldAt_36 : decode cX0_linesHoldAt 36 = .ok (.iload 4, 2) := by decide +kernel
theorem dX0_linesHoldAt_38 : decode cX0_linesHoldAt 38 = .ok (.invokevirtual 39, 3) := by decide +kernel
theorem dX0_linesHoldAt_41 : decode cX0_linesHoldAt 41 = .ok (.isub, 1) := by decide +kernel
theorem dX0_linesHoldAt_42 : decode cX0_linesHoldAt 42 = .ok (.istore 8, 2) := by decide +kernel
theorem dX0_linesHoldAt_44 : decode cX0_linesHoldAt 44 = .ok (.iload 5, 2) := by decide +kernel
theorem dX0_linesHoldAt_46 : decode cX0_linesHoldAt 46 = .ok (.iload 7, 2) := by decide +kernel
theorem dX0_linesHoldAt_48 : decode cX0_linesHoldAt 48 = .ok (.invokestatic 52, 3) := by decide +kernel
theorem dX0_linesHoldAt_51 : decode cX0_linesHoldAt 51 = .ok (.ifCond .eq 20, 3) := by decide +kernel
theorem dX0_linesHoldAt_54 : decode cX0_linesHoldAt 54 = .ok (.iload_n 3, 1) := by decide +kernel
theorem dX0_linesHoldAt_55 : decode cX0_linesHoldAt 55 = .ok (.aload_n 0, 1) := by decide +kernel
theorem dX0_linesHoldAt_56 : decode cX0_linesHoldAt 56 = .ok (.iload 7, 2) := by decide +kernel
theorem dX0_linesHoldAt_58 : decode cX0_linesHoldAt 58 = .ok (.iload 4, 2) := by decide +kernel
theorem dX0_linesHoldAt_60 : decode cX0_linesHoldAt 60 = .ok (.invokevirtual 43, 3) := by decide +kernel
theorem dX0_linesHoldAt_63 : decode cX0_linesHoldAt 63 = .ok (.iadd, 1) := by decide +kernel
theorem dX0_linesHoldAt_64 : decode cX0_linesHoldAt 64 = .ok (.iload 8, 2) := by decide +kernel
theorem dX0_linesHoldAt_66 : decode cX0_linesHoldAt 66 = .ok (.if_icmp .le 5, 3) := by decide +kernel
theorem dX0_linesHoldAt_69 : decode cX0_linesHoldAt 69 = .ok (.iconst 0, 1) := by decide +kernel
theorem dX0_linesHoldAt_70 : decode cX0_linesHoldAt 70 = .ok (.ireturn, 1) := by decide +kernel
theorem dX0_linesHoldAt_71 : decode cX0_linesHoldAt 71 = .ok (.iload 6, 2) := by decide +kernel
theorem dX0_linesHoldAt_73 : decode cX0_linesHoldAt 73 = .ok (.iload 7, 2) := by decide +kernel
theorem dX0_linesHoldAt_75 : decode cX0_linesHoldAt 75 = .ok (.invokestatic 52, 3) := by decide +kernel
theorem dX0_linesHoldAt_78 : decode cX0_linesHoldAt 78 = .ok (.ifCond .eq 21, 3) := by decide +kernel
theorem dX0_linesHoldAt_81 : decode cX0_linesHoldAt 81 = .ok (.aload_n 0, 1) := by decide +kernel
theorem dX0_linesHoldAt_82 : decode cX0_linesHoldAt 82 = .ok (.iload 7, 2) := by decide +kernel
theorem dX0_linesHoldAt_84 : decode cX0_linesHoldAt 84 = .ok (.iload 5, 2) := by decide +kernel
theorem dX0_linesHoldAt_86 : decode cX0_linesHoldAt 86 = .ok (.iload_n 3, 1) := by decide +kernel
theorem dX0_linesHoldAt_87 : decode cX0_linesHoldAt 87 = .ok (.iload 4, 2) := by decide +kernel
theorem dX0_linesHoldAt_89 : decode cX0_linesHoldAt 89 = .ok (.invokevirtual 82, 3) := by decide +kernel
theorem dX0_linesHoldAt_92 : decode cX0_linesHoldAt 92 = .ok (.iload 8, 2) := by decide +kernel
theorem dX0_linesHoldAt_94 : decode cX0_linesHoldAt 94 = .ok (.if_icmp .le 5, 3) := by decide +kernel
theorem dX0_linesHoldAt_97 : decode cX0_linesHoldAt 97 = .ok (.iconst 0, 1) := by decide +kernel
theorem dX0_linesHoldAt_98 : decode cX0_linesHoldAt 98 = .ok (.ireturn, 1) := by decide +kernel
theorem dX0_linesHoldAt_99 : decode cX0_linesHoldAt 99 = .ok (.iinc 7 1, 3) := by decide +kernel
theorem dX0_linesHoldAt_102 : decode cX0_linesHoldAt 102 = .ok (.goto (-87), 3) := by decide +kernel
theorem dX0_linesHoldAt_105 : decode cX0_linesHoldAt 105 = .ok (.iconst 1, 1) := by decide +kernel
theorem dX0_linesHoldAt_106 : decode cX0_linesHoldAt 106 = .ok (.ireturn, 1) := by decide +kernel
theorem dX0_fallWith_0 : decode cX0_fallWith 0 = .ok (.iload 4, 2) := by decide +kernel
theorem dX0_fallWith_2 : decode cX0_fallWith 2 = .ok (.bipush 9, 2) := by decide +kernel
theorem dX0_fallWith_4 : decode cX0_fallWith 4 = .ok (.imul, 1) := by decide +kernel
theorem dX0_fallWith_5 : decode cX0_fallWith 5 = .ok (.iload_n 1, 1) := by decide +kernel
theorem dX0_fallWith_6 : decode cX0_fallWith 6 = .ok (.iadd, 1) := by decide +kernel
theorem dX0_fallWith_7 : decode cX0_fallWith 7 = .ok (.istore 5, 2) := by decide +kernel
theorem dX0_fallWith_9 : decode cX0_fallWith 9 = .ok (.aload_n 0, 1) := by decide +kernel
theorem dX0_fallWith_10 : decode cX0_fallWith 10 = .ok (.getfield 15, 3) := by decide +kernel
theorem dX0_fallWith_13 : decode cX0_fallWith 13 = .ok (.iload 5, 2) := by decide +kernel
theorem dX0_fallWith_15 : decode cX0_fallWith 15 = .ok (.iaload, 1) := by decide +kernel
theorem dX0_fallWith_16 : decode cX0_fallWith 16 = .ok (.istore 6, 2) := by decide +kernel
theorem dX0_fallWith_18 : decode cX0_fallWith 18 = .ok (.iconst 0, 1) := by decide +kernel
theorem dX0_fallWith_19 : decode cX0_fallWith 19 = .ok (.istore 7, 2) := by decide +kernel
theorem dX0_fallWith_21 : decode cX0_fallWith 21 = .ok (.iload 7, 2) := by decide +kernel
theorem dX0_fallWith_23 : decode cX0_fallWith 23 = .ok (.bipush 9, 2) := by decide +kernel
theorem dX0_fallWith_25 : decode cX0_fallWith 25 = .ok (.if_icmp .ge 40, 3) := by decide +kernel
theorem dX0_fallWith_28 : decode cX0_fallWith 28 = .ok (.iload_n 2, 1) := by decide +kernel
theorem dX0_fallWith_29 : decode cX0_fallWith 29 = .ok (.iload 7, 2) := by decide +kernel
theorem dX0_fallWith_31 : decode cX0_fallWith 31 = .ok (.invokestatic 52, 3) := by decide +kernel
theorem dX0_fallWith_34 : decode cX0_fallWith 34 = .ok (.ifCond .eq 25, 3) := by decide +kernel
theorem dX0_fallWith_37 : decode cX0_fallWith 37 = .ok (.iload 6, 2) := by decide +kernel
theorem dX0_fallWith_39 : decode cX0_fallWith 39 = .ok (.aload_n 0, 1) := by decide +kernel
theorem dX0_fallWith_40 : decode cX0_fallWith 40 = .ok (.getfield 18, 3) := by decide +kernel
theorem dX0_fallWith_43 : decode cX0_fallWith 43 = .ok (.iload 5, 2) := by decide +kernel
theorem dX0_fallWith_45 : decode cX0_fallWith 45 = .ok (.bipush 9, 2) := by decide +kernel
theorem dX0_fallWith_47 : decode cX0_fallWith 47 = .ok (.imul, 1) := by decide +kernel
theorem dX0_fallWith_48 : decode cX0_fallWith 48 = .ok (.iload 7, 2) := by decide +kernel
theorem dX0_fallWith_50 : decode cX0_fallWith 50 = .ok (.iadd, 1) := by decide +kernel
theorem dX0_fallWith_51 : decode cX0_fallWith 51 = .ok (.iaload, 1) := by decide +kernel
theorem dX0_fallWith_52 : decode cX0_fallWith 52 = .ok (.iload_n 3, 1) := by decide +kernel
theorem dX0_fallWith_53 : decode cX0_fallWith 53 = .ok (.iadd, 1) := by decide +kernel
theorem dX0_fallWith_54 : decode cX0_fallWith 54 = .ok (.invokestatic 86, 3) := by decide +kernel
theorem dX0_fallWith_57 : decode cX0_fallWith 57 = .ok (.istore 6, 2) := by decide +kernel
theorem dX0_fallWith_59 : decode cX0_fallWith 59 = .ok (.iinc 7 1, 3) := by decide +kernel
theorem dX0_fallWith_62 : decode cX0_fallWith 62 = .ok (.goto (-41), 3) := by decide +kernel
theorem dX0_fallWith_65 : decode cX0_fallWith 65 = .ok (.iload 6, 2) := by decide +kernel
theorem dX0_fallWith_67 : decode cX0_fallWith 67 = .ok (.ireturn, 1) := by decide +kernel
theorem dX0_enter_0 : decode cX0_enter 0 = .ok (.aload_n 2, 1) := by decide +kernel
theorem dX0_enter_1 : decode cX0_enter 1 = .ok (.invokevirtual 46, 3) := by decide +kernel
theorem dX0_enter_4 : decode cX0_enter 4 = .ok (.iload 5, 2) := by decide +kernel
theorem dX0_enter_6 : decode cX0_enter 6 = .ok (.imul, 1) := by decide +kernel
theorem dX0_enter_7 : decode cX0_enter 7 = .ok (.istore 6, 2) := by decide +kernel
theorem dX0_enter_9 : decode cX0_enter 9 = .ok (.iload_n 3, 1) := by decide +kernel
theorem dX0_enter_10 : decode cX0_enter 10 = .ok (.invokestatic 60, 3) := by decide +kernel
theorem dX0_enter_13 : decode cX0_enter 13 = .ok (.istore 7, 2) := by decide +kernel
theorem dX0_enter_15 : decode cX0_enter 15 = .ok (.iconst 0, 1) := by decide +kernel
theorem dX0_enter_16 : decode cX0_enter 16 = .ok (.istore 8, 2) := by decide +kernel
theorem dX0_enter_18 : decode cX0_enter 18 = .ok (.iload 8, 2) := by decide +kernel
theorem dX0_enter_20 : decode cX0_enter 20 = .ok (.aload_n 0, 1) := by decide +kernel
theorem dX0_enter_21 : decode cX0_enter 21 = .ok (.getfield 24, 3) := by decide +kernel
theorem dX0_enter_24 : decode cX0_enter 24 = .ok (.if_icmp .ge 52, 3) := by decide +kernel
theorem dX0_enter_27 : decode cX0_enter 27 = .ok (.iload 4, 2) := by decide +kernel
theorem dX0_enter_29 : decode cX0_enter 29 = .ok (.iload 8, 2) := by decide +kernel
theorem dX0_enter_31 : decode cX0_enter 31 = .ok (.invokestatic 52, 3) := by decide +kernel
theorem dX0_enter_34 : decode cX0_enter 34 = .ok (.ifCond .eq 36, 3) := by decide +kernel
theorem dX0_enter_37 : decode cX0_enter 37 = .ok (.aload_n 0, 1) := by decide +kernel
theorem dX0_enter_38 : decode cX0_enter 38 = .ok (.aload_n 1, 1) := by decide +kernel
theorem dX0_enter_39 : decode cX0_enter 39 = .ok (.iload_n 3, 1) := by decide +kernel
theorem dX0_enter_40 : decode cX0_enter 40 = .ok (.iload 6, 2) := by decide +kernel
theorem dX0_enter_42 : decode cX0_enter 42 = .ok (.iload 8, 2) := by decide +kernel
theorem dX0_enter_44 : decode cX0_enter 44 = .ok (.invokevirtual 91, 3) := by decide +kernel
theorem dX0_enter_47 : decode cX0_enter 47 = .ok (.aload_n 0, 1) := by decide +kernel
theorem dX0_enter_48 : decode cX0_enter 48 = .ok (.getfield 21, 3) := by decide +kernel
theorem dX0_enter_51 : decode cX0_enter 51 = .ok (.iload 8, 2) := by decide +kernel
theorem dX0_enter_53 : decode cX0_enter 53 = .ok (.bipush 6, 2) := by decide +kernel
theorem dX0_enter_55 : decode cX0_enter 55 = .ok (.imul, 1) := by decide +kernel
theorem dX0_enter_56 : decode cX0_enter 56 = .ok (.iload 7, 2) := by decide +kernel
theorem dX0_enter_58 : decode cX0_enter 58 = .ok (.iadd, 1) := by decide +kernel
theorem dX0_enter_59 : decode cX0_enter 59 = .ok (.dup2, 1) := by decide +kernel
theorem dX0_enter_60 : decode cX0_enter 60 = .ok (.iaload, 1) := by decide +kernel
theorem dX0_enter_61 : decode cX0_enter 61 = .ok (.aload_n 2, 1) := by decide +kernel
theorem dX0_enter_62 : decode cX0_enter 62 = .ok (.getfield 67, 3) := by decide +kernel
theorem dX0_enter_65 : decode cX0_enter 65 = .ok (.iload 5, 2) := by decide +kernel
theorem dX0_enter_67 : decode cX0_enter 67 = .ok (.imul, 1) := by decide +kernel
theorem dX0_enter_68 : decode cX0_enter 68 = .ok (.iadd, 1) := by decide +kernel
theorem dX0_enter_69 : decode cX0_enter 69 = .ok (.iastore, 1) := by decide +kernel
theorem dX0_enter_70 : decode cX0_enter 70 = .ok (.iinc 8 1, 3) := by decide +kernel
theorem dX0_enter_73 : decode cX0_enter 73 = .ok (.goto (-55), 3) := by decide +kernel
theorem dX0_enter_76 : decode cX0_enter 76 = .ok (.return_, 1) := by decide +kernel
theorem dX0_enterLines_0 : decode cX0_enterLines 0 = .ok (.iload_n 2, 1) := by decide +kernel
theorem dX0_enterLines_1 : decode cX0_enterLines 1 = .ok (.invokestatic 73, 3) := by decide +kernel
theorem dX0_enterLines_4 : decode cX0_enterLines 4 = .ok (.istore 5, 2) := by decide +kernel
theorem dX0_enterLines_6 : decode cX0_enterLines 6 = .ok (.iload_n 2, 1) := by decide +kernel
theorem dX0_enterLines_7 : decode cX0_enterLines 7 = .ok (.invokestatic 76, 3) := by decide +kernel
theorem dX0_enterLines_10 : decode cX0_enterLines 10 = .ok (.istore 6, 2) := by decide +kernel
theorem dX0_enterLines_12 : decode cX0_enterLines 12 = .ok (.iconst 0, 1) := by decide +kernel
theorem dX0_enterLines_13 : decode cX0_enterLines 13 = .ok (.istore 7, 2) := by decide +kernel
theorem dX0_enterLines_15 : decode cX0_enterLines 15 = .ok (.iload 7, 2) := by decide +kernel
theorem dX0_enterLines_17 : decode cX0_enterLines 17 = .ok (.aload_n 1, 1) := by decide +kernel
theorem dX0_enterLines_18 : decode cX0_enterLines 18 = .ok (.getfield 79, 3) := by decide +kernel
theorem dX0_enterLines_21 : decode cX0_enterLines 21 = .ok (.if_icmp .ge 57, 3) := by decide +kernel
theorem dX0_enterLines_24 : decode cX0_enterLines 24 = .ok (.iload 5, 2) := by decide +kernel
theorem dX0_enterLines_26 : decode cX0_enterLines 26 = .ok (.iload 7, 2) := by decide +kernel
theorem dX0_enterLines_28 : decode cX0_enterLines 28 = .ok (.invokestatic 52, 3) := by decide +kernel
theorem dX0_enterLines_31 : decode cX0_enterLines 31 = .ok (.ifCond .eq 20, 3) := by decide +kernel
theorem dX0_enterLines_34 : decode cX0_enterLines 34 = .ok (.aload_n 0, 1) := by decide +kernel
theorem dX0_enterLines_35 : decode cX0_enterLines 35 = .ok (.getfield 9, 3) := by decide +kernel
theorem dX0_enterLines_38 : decode cX0_enterLines 38 = .ok (.iload 4, 2) := by decide +kernel
theorem dX0_enterLines_40 : decode cX0_enterLines 40 = .ok (.bipush 9, 2) := by decide +kernel
theorem dX0_enterLines_42 : decode cX0_enterLines 42 = .ok (.imul, 1) := by decide +kernel
theorem dX0_enterLines_43 : decode cX0_enterLines 43 = .ok (.iload 7, 2) := by decide +kernel
theorem dX0_enterLines_45 : decode cX0_enterLines 45 = .ok (.iadd, 1) := by decide +kernel
theorem dX0_enterLines_46 : decode cX0_enterLines 46 = .ok (.dup2, 1) := by decide +kernel
theorem dX0_enterLines_47 : decode cX0_enterLines 47 = .ok (.iaload, 1) := by decide +kernel
theorem dX0_enterLines_48 : decode cX0_enterLines 48 = .ok (.iload_n 3, 1) := by decide +kernel
theorem dX0_enterLines_49 : decode cX0_enterLines 49 = .ok (.iadd, 1) := by decide +kernel
theorem dX0_enterLines_50 : decode cX0_enterLines 50 = .ok (.iastore, 1) := by decide +kernel
theorem dX0_enterLines_51 : decode cX0_enterLines 51 = .ok (.iload 6, 2) := by decide +kernel
theorem dX0_enterLines_53 : decode cX0_enterLines 53 = .ok (.iload 7, 2) := by decide +kernel
theorem dX0_enterLines_55 : decode cX0_enterLines 55 = .ok (.invokestatic 52, 3) := by decide +kernel
theorem dX0_enterLines_58 : decode cX0_enterLines 58 = .ok (.ifCond .eq 14, 3) := by decide +kernel
theorem dX0_enterLines_61 : decode cX0_enterLines 61 = .ok (.aload_n 0, 1) := by decide +kernel
theorem dX0_enterLines_62 : decode cX0_enterLines 62 = .ok (.iload 7, 2) := by decide +kernel
theorem dX0_enterLines_64 : decode cX0_enterLines 64 = .ok (.iload 5, 2) := by decide +kernel
theorem dX0_enterLines_66 : decode cX0_enterLines 66 = .ok (.iload_n 3, 1) := by decide +kernel
theorem dX0_enterLines_67 : decode cX0_enterLines 67 = .ok (.iload 4, 2) := by decide +kernel
theorem dX0_enterLines_69 : decode cX0_enterLines 69 = .ok (.invokevirtual 95, 3) := by decide +kernel
theorem dX0_enterLines_72 : decode cX0_enterLines 72 = .ok (.iinc 7 1, 3) := by decide +kernel
theorem dX0_enterLines_75 : decode cX0_enterLines 75 = .ok (.goto (-60), 3) := by decide +kernel
theorem dX0_enterLines_78 : decode cX0_enterLines 78 = .ok (.return_, 1) := by decide +kernel
theorem dX0_enterFalls_0 : decode cX0_enterFalls 0 = .ok (.iload 4, 2) := by decide +kernel
theorem dX0_enterFalls_2 : decode cX0_enterFalls 2 = .ok (.bipush 9, 2) := by decide +kernel
theorem dX0_enterFalls_4 : decode cX0_enterFalls 4 = .ok (.imul, 1) := by decide +kernel
theorem dX0_enterFalls_5 : decode cX0_enterFalls 5 = .ok (.iload_n 1, 1) := by decide +kernel
theorem dX0_enterFalls_6 : decode cX0_enterFalls 6 = .ok (.iadd, 1) := by decide +kernel
theorem dX0_enterFalls_7 : decode cX0_enterFalls 7 = .ok (.istore 5, 2) := by decide +kernel
theorem dX0_enterFalls_9 : decode cX0_enterFalls 9 = .ok (.iconst 0, 1) := by decide +kernel
theorem dX0_enterFalls_10 : decode cX0_enterFalls 10 = .ok (.istore 6, 2) := by decide +kernel
theorem dX0_enterFalls_12 : decode cX0_enterFalls 12 = .ok (.iconst 0, 1) := by decide +kernel
theorem dX0_enterFalls_13 : decode cX0_enterFalls 13 = .ok (.istore 7, 2) := by decide +kernel
theorem dX0_enterFalls_15 : decode cX0_enterFalls 15 = .ok (.iload 7, 2) := by decide +kernel
theorem dX0_enterFalls_17 : decode cX0_enterFalls 17 = .ok (.bipush 9, 2) := by decide +kernel
theorem dX0_enterFalls_19 : decode cX0_enterFalls 19 = .ok (.if_icmp .ge 55, 3) := by decide +kernel
theorem dX0_enterFalls_22 : decode cX0_enterFalls 22 = .ok (.iload_n 2, 1) := by decide +kernel
theorem dX0_enterFalls_23 : decode cX0_enterFalls 23 = .ok (.iload 7, 2) := by decide +kernel
theorem dX0_enterFalls_25 : decode cX0_enterFalls 25 = .ok (.invokestatic 52, 3) := by decide +kernel
theorem dX0_enterFalls_28 : decode cX0_enterFalls 28 = .ok (.ifCond .eq 20, 3) := by decide +kernel
theorem dX0_enterFalls_31 : decode cX0_enterFalls 31 = .ok (.aload_n 0, 1) := by decide +kernel
theorem dX0_enterFalls_32 : decode cX0_enterFalls 32 = .ok (.getfield 18, 3) := by decide +kernel
theorem dX0_enterFalls_35 : decode cX0_enterFalls 35 = .ok (.iload 5, 2) := by decide +kernel
theorem dX0_enterFalls_37 : decode cX0_enterFalls 37 = .ok (.bipush 9, 2) := by decide +kernel
theorem dX0_enterFalls_39 : decode cX0_enterFalls 39 = .ok (.imul, 1) := by decide +kernel
theorem dX0_enterFalls_40 : decode cX0_enterFalls 40 = .ok (.iload 7, 2) := by decide +kernel
theorem dX0_enterFalls_42 : decode cX0_enterFalls 42 = .ok (.iadd, 1) := by decide +kernel
theorem dX0_enterFalls_43 : decode cX0_enterFalls 43 = .ok (.dup2, 1) := by decide +kernel
theorem dX0_enterFalls_44 : decode cX0_enterFalls 44 = .ok (.iaload, 1) := by decide +kernel
theorem dX0_enterFalls_45 : decode cX0_enterFalls 45 = .ok (.iload_n 3, 1) := by decide +kernel
theorem dX0_enterFalls_46 : decode cX0_enterFalls 46 = .ok (.iadd, 1) := by decide +kernel
theorem dX0_enterFalls_47 : decode cX0_enterFalls 47 = .ok (.iastore, 1) := by decide +kernel
theorem dX0_enterFalls_48 : decode cX0_enterFalls 48 = .ok (.iload 6, 2) := by decide +kernel
theorem dX0_enterFalls_50 : decode cX0_enterFalls 50 = .ok (.aload_n 0, 1) := by decide +kernel
theorem dX0_enterFalls_51 : decode cX0_enterFalls 51 = .ok (.getfield 18, 3) := by decide +kernel
theorem dX0_enterFalls_54 : decode cX0_enterFalls 54 = .ok (.iload 5, 2) := by decide +kernel
theorem dX0_enterFalls_56 : decode cX0_enterFalls 56 = .ok (.bipush 9, 2) := by decide +kernel
theorem dX0_enterFalls_58 : decode cX0_enterFalls 58 = .ok (.imul, 1) := by decide +kernel
theorem dX0_enterFalls_59 : decode cX0_enterFalls 59 = .ok (.iload 7, 2) := by decide +kernel
theorem dX0_enterFalls_61 : decode cX0_enterFalls 61 = .ok (.iadd, 1) := by decide +kernel
theorem dX0_enterFalls_62 : decode cX0_enterFalls 62 = .ok (.iaload, 1) := by decide +kernel
theorem dX0_enterFalls_63 : decode cX0_enterFalls 63 = .ok (.invokestatic 86, 3) := by decide +kernel
theorem dX0_enterFalls_66 : decode cX0_enterFalls 66 = .ok (.istore 6, 2) := by decide +kernel
theorem dX0_enterFalls_68 : decode cX0_enterFalls 68 = .ok (.iinc 7 1, 3) := by decide +kernel
theorem dX0_enterFalls_71 : decode cX0_enterFalls 71 = .ok (.goto (-56), 3) := by decide +kernel
theorem dX0_enterFalls_74 : decode cX0_enterFalls 74 = .ok (.aload_n 0, 1) := by decide +kernel
theorem dX0_enterFalls_75 : decode cX0_enterFalls 75 = .ok (.getfield 15, 3) := by decide +kernel
theorem dX0_enterFalls_78 : decode cX0_enterFalls 78 = .ok (.iload 5, 2) := by decide +kernel
theorem dX0_enterFalls_80 : decode cX0_enterFalls 80 = .ok (.iload 6, 2) := by decide +kernel
theorem dX0_enterFalls_82 : decode cX0_enterFalls 82 = .ok (.iastore, 1) := by decide +kernel
theorem dX0_enterFalls_83 : decode cX0_enterFalls 83 = .ok (.return_, 1) := by decide +kernel
theorem dX1_init_0 : decode cX1_init 0 = .ok (.aload_n 0, 1) := by decide +kernel
theorem dX1_init_1 : decode cX1_init 1 = .ok (.invokespecial 3, 3) := by decide +kernel
theorem dX1_init_4 : decode cX1_init 4 = .ok (.aload_n 0, 1) := by decide +kernel
theorem dX1_init_5 : decode cX1_init 5 = .ok (.bipush 9, 2) := by decide +kernel
theorem dX1_init_7 : decode cX1_init 7 = .ok (.newarray .int, 2) := by decide +kernel
theorem dX1_init_9 : decode cX1_init 9 = .ok (.putfield 9, 3) := by decide +kernel
theorem dX1_init_12 : decode cX1_init 12 = .ok (.return_, 1) := by decide +kernel
theorem dX1_find_0 : decode cX1_find 0 = .ok (.iconst 0, 1) := by decide +kernel
theorem dX1_find_1 : decode cX1_find 1 = .ok (.istore 6, 2) := by decide +kernel
theorem dX1_find_3 : decode cX1_find 3 = .ok (.iload 6, 2) := by decide +kernel
theorem dX1_find_5 : decode cX1_find 5 = .ok (.aload_n 1, 1) := by decide +kernel
theorem dX1_find_6 : decode cX1_find 6 = .ok (.getfield 15, 3) := by decide +kernel
theorem dX1_find_9 : decode cX1_find 9 = .ok (.if_icmp .ge 40, 3) := by decide +kernel
theorem dX1_find_12 : decode cX1_find 12 = .ok (.aload_n 0, 1) := by decide +kernel
theorem dX1_find_13 : decode cX1_find 13 = .ok (.getfield 9, 3) := by decide +kernel
theorem dX1_find_16 : decode cX1_find 16 = .ok (.iload 6, 2) := by decide +kernel
theorem dX1_find_18 : decode cX1_find 18 = .ok (.aload_n 1, 1) := by decide +kernel
theorem dX1_find_19 : decode cX1_find 19 = .ok (.iconst 1, 1) := by decide +kernel
theorem dX1_find_20 : decode cX1_find 20 = .ok (.iload 6, 2) := by decide +kernel
theorem dX1_find_22 : decode cX1_find 22 = .ok (.ishl, 1) := by decide +kernel
theorem dX1_find_23 : decode cX1_find 23 = .ok (.invokevirtual 21, 3) := by decide +kernel
theorem dX1_find_26 : decode cX1_find 26 = .ok (.ifCond .eq 15, 3) := by decide +kernel
theorem dX1_find_29 : decode cX1_find 29 = .ok (.aload_n 2, 1) := by decide +kernel
theorem dX1_find_30 : decode cX1_find 30 = .ok (.aload_n 1, 1) := by decide +kernel
theorem dX1_find_31 : decode cX1_find 31 = .ok (.iload 6, 2) := by decide +kernel
theorem dX1_find_33 : decode cX1_find 33 = .ok (.iload 5, 2) := by decide +kernel
theorem dX1_find_35 : decode cX1_find 35 = .ok (.invokevirtual 25, 3) := by decide +kernel
theorem dX1_find_38 : decode cX1_find 38 = .ok (.goto 4, 3) := by decide +kernel
theorem dX1_find_41 : decode cX1_find 41 = .ok (.iconst 0, 1) := by decide +kernel
theorem dX1_find_42 : decode cX1_find 42 = .ok (.iastore, 1) := by decide +kernel
theorem dX1_find_43 : decode cX1_find 43 = .ok (.iinc 6 1, 3) := by decide +kernel
theorem dX1_find_46 : decode cX1_find 46 = .ok (.goto (-43), 3) := by decide +kernel
theorem dX1_find_49 : decode cX1_find 49 = .ok (.aload_n 0, 1) := by decide +kernel
theorem dX1_find_50 : decode cX1_find 50 = .ok (.iconst 0, 1) := by decide +kernel
theorem dX1_find_51 : decode cX1_find 51 = .ok (.putfield 31, 3) := by decide +kernel
theorem dX1_find_54 : decode cX1_find 54 = .ok (.iconst 0, 1) := by decide +kernel
theorem dX1_find_55 : decode cX1_find 55 = .ok (.istore 6, 2) := by decide +kernel
theorem dX1_find_57 : decode cX1_find 57 = .ok (.iload 6, 2) := by decide +kernel
theorem dX1_find_59 : decode cX1_find 59 = .ok (.iconst 1, 1) := by decide +kernel
theorem dX1_find_60 : decode cX1_find 60 = .ok (.aload_n 1, 1) := by decide +kernel
theorem dX1_find_61 : decode cX1_find 61 = .ok (.getfield 34, 3) := by decide +kernel
theorem dX1_find_64 : decode cX1_find 64 = .ok (.ishl, 1) := by decide +kernel
theorem dX1_find_65 : decode cX1_find 65 = .ok (.if_icmp .ge 41, 3) := by decide +kernel
theorem dX1_find_68 : decode cX1_find 68 = .ok (.iload 6, 2) := by decide +kernel
theorem dX1_find_70 : decode cX1_find 70 = .ok (.iload_n 3, 1) := by decide +kernel
theorem dX1_find_71 : decode cX1_find 71 = .ok (.invokestatic 37, 3) := by decide +kernel
theorem dX1_find_74 : decode cX1_find 74 = .ok (.ifCond .eq 26, 3) := by decide +kernel
theorem dX1_find_77 : decode cX1_find 77 = .ok (.iload 6, 2) := by decide +kernel
theorem dX1_find_79 : decode cX1_find 79 = .ok (.iload 4, 2) := by decide +kernel
theorem dX1_find_81 : decode cX1_find 81 = .ok (.invokestatic 37, 3) := by decide +kernel
theorem dX1_find_84 : decode cX1_find 84 = .ok (.ifCond .ne 16, 3) := by decide +kernel
theorem dX1_find_87 : decode cX1_find 87 = .ok (.aload_n 0, 1) := by decide +kernel
theorem dX1_find_88 : decode cX1_find 88 = .ok (.iload 6, 2) := by decide +kernel
theorem dX1_find_90 : decode cX1_find 90 = .ok (.aload_n 0, 1) := by decide +kernel
theorem dX1_find_91 : decode cX1_find 91 = .ok (.aload_n 1, 1) := by decide +kernel
theorem dX1_find_92 : decode cX1_find 92 = .ok (.iload 6, 2) := by decide +kernel
theorem dX1_find_94 : decode cX1_find 94 = .ok (.invokevirtual 41, 3) := by decide +kernel
theorem dX1_find_97 : decode cX1_find 97 = .ok (.invokevirtual 45, 3) := by decide +kernel
theorem dX1_find_100 : decode cX1_find 100 = .ok (.iinc 6 1, 3) := by decide +kernel
theorem dX1_find_103 : decode cX1_find 103 = .ok (.goto (-46), 3) := by decide +kernel
theorem dX1_find_106 : decode cX1_find 106 = .ok (.return_, 1) := by decide +kernel
theorem dX1_roomOutOf_0 : decode cX1_roomOutOf 0 = .ok (.iconst 0, 1) := by decide +kernel
theorem dX1_roomOutOf_1 : decode cX1_roomOutOf 1 = .ok (.istore_n 3, 1) := by decide +kernel
theorem dX1_roomOutOf_2 : decode cX1_roomOutOf 2 = .ok (.iconst 0, 1) := by decide +kernel
theorem dX1_roomOutOf_3 : decode cX1_roomOutOf 3 = .ok (.istore 4, 2) := by decide +kernel
theorem dX1_roomOutOf_5 : decode cX1_roomOutOf 5 = .ok (.iload 4, 2) := by decide +kernel
theorem dX1_roomOutOf_7 : decode cX1_roomOutOf 7 = .ok (.aload_n 1, 1) := by decide +kernel
theorem dX1_roomOutOf_8 : decode cX1_roomOutOf 8 = .ok (.getfield 15, 3) := by decide +kernel
theorem dX1_roomOutOf_11 : decode cX1_roomOutOf 11 = .ok (.if_icmp .ge 48, 3) := by decide +kernel
theorem dX1_roomOutOf_14 : decode cX1_roomOutOf 14 = .ok (.iload_n 2, 1) := by decide +kernel
theorem dX1_roomOutOf_15 : decode cX1_roomOutOf 15 = .ok (.aload_n 1, 1) := by decide +kernel
theorem dX1_roomOutOf_16 : decode cX1_roomOutOf 16 = .ok (.iload 4, 2) := by decide +kernel
theorem dX1_roomOutOf_18 : decode cX1_roomOutOf 18 = .ok (.invokevirtual 49, 3) := by decide +kernel
theorem dX1_roomOutOf_21 : decode cX1_roomOutOf 21 = .ok (.getfield 53, 3) := by decide +kernel
theorem dX1_roomOutOf_24 : decode cX1_roomOutOf 24 = .ok (.invokestatic 37, 3) := by decide +kernel
theorem dX1_roomOutOf_27 : decode cX1_roomOutOf 27 = .ok (.iload_n 2, 1) := by decide +kernel
theorem dX1_roomOutOf_28 : decode cX1_roomOutOf 28 = .ok (.aload_n 1, 1) := by decide +kernel
theorem dX1_roomOutOf_29 : decode cX1_roomOutOf 29 = .ok (.iload 4, 2) := by decide +kernel
theorem dX1_roomOutOf_31 : decode cX1_roomOutOf 31 = .ok (.invokevirtual 49, 3) := by decide +kernel
theorem dX1_roomOutOf_34 : decode cX1_roomOutOf 34 = .ok (.getfield 58, 3) := by decide +kernel
theorem dX1_roomOutOf_37 : decode cX1_roomOutOf 37 = .ok (.invokestatic 37, 3) := by decide +kernel
theorem dX1_roomOutOf_40 : decode cX1_roomOutOf 40 = .ok (.if_icmp .eq 13, 3) := by decide +kernel
theorem dX1_roomOutOf_43 : decode cX1_roomOutOf 43 = .ok (.iload_n 3, 1) := by decide +kernel
theorem dX1_roomOutOf_44 : decode cX1_roomOutOf 44 = .ok (.aload_n 0, 1) := by decide +kernel
theorem dX1_roomOutOf_45 : decode cX1_roomOutOf 45 = .ok (.getfield 9, 3) := by decide +kernel
theorem dX1_roomOutOf_48 : decode cX1_roomOutOf 48 = .ok (.iload 4, 2) := by decide +kernel
theorem dX1_roomOutOf_50 : decode cX1_roomOutOf 50 = .ok (.iaload, 1) := by decide +kernel
theorem dX1_roomOutOf_51 : decode cX1_roomOutOf 51 = .ok (.iadd, 1) := by decide +kernel
theorem dX1_roomOutOf_52 : decode cX1_roomOutOf 52 = .ok (.istore_n 3, 1) := by decide +kernel
theorem dX1_roomOutOf_53 : decode cX1_roomOutOf 53 = .ok (.iinc 4 1, 3) := by decide +kernel
theorem dX1_roomOutOf_56 : decode cX1_roomOutOf 56 = .ok (.goto (-51), 3) := by decide +kernel
theorem dX1_roomOutOf_59 : decode cX1_roomOutOf 59 = .ok (.iload_n 3, 1) := by decide +kernel
theorem dX1_roomOutOf_60 : decode cX1_roomOutOf 60 = .ok (.ireturn, 1) := by decide +kernel
theorem dX1_weigh_0 : decode cX1_weigh 0 = .ok (.aload_n 0, 1) := by decide +kernel
theorem dX1_weigh_1 : decode cX1_weigh 1 = .ok (.getfield 31, 3) := by decide +kernel
theorem dX1_weigh_4 : decode cX1_weigh 4 = .ok (.ifCond .eq 33, 3) := by decide +kernel
theorem dX1_weigh_7 : decode cX1_weigh 7 = .ok (.iload_n 2, 1) := by decide +kernel
theorem dX1_weigh_8 : decode cX1_weigh 8 = .ok (.aload_n 0, 1) := by decide +kernel
theorem dX1_weigh_9 : decode cX1_weigh 9 = .ok (.getfield 61, 3) := by decide +kernel
theorem dX1_weigh_12 : decode cX1_weigh 12 = .ok (.if_icmp .lt 25, 3) := by decide +kernel
theorem dX1_weigh_15 : decode cX1_weigh 15 = .ok (.iload_n 2, 1) := by decide +kernel
theorem dX1_weigh_16 : decode cX1_weigh 16 = .ok (.aload_n 0, 1) := by decide +kernel
theorem dX1_weigh_17 : decode cX1_weigh 17 = .ok (.getfield 61, 3) := by decide +kernel
theorem dX1_weigh_20 : decode cX1_weigh 20 = .ok (.if_icmp .ne 21, 3) := by decide +kernel
theorem dX1_weigh_23 : decode cX1_weigh 23 = .ok (.iload_n 1, 1) := by decide +kernel
theorem dX1_weigh_24 : decode cX1_weigh 24 = .ok (.invokestatic 64, 3) := by decide +kernel
theorem dX1_weigh_27 : decode cX1_weigh 27 = .ok (.aload_n 0, 1) := by decide +kernel
theorem dX1_weigh_28 : decode cX1_weigh 28 = .ok (.getfield 31, 3) := by decide +kernel
theorem dX1_weigh_31 : decode cX1_weigh 31 = .ok (.invokestatic 64, 3) := by decide +kernel
theorem dX1_weigh_34 : decode cX1_weigh 34 = .ok (.if_icmp .ge 7, 3) := by decide +kernel
theorem dX1_weigh_37 : decode cX1_weigh 37 = .ok (.iconst 1, 1) := by decide +kernel
theorem dX1_weigh_38 : decode cX1_weigh 38 = .ok (.goto 4, 3) := by decide +kernel
theorem dX1_weigh_41 : decode cX1_weigh 41 = .ok (.iconst 0, 1) := by decide +kernel
theorem dX1_weigh_42 : decode cX1_weigh 42 = .ok (.istore_n 3, 1) := by decide +kernel
theorem dX1_weigh_43 : decode cX1_weigh 43 = .ok (.iload_n 3, 1) := by decide +kernel
theorem dX1_weigh_44 : decode cX1_weigh 44 = .ok (.ifCond .eq 13, 3) := by decide +kernel
theorem dX1_weigh_47 : decode cX1_weigh 47 = .ok (.aload_n 0, 1) := by decide +kernel
theorem dX1_weigh_48 : decode cX1_weigh 48 = .ok (.iload_n 1, 1) := by decide +kernel
theorem dX1_weigh_49 : decode cX1_weigh 49 = .ok (.putfield 31, 3) := by decide +kernel
theorem dX1_weigh_52 : decode cX1_weigh 52 = .ok (.aload_n 0, 1) := by decide +kernel
theorem dX1_weigh_53 : decode cX1_weigh 53 = .ok (.iload_n 2, 1) := by decide +kernel
theorem dX1_weigh_54 : decode cX1_weigh 54 = .ok (.putfield 61, 3) := by decide +kernel
theorem dX1_weigh_57 : decode cX1_weigh 57 = .ok (.return_, 1) := by decide +kernel
theorem dX2_init_0 : decode cX2_init 0 = .ok (.aload_n 0, 1) := by decide +kernel
theorem dX2_init_1 : decode cX2_init 1 = .ok (.invokespecial 3, 3) := by decide +kernel
theorem dX2_init_4 : decode cX2_init 4 = .ok (.aload_n 0, 1) := by decide +kernel
theorem dX2_init_5 : decode cX2_init 5 = .ok (.iconst (-1), 1) := by decide +kernel
theorem dX2_init_6 : decode cX2_init 6 = .ok (.putfield 9, 3) := by decide +kernel
theorem dX2_init_9 : decode cX2_init 9 = .ok (.aload_n 0, 1) := by decide +kernel
theorem dX2_init_10 : decode cX2_init 10 = .ok (.aload_n 1, 1) := by decide +kernel
theorem dX2_init_11 : decode cX2_init 11 = .ok (.putfield 15, 3) := by decide +kernel
theorem dX2_init_14 : decode cX2_init 14 = .ok (.aload_n 0, 1) := by decide +kernel
theorem dX2_init_15 : decode cX2_init 15 = .ok (.aload_n 2, 1) := by decide +kernel
theorem dX2_init_16 : decode cX2_init 16 = .ok (.putfield 19, 3) := by decide +kernel
theorem dX2_init_19 : decode cX2_init 19 = .ok (.return_, 1) := by decide +kernel
theorem dX2_doTick_0 : decode cX2_doTick 0 = .ok (.aload_n 0, 1) := by decide +kernel
theorem dX2_doTick_1 : decode cX2_doTick 1 = .ok (.invokevirtual 23, 3) := by decide +kernel
theorem dX2_doTick_4 : decode cX2_doTick 4 = .ok (.aload_n 0, 1) := by decide +kernel
theorem dX2_doTick_5 : decode cX2_doTick 5 = .ok (.invokevirtual 26, 3) := by decide +kernel
theorem dX2_doTick_8 : decode cX2_doTick 8 = .ok (.aload_n 0, 1) := by decide +kernel
theorem dX2_doTick_9 : decode cX2_doTick 9 = .ok (.invokevirtual 29, 3) := by decide +kernel
theorem dX2_doTick_12 : decode cX2_doTick 12 = .ok (.aload_n 0, 1) := by decide +kernel
theorem dX2_doTick_13 : decode cX2_doTick 13 = .ok (.aload_n 0, 1) := by decide +kernel
theorem dX2_doTick_14 : decode cX2_doTick 14 = .ok (.getfield 32, 3) := by decide +kernel
theorem dX2_doTick_17 : decode cX2_doTick 17 = .ok (.iconst 1, 1) := by decide +kernel
theorem dX2_doTick_18 : decode cX2_doTick 18 = .ok (.iadd, 1) := by decide +kernel
theorem dX2_doTick_19 : decode cX2_doTick 19 = .ok (.bipush 24, 2) := by decide +kernel
theorem dX2_doTick_21 : decode cX2_doTick 21 = .ok (.irem, 1) := by decide +kernel
theorem dX2_doTick_22 : decode cX2_doTick 22 = .ok (.putfield 32, 3) := by decide +kernel
theorem dX2_doTick_25 : decode cX2_doTick 25 = .ok (.return_, 1) := by decide +kernel
theorem dX2_forgetLatest_0 : decode cX2_forgetLatest 0 = .ok (.iconst 0, 1) := by decide +kernel
theorem dX2_forgetLatest_1 : decode cX2_forgetLatest 1 = .ok (.istore_n 1, 1) := by decide +kernel
theorem dX2_forgetLatest_2 : decode cX2_forgetLatest 2 = .ok (.iload_n 1, 1) := by decide +kernel
theorem dX2_forgetLatest_3 : decode cX2_forgetLatest 3 = .ok (.aload_n 0, 1) := by decide +kernel
theorem dX2_forgetLatest_4 : decode cX2_forgetLatest 4 = .ok (.getfield 15, 3) := by decide +kernel
theorem dX2_forgetLatest_7 : decode cX2_forgetLatest 7 = .ok (.getfield 35, 3) := by decide +kernel
theorem dX2_forgetLatest_10 : decode cX2_forgetLatest 10 = .ok (.if_icmp .ge 21, 3) := by decide +kernel
theorem dX2_forgetLatest_13 : decode cX2_forgetLatest 13 = .ok (.aload_n 0, 1) := by decide +kernel
theorem dX2_forgetLatest_14 : decode cX2_forgetLatest 14 = .ok (.getfield 15, 3) := by decide +kernel
theorem dX2_forgetLatest_17 : decode cX2_forgetLatest 17 = .ok (.iload_n 1, 1) := by decide +kernel
theorem dX2_forgetLatest_18 : decode cX2_forgetLatest 18 = .ok (.invokevirtual 40, 3) := by decide +kernel
theorem dX2_forgetLatest_21 : decode cX2_forgetLatest 21 = .ok (.iconst 0, 1) := by decide +kernel
theorem dX2_forgetLatest_22 : decode cX2_forgetLatest 22 = .ok (.putfield 44, 3) := by decide +kernel
theorem dX2_forgetLatest_25 : decode cX2_forgetLatest 25 = .ok (.iinc 1 1, 3) := by decide +kernel
theorem dX2_forgetLatest_28 : decode cX2_forgetLatest 28 = .ok (.goto (-26), 3) := by decide +kernel
theorem dX2_forgetLatest_31 : decode cX2_forgetLatest 31 = .ok (.iconst 0, 1) := by decide +kernel
theorem dX2_forgetLatest_32 : decode cX2_forgetLatest 32 = .ok (.istore_n 1, 1) := by decide +kernel
theorem dX2_forgetLatest_33 : decode cX2_forgetLatest 33 = .ok (.iload_n 1, 1) := by decide +kernel
theorem dX2_forgetLatest_34 : decode cX2_forgetLatest 34 = .ok (.aload_n 0, 1) := by decide +kernel
theorem dX2_forgetLatest_35 : decode cX2_forgetLatest 35 = .ok (.getfield 19, 3) := by decide +kernel
theorem dX2_forgetLatest_38 : decode cX2_forgetLatest 38 = .ok (.getfield 49, 3) := by decide +kernel
theorem dX2_forgetLatest_41 : decode cX2_forgetLatest 41 = .ok (.if_icmp .ge 21, 3) := by decide +kernel
theorem dX2_forgetLatest_44 : decode cX2_forgetLatest 44 = .ok (.aload_n 0, 1) := by decide +kernel
theorem dX2_forgetLatest_45 : decode cX2_forgetLatest 45 = .ok (.getfield 19, 3) := by decide +kernel
theorem dX2_forgetLatest_48 : decode cX2_forgetLatest 48 = .ok (.iload_n 1, 1) := by decide +kernel
theorem dX2_forgetLatest_49 : decode cX2_forgetLatest 49 = .ok (.invokevirtual 54, 3) := by decide +kernel
theorem dX2_forgetLatest_52 : decode cX2_forgetLatest 52 = .ok (.iconst 0, 1) := by decide +kernel
theorem dX2_forgetLatest_53 : decode cX2_forgetLatest 53 = .ok (.putfield 58, 3) := by decide +kernel
theorem dX2_forgetLatest_56 : decode cX2_forgetLatest 56 = .ok (.iinc 1 1, 3) := by decide +kernel
theorem dX2_forgetLatest_59 : decode cX2_forgetLatest 59 = .ok (.goto (-26), 3) := by decide +kernel
theorem dX2_forgetLatest_62 : decode cX2_forgetLatest 62 = .ok (.return_, 1) := by decide +kernel
theorem dX2_passNeeds_0 : decode cX2_passNeeds 0 = .ok (.iconst 0, 1) := by decide +kernel
theorem dX2_passNeeds_1 : decode cX2_passNeeds 1 = .ok (.istore_n 1, 1) := by decide +kernel
theorem dX2_passNeeds_2 : decode cX2_passNeeds 2 = .ok (.iload_n 1, 1) := by decide +kernel
theorem dX2_passNeeds_3 : decode cX2_passNeeds 3 = .ok (.aload_n 0, 1) := by decide +kernel
theorem dX2_passNeeds_4 : decode cX2_passNeeds 4 = .ok (.getfield 19, 3) := by decide +kernel
theorem dX2_passNeeds_7 : decode cX2_passNeeds 7 = .ok (.getfield 49, 3) := by decide +kernel
theorem dX2_passNeeds_10 : decode cX2_passNeeds 10 = .ok (.if_icmp .ge 53, 3) := by decide +kernel
theorem dX2_passNeeds_13 : decode cX2_passNeeds 13 = .ok (.aload_n 0, 1) := by decide +kernel
theorem dX2_passNeeds_14 : decode cX2_passNeeds 14 = .ok (.getfield 19, 3) := by decide +kernel
theorem dX2_passNeeds_17 : decode cX2_passNeeds 17 = .ok (.iload_n 1, 1) := by decide +kernel
theorem dX2_passNeeds_18 : decode cX2_passNeeds 18 = .ok (.invokevirtual 54, 3) := by decide +kernel
theorem dX2_passNeeds_21 : decode cX2_passNeeds 21 = .ok (.astore_n 2, 1) := by decide +kernel
theorem dX2_passNeeds_22 : decode cX2_passNeeds 22 = .ok (.aload_n 0, 1) := by decide +kernel
theorem dX2_passNeeds_23 : decode cX2_passNeeds 23 = .ok (.aload_n 2, 1) := by decide +kernel
theorem dX2_passNeeds_24 : decode cX2_passNeeds 24 = .ok (.invokevirtual 61, 3) := by decide +kernel
theorem dX2_passNeeds_27 : decode cX2_passNeeds 27 = .ok (.istore_n 3, 1) := by decide +kernel
theorem dX2_passNeeds_28 : decode cX2_passNeeds 28 = .ok (.iload_n 3, 1) := by decide +kernel
theorem dX2_passNeeds_29 : decode cX2_passNeeds 29 = .ok (.ifCond .eq 28, 3) := by decide +kernel
theorem dX2_passNeeds_32 : decode cX2_passNeeds 32 = .ok (.aload_n 0, 1) := by decide +kernel
theorem dX2_passNeeds_33 : decode cX2_passNeeds 33 = .ok (.aload_n 2, 1) := by decide +kernel
theorem dX2_passNeeds_34 : decode cX2_passNeeds 34 = .ok (.iload_n 3, 1) := by decide +kernel
theorem dX2_passNeeds_35 : decode cX2_passNeeds 35 = .ok (.aload_n 2, 1) := by decide +kernel
theorem dX2_passNeeds_36 : decode cX2_passNeeds 36 = .ok (.getfield 65, 3) := by decide +kernel
theorem dX2_passNeeds_39 : decode cX2_passNeeds 39 = .ok (.aload_n 2, 1) := by decide +kernel
theorem dX2_passNeeds_40 : decode cX2_passNeeds 40 = .ok (.invokevirtual 68, 3) := by decide +kernel
theorem dX2_passNeeds_43 : decode cX2_passNeeds 43 = .ok (.invokestatic 72, 3) := by decide +kernel
theorem dX2_passNeeds_46 : decode cX2_passNeeds 46 = .ok (.aload_n 0, 1) := by decide +kernel
theorem dX2_passNeeds_47 : decode cX2_passNeeds 47 = .ok (.iload_n 3, 1) := by decide +kernel
theorem dX2_passNeeds_48 : decode cX2_passNeeds 48 = .ok (.invokevirtual 78, 3) := by decide +kernel
theorem dX2_passNeeds_51 : decode cX2_passNeeds 51 = .ok (.invokestatic 72, 3) := by decide +kernel
theorem dX2_passNeeds_54 : decode cX2_passNeeds 54 = .ok (.invokevirtual 82, 3) := by decide +kernel
theorem dX2_passNeeds_57 : decode cX2_passNeeds 57 = .ok (.iinc 1 1, 3) := by decide +kernel
theorem dX2_passNeeds_60 : decode cX2_passNeeds 60 = .ok (.goto (-58), 3) := by decide +kernel
theorem dX2_passNeeds_63 : decode cX2_passNeeds 63 = .ok (.return_, 1) := by decide +kernel
theorem dX2_lend_0 : decode cX2_lend 0 = .ok (.iconst 0, 1) := by decide +kernel
theorem dX2_lend_1 : decode cX2_lend 1 = .ok (.istore_n 1, 1) := by decide +kernel
theorem dX2_lend_2 : decode cX2_lend 2 = .ok (.aload_n 0, 1) := by decide +kernel
theorem dX2_lend_3 : decode cX2_lend 3 = .ok (.getfield 9, 3) := by decide +kernel
theorem dX2_lend_6 : decode cX2_lend 6 = .ok (.istore_n 2, 1) := by decide +kernel
theorem dX2_lend_7 : decode cX2_lend 7 = .ok (.iconst 0, 1) := by decide +kernel
theorem dX2_lend_8 : decode cX2_lend 8 = .ok (.istore_n 3, 1) := by decide +kernel
theorem dX2_lend_9 : decode cX2_lend 9 = .ok (.iload_n 3, 1) := by decide +kernel
theorem dX2_lend_10 : decode cX2_lend 10 = .ok (.sipush 10000, 3) := by decide +kernel
theorem dX2_lend_13 : decode cX2_lend 13 = .ok (.if_icmp .ge 97, 3) := by decide +kernel
theorem dX2_lend_16 : decode cX2_lend 16 = .ok (.iload_n 1, 1) := by decide +kernel
theorem dX2_lend_17 : decode cX2_lend 17 = .ok (.aload_n 0, 1) := by decide +kernel
theorem dX2_lend_18 : decode cX2_lend 18 = .ok (.getfield 19, 3) := by decide +kernel
theorem dX2_lend_21 : decode cX2_lend 21 = .ok (.getfield 49, 3) := by decide +kernel
theorem dX2_lend_24 : decode cX2_lend 24 = .ok (.if_icmp .ge 86, 3) := by decide +kernel
theorem dX2_lend_27 : decode cX2_lend 27 = .ok (.iload_n 2, 1) := by decide +kernel
theorem dX2_lend_28 : decode cX2_lend 28 = .ok (.iconst 1, 1) := by decide +kernel
theorem dX2_lend_29 : decode cX2_lend 29 = .ok (.iadd, 1) := by decide +kernel
theorem dX2_lend_30 : decode cX2_lend 30 = .ok (.aload_n 0, 1) := by decide +kernel
theorem dX2_lend_31 : decode cX2_lend 31 = .ok (.getfield 19, 3) := by decide +kernel
theorem dX2_lend_34 : decode cX2_lend 34 = .ok (.getfield 49, 3) := by decide +kernel
theorem dX2_lend_37 : decode cX2_lend 37 = .ok (.if_icmp .ge 9, 3) := by decide +kernel
theorem dX2_lend_40 : decode cX2_lend 40 = .ok (.iload_n 2, 1) := by decide +kernel
theorem dX2_lend_41 : decode cX2_lend 41 = .ok (.iconst 1, 1) := by decide +kernel
theorem dX2_lend_42 : decode cX2_lend 42 = .ok (.iadd, 1) := by decide +kernel
theorem dX2_lend_43 : decode cX2_lend 43 = .ok (.goto 4, 3) := by decide +kernel
theorem dX2_lend_46 : decode cX2_lend 46 = .ok (.iconst 0, 1) := by decide +kernel
theorem dX2_lend_47 : decode cX2_lend 47 = .ok (.istore_n 2, 1) := by decide +kernel
theorem dX2_lend_48 : decode cX2_lend 48 = .ok (.aload_n 0, 1) := by decide +kernel
theorem dX2_lend_49 : decode cX2_lend 49 = .ok (.getfield 19, 3) := by decide +kernel
theorem dX2_lend_52 : decode cX2_lend 52 = .ok (.iload_n 2, 1) := by decide +kernel
theorem dX2_lend_53 : decode cX2_lend 53 = .ok (.invokevirtual 54, 3) := by decide +kernel
theorem dX2_lend_56 : decode cX2_lend 56 = .ok (.astore 4, 2) := by decide +kernel
theorem dX2_lend_58 : decode cX2_lend 58 = .ok (.aload_n 0, 1) := by decide +kernel
theorem dX2_lend_59 : decode cX2_lend 59 = .ok (.aload 4, 2) := by decide +kernel
theorem dX2_lend_61 : decode cX2_lend 61 = .ok (.invokevirtual 86, 3) := by decide +kernel
theorem dX2_lend_64 : decode cX2_lend 64 = .ok (.ifCond .eq 37, 3) := by decide +kernel
theorem dX2_lend_67 : decode cX2_lend 67 = .ok (.aload_n 0, 1) := by decide +kernel
theorem dX2_lend_68 : decode cX2_lend 68 = .ok (.aload 4, 2) := by decide +kernel
theorem dX2_lend_70 : decode cX2_lend 70 = .ok (.aload_n 0, 1) := by decide +kernel
theorem dX2_lend_71 : decode cX2_lend 71 = .ok (.aload 4, 2) := by decide +kernel
theorem dX2_lend_73 : decode cX2_lend 73 = .ok (.invokevirtual 61, 3) := by decide +kernel
theorem dX2_lend_76 : decode cX2_lend 76 = .ok (.iconst 1, 1) := by decide +kernel
theorem dX2_lend_77 : decode cX2_lend 77 = .ok (.invokevirtual 82, 3) := by decide +kernel
theorem dX2_lend_80 : decode cX2_lend 80 = .ok (.aload 4, 2) := by decide +kernel
theorem dX2_lend_82 : decode cX2_lend 82 = .ok (.dup, 1) := by decide +kernel
theorem dX2_lend_83 : decode cX2_lend 83 = .ok (.getfield 90, 3) := by decide +kernel
theorem dX2_lend_86 : decode cX2_lend 86 = .ok (.iconst 1, 1) := by decide +kernel
theorem dX2_lend_87 : decode cX2_lend 87 = .ok (.iadd, 1) := by decide +kernel
theorem dX2_lend_88 : decode cX2_lend 88 = .ok (.putfield 90, 3) := by decide +kernel
theorem dX2_lend_91 : decode cX2_lend 91 = .ok (.aload_n 0, 1) := by decide +kernel
theorem dX2_lend_92 : decode cX2_lend 92 = .ok (.iload_n 2, 1) := by decide +kernel
theorem dX2_lend_93 : decode cX2_lend 93 = .ok (.putfield 9, 3) := by decide +kernel
theorem dX2_lend_96 : decode cX2_lend 96 = .ok (.iconst 0, 1) := by decide +kernel
theorem dX2_lend_97 : decode cX2_lend 97 = .ok (.istore_n 1, 1) := by decide +kernel
theorem dX2_lend_98 : decode cX2_lend 98 = .ok (.goto 6, 3) := by decide +kernel
theorem dX2_lend_101 : decode cX2_lend 101 = .ok (.iinc 1 1, 3) := by decide +kernel
theorem dX2_lend_104 : decode cX2_lend 104 = .ok (.iinc 3 1, 3) := by decide +kernel
theorem dX2_lend_107 : decode cX2_lend 107 = .ok (.goto (-98), 3) := by decide +kernel
theorem dX2_lend_110 : decode cX2_lend 110 = .ok (.return_, 1) := by decide +kernel
theorem dX2_canBorrow_0 : decode cX2_canBorrow 0 = .ok (.aload_n 1, 1) := by decide +kernel
theorem dX2_canBorrow_1 : decode cX2_canBorrow 1 = .ok (.iconst 2, 1) := by decide +kernel
theorem dX2_canBorrow_2 : decode cX2_canBorrow 2 = .ok (.invokevirtual 93, 3) := by decide +kernel
theorem dX2_canBorrow_5 : decode cX2_canBorrow 5 = .ok (.ifCond .eq 21, 3) := by decide +kernel
theorem dX2_canBorrow_8 : decode cX2_canBorrow 8 = .ok (.aload_n 1, 1) := by decide +kernel
theorem dX2_canBorrow_9 : decode cX2_canBorrow 9 = .ok (.getfield 65, 3) := by decide +kernel
theorem dX2_canBorrow_12 : decode cX2_canBorrow 12 = .ok (.ifCond .le 14, 3) := by decide +kernel
theorem dX2_canBorrow_15 : decode cX2_canBorrow 15 = .ok (.aload_n 1, 1) := by decide +kernel
theorem dX2_canBorrow_16 : decode cX2_canBorrow 16 = .ok (.getfield 58, 3) := by decide +kernel
theorem dX2_canBorrow_19 : decode cX2_canBorrow 19 = .ok (.aload_n 1, 1) := by decide +kernel
theorem dX2_canBorrow_20 : decode cX2_canBorrow 20 = .ok (.getfield 97, 3) := by decide +kernel
theorem dX2_canBorrow_23 : decode cX2_canBorrow 23 = .ok (.if_icmp .lt 5, 3) := by decide +kernel
theorem dX2_canBorrow_26 : decode cX2_canBorrow 26 = .ok (.iconst 0, 1) := by decide +kernel
theorem dX2_canBorrow_27 : decode cX2_canBorrow 27 = .ok (.ireturn, 1) := by decide +kernel
theorem dX2_canBorrow_28 : decode cX2_canBorrow 28 = .ok (.aload_n 0, 1) := by decide +kernel
theorem dX2_canBorrow_29 : decode cX2_canBorrow 29 = .ok (.aload_n 1, 1) := by decide +kernel
theorem dX2_canBorrow_30 : decode cX2_canBorrow 30 = .ok (.invokevirtual 61, 3) := by decide +kernel
theorem dX2_canBorrow_33 : decode cX2_canBorrow 33 = .ok (.istore_n 2, 1) := by decide +kernel
theorem dX2_canBorrow_34 : decode cX2_canBorrow 34 = .ok (.iload_n 2, 1) := by decide +kernel
theorem dX2_canBorrow_35 : decode cX2_canBorrow 35 = .ok (.ifCond .eq 15, 3) := by decide +kernel
theorem dX2_canBorrow_38 : decode cX2_canBorrow 38 = .ok (.aload_n 0, 1) := by decide +kernel
theorem dX2_canBorrow_39 : decode cX2_canBorrow 39 = .ok (.iload_n 2, 1) := by decide +kernel
theorem dX2_canBorrow_40 : decode cX2_canBorrow 40 = .ok (.invokevirtual 78, 3) := by decide +kernel
theorem dX2_canBorrow_43 : decode cX2_canBorrow 43 = .ok (.ifCond .le 7, 3) := by decide +kernel
theorem dX2_canBorrow_46 : decode cX2_canBorrow 46 = .ok (.iconst 1, 1) := by decide +kernel
theorem dX2_canBorrow_47 : decode cX2_canBorrow 47 = .ok (.goto 4, 3) := by decide +kernel
theorem dX2_canBorrow_50 : decode cX2_canBorrow 50 = .ok (.iconst 0, 1) := by decide +kernel
theorem dX2_canBorrow_51 : decode cX2_canBorrow 51 = .ok (.ireturn, 1) := by decide +kernel
theorem dX2_wayNow_0 : decode cX2_wayNow 0 = .ok (.aload_n 1, 1) := by decide +kernel
theorem dX2_wayNow_1 : decode cX2_wayNow 1 = .ok (.invokevirtual 100, 3) := by decide +kernel
theorem dX2_wayNow_4 : decode cX2_wayNow 4 = .ok (.ifCond .eq 31, 3) := by decide +kernel
theorem dX2_wayNow_7 : decode cX2_wayNow 7 = .ok (.aload_n 1, 1) := by decide +kernel
theorem dX2_wayNow_8 : decode cX2_wayNow 8 = .ok (.getfield 104, 3) := by decide +kernel
theorem dX2_wayNow_11 : decode cX2_wayNow 11 = .ok (.aload_n 0, 1) := by decide +kernel
theorem dX2_wayNow_12 : decode cX2_wayNow 12 = .ok (.getfield 32, 3) := by decide +kernel
theorem dX2_wayNow_15 : decode cX2_wayNow 15 = .ok (.invokestatic 107, 3) := by decide +kernel
theorem dX2_wayNow_18 : decode cX2_wayNow 18 = .ok (.ifCond .eq 17, 3) := by decide +kernel
theorem dX2_wayNow_21 : decode cX2_wayNow 21 = .ok (.aload_n 1, 1) := by decide +kernel
theorem dX2_wayNow_22 : decode cX2_wayNow 22 = .ok (.aload_n 0, 1) := by decide +kernel
theorem dX2_wayNow_23 : decode cX2_wayNow 23 = .ok (.getfield 15, 3) := by decide +kernel
theorem dX2_wayNow_26 : decode cX2_wayNow 26 = .ok (.getfield 111, 3) := by decide +kernel
theorem dX2_wayNow_29 : decode cX2_wayNow 29 = .ok (.invokevirtual 114, 3) := by decide +kernel
theorem dX2_wayNow_32 : decode cX2_wayNow 32 = .ok (.goto 4, 3) := by decide +kernel
theorem dX2_wayNow_35 : decode cX2_wayNow 35 = .ok (.iconst 0, 1) := by decide +kernel
theorem dX2_wayNow_36 : decode cX2_wayNow 36 = .ok (.ireturn, 1) := by decide +kernel
theorem dX2_leftOn_0 : decode cX2_leftOn 0 = .ok (.sipush 1000, 3) := by decide +kernel
theorem dX2_leftOn_3 : decode cX2_leftOn 3 = .ok (.istore_n 2, 1) := by decide +kernel
theorem dX2_leftOn_4 : decode cX2_leftOn 4 = .ok (.iconst 0, 1) := by decide +kernel
theorem dX2_leftOn_5 : decode cX2_leftOn 5 = .ok (.istore_n 3, 1) := by decide +kernel
theorem dX2_leftOn_6 : decode cX2_leftOn 6 = .ok (.iload_n 3, 1) := by decide +kernel
theorem dX2_leftOn_7 : decode cX2_leftOn 7 = .ok (.aload_n 0, 1) := by decide +kernel
theorem dX2_leftOn_8 : decode cX2_leftOn 8 = .ok (.getfield 15, 3) := by decide +kernel
theorem dX2_leftOn_11 : decode cX2_leftOn 11 = .ok (.getfield 35, 3) := by decide +kernel
theorem dX2_leftOn_14 : decode cX2_leftOn 14 = .ok (.if_icmp .ge 33, 3) := by decide +kernel
theorem dX2_leftOn_17 : decode cX2_leftOn 17 = .ok (.iload_n 1, 1) := by decide +kernel
theorem dX2_leftOn_18 : decode cX2_leftOn 18 = .ok (.iload_n 3, 1) := by decide +kernel
theorem dX2_leftOn_19 : decode cX2_leftOn 19 = .ok (.invokestatic 107, 3) := by decide +kernel
theorem dX2_leftOn_22 : decode cX2_leftOn 22 = .ok (.ifCond .eq 19, 3) := by decide +kernel
theorem dX2_leftOn_25 : decode cX2_leftOn 25 = .ok (.iload_n 2, 1) := by decide +kernel
theorem dX2_leftOn_26 : decode cX2_leftOn 26 = .ok (.aload_n 0, 1) := by decide +kernel
theorem dX2_leftOn_27 : decode cX2_leftOn 27 = .ok (.getfield 15, 3) := by decide +kernel
theorem dX2_leftOn_30 : decode cX2_leftOn 30 = .ok (.iload_n 3, 1) := by decide +kernel
theorem dX2_leftOn_31 : decode cX2_leftOn 31 = .ok (.invokevirtual 40, 3) := by decide +kernel
theorem dX2_leftOn_34 : decode cX2_leftOn 34 = .ok (.invokevirtual 117, 3) := by decide +kernel
theorem dX2_leftOn_37 : decode cX2_leftOn 37 = .ok (.invokestatic 72, 3) := by decide +kernel
theorem dX2_leftOn_40 : decode cX2_leftOn 40 = .ok (.istore_n 2, 1) := by decide +kernel
theorem dX2_leftOn_41 : decode cX2_leftOn 41 = .ok (.iinc 3 1, 3) := by decide +kernel
theorem dX2_leftOn_44 : decode cX2_leftOn 44 = .ok (.goto (-38), 3) := by decide +kernel
theorem dX2_leftOn_47 : decode cX2_leftOn 47 = .ok (.iload_n 2, 1) := by decide +kernel
theorem dX2_leftOn_48 : decode cX2_leftOn 48 = .ok (.ireturn, 1) := by decide +kernel
theorem dX2_pass_0 : decode cX2_pass 0 = .ok (.iconst 0, 1) := by decide +kernel
theorem dX2_pass_1 : decode cX2_pass 1 = .ok (.istore 4, 2) := by decide +kernel
theorem dX2_pass_3 : decode cX2_pass 3 = .ok (.iconst 0, 1) := by decide +kernel
theorem dX2_pass_4 : decode cX2_pass 4 = .ok (.istore 5, 2) := by decide +kernel
theorem dX2_pass_6 : decode cX2_pass 6 = .ok (.iload 5, 2) := by decide +kernel
theorem dX2_pass_8 : decode cX2_pass 8 = .ok (.aload_n 0, 1) := by decide +kernel
theorem dX2_pass_9 : decode cX2_pass 9 = .ok (.getfield 15, 3) := by decide +kernel
theorem dX2_pass_12 : decode cX2_pass 12 = .ok (.getfield 35, 3) := by decide +kernel
theorem dX2_pass_15 : decode cX2_pass 15 = .ok (.if_icmp .ge 48, 3) := by decide +kernel
theorem dX2_pass_18 : decode cX2_pass 18 = .ok (.iload_n 2, 1) := by decide +kernel
theorem dX2_pass_19 : decode cX2_pass 19 = .ok (.iload 5, 2) := by decide +kernel
theorem dX2_pass_21 : decode cX2_pass 21 = .ok (.invokestatic 107, 3) := by decide +kernel
theorem dX2_pass_24 : decode cX2_pass 24 = .ok (.ifCond .eq 33, 3) := by decide +kernel
theorem dX2_pass_27 : decode cX2_pass 27 = .ok (.aload_n 0, 1) := by decide +kernel
theorem dX2_pass_28 : decode cX2_pass 28 = .ok (.getfield 15, 3) := by decide +kernel
theorem dX2_pass_31 : decode cX2_pass 31 = .ok (.iload 5, 2) := by decide +kernel
theorem dX2_pass_33 : decode cX2_pass 33 = .ok (.invokevirtual 40, 3) := by decide +kernel
theorem dX2_pass_36 : decode cX2_pass 36 = .ok (.iload_n 3, 1) := by decide +kernel
theorem dX2_pass_37 : decode cX2_pass 37 = .ok (.invokevirtual 120, 3) := by decide +kernel
theorem dX2_pass_40 : decode cX2_pass 40 = .ok (.iload 4, 2) := by decide +kernel
theorem dX2_pass_42 : decode cX2_pass 42 = .ok (.aload_n 0, 1) := by decide +kernel
theorem dX2_pass_43 : decode cX2_pass 43 = .ok (.getfield 15, 3) := by decide +kernel
theorem dX2_pass_46 : decode cX2_pass 46 = .ok (.iload 5, 2) := by decide +kernel
theorem dX2_pass_48 : decode cX2_pass 48 = .ok (.invokevirtual 40, 3) := by decide +kernel
theorem dX2_pass_51 : decode cX2_pass 51 = .ok (.getfield 123, 3) := by decide +kernel
theorem dX2_pass_54 : decode cX2_pass 54 = .ok (.iadd, 1) := by decide +kernel
theorem dX2_pass_55 : decode cX2_pass 55 = .ok (.istore 4, 2) := by decide +kernel
theorem dX2_pass_57 : decode cX2_pass 57 = .ok (.iinc 5 1, 3) := by decide +kernel
theorem dX2_pass_60 : decode cX2_pass 60 = .ok (.goto (-54), 3) := by decide +kernel
theorem dX2_pass_63 : decode cX2_pass 63 = .ok (.aload_n 1, 1) := by decide +kernel
theorem dX2_pass_64 : decode cX2_pass 64 = .ok (.dup, 1) := by decide +kernel
theorem dX2_pass_65 : decode cX2_pass 65 = .ok (.getfield 65, 3) := by decide +kernel
theorem dX2_pass_68 : decode cX2_pass 68 = .ok (.iload_n 3, 1) := by decide +kernel
theorem dX2_pass_69 : decode cX2_pass 69 = .ok (.isub, 1) := by decide +kernel
theorem dX2_pass_70 : decode cX2_pass 70 = .ok (.putfield 65, 3) := by decide +kernel
theorem dX2_pass_73 : decode cX2_pass 73 = .ok (.aload_n 1, 1) := by decide +kernel
theorem dX2_pass_74 : decode cX2_pass 74 = .ok (.dup, 1) := by decide +kernel
theorem dX2_pass_75 : decode cX2_pass 75 = .ok (.getfield 126, 3) := by decide +kernel
theorem dX2_pass_78 : decode cX2_pass 78 = .ok (.iload_n 3, 1) := by decide +kernel
theorem dX2_pass_79 : decode cX2_pass 79 = .ok (.iadd, 1) := by decide +kernel
theorem dX2_pass_80 : decode cX2_pass 80 = .ok (.putfield 126, 3) := by decide +kernel
theorem dX2_pass_83 : decode cX2_pass 83 = .ok (.aload_n 1, 1) := by decide +kernel
theorem dX2_pass_84 : decode cX2_pass 84 = .ok (.dup, 1) := by decide +kernel
theorem dX2_pass_85 : decode cX2_pass 85 = .ok (.getfield 58, 3) := by decide +kernel
theorem dX2_pass_88 : decode cX2_pass 88 = .ok (.iload_n 3, 1) := by decide +kernel
theorem dX2_pass_89 : decode cX2_pass 89 = .ok (.iadd, 1) := by decide +kernel
theorem dX2_pass_90 : decode cX2_pass 90 = .ok (.putfield 58, 3) := by decide +kernel
theorem dX2_pass_93 : decode cX2_pass 93 = .ok (.aload_n 1, 1) := by decide +kernel
theorem dX2_pass_94 : decode cX2_pass 94 = .ok (.dup, 1) := by decide +kernel
theorem dX2_pass_95 : decode cX2_pass 95 = .ok (.getfield 129, 3) := by decide +kernel
theorem dX2_pass_98 : decode cX2_pass 98 = .ok (.iload_n 3, 1) := by decide +kernel
theorem dX2_pass_99 : decode cX2_pass 99 = .ok (.iload 4, 2) := by decide +kernel
theorem dX2_pass_101 : decode cX2_pass 101 = .ok (.imul, 1) := by decide +kernel
theorem dX2_pass_102 : decode cX2_pass 102 = .ok (.iadd, 1) := by decide +kernel
theorem dX2_pass_103 : decode cX2_pass 103 = .ok (.putfield 129, 3) := by decide +kernel
theorem dX2_pass_106 : decode cX2_pass 106 = .ok (.aload_n 0, 1) := by decide +kernel
theorem dX2_pass_107 : decode cX2_pass 107 = .ok (.dup, 1) := by decide +kernel
theorem dX2_pass_108 : decode cX2_pass 108 = .ok (.getfield 132, 3) := by decide +kernel
theorem dX2_pass_111 : decode cX2_pass 111 = .ok (.iload_n 3, 1) := by decide +kernel
theorem dX2_pass_112 : decode cX2_pass 112 = .ok (.iadd, 1) := by decide +kernel
theorem dX2_pass_113 : decode cX2_pass 113 = .ok (.putfield 132, 3) := by decide +kernel
theorem dX2_pass_116 : decode cX2_pass 116 = .ok (.aload_n 0, 1) := by decide +kernel
theorem dX2_pass_117 : decode cX2_pass 117 = .ok (.dup, 1) := by decide +kernel
theorem dX2_pass_118 : decode cX2_pass 118 = .ok (.getfield 133, 3) := by decide +kernel
theorem dX2_pass_121 : decode cX2_pass 121 = .ok (.iload_n 3, 1) := by decide +kernel
theorem dX2_pass_122 : decode cX2_pass 122 = .ok (.iload 4, 2) := by decide +kernel
theorem dX2_pass_124 : decode cX2_pass 124 = .ok (.imul, 1) := by decide +kernel
theorem dX2_pass_125 : decode cX2_pass 125 = .ok (.iadd, 1) := by decide +kernel
theorem dX2_pass_126 : decode cX2_pass 126 = .ok (.putfield 133, 3) := by decide +kernel
theorem dX2_pass_129 : decode cX2_pass 129 = .ok (.return_, 1) := by decide +kernel
theorem dX3_init_0 : decode cX3_init 0 = .ok (.aload_n 0, 1) := by decide +kernel
theorem dX3_init_1 : decode cX3_init 1 = .ok (.invokespecial 3, 3) := by decide +kernel
theorem dX3_init_4 : decode cX3_init 4 = .ok (.aload_n 0, 1) := by decide +kernel
theorem dX3_init_5 : decode cX3_init 5 = .ok (.new 9, 3) := by decide +kernel
theorem dX3_init_8 : decode cX3_init 8 = .ok (.dup, 1) := by decide +kernel
theorem dX3_init_9 : decode cX3_init 9 = .ok (.invokespecial 11, 3) := by decide +kernel
theorem dX3_init_12 : decode cX3_init 12 = .ok (.putfield 12, 3) := by decide +kernel
theorem dX3_init_15 : decode cX3_init 15 = .ok (.aload_n 0, 1) := by decide +kernel
theorem dX3_init_16 : decode cX3_init 16 = .ok (.bipush 24, 2) := by decide +kernel
theorem dX3_init_18 : decode cX3_init 18 = .ok (.newarray .int, 2) := by decide +kernel
theorem dX3_init_20 : decode cX3_init 20 = .ok (.putfield 18, 3) := by decide +kernel
theorem dX3_init_23 : decode cX3_init 23 = .ok (.aload_n 0, 1) := by decide +kernel
theorem dX3_init_24 : decode cX3_init 24 = .ok (.bipush 8, 2) := by decide +kernel
theorem dX3_init_26 : decode cX3_init 26 = .ok (.newarray .int, 2) := by decide +kernel
theorem dX3_init_28 : decode cX3_init 28 = .ok (.putfield 22, 3) := by decide +kernel
theorem dX3_init_31 : decode cX3_init 31 = .ok (.aload_n 0, 1) := by decide +kernel
theorem dX3_init_32 : decode cX3_init 32 = .ok (.bipush 8, 2) := by decide +kernel
theorem dX3_init_34 : decode cX3_init 34 = .ok (.newarray .int, 2) := by decide +kernel
theorem dX3_init_36 : decode cX3_init 36 = .ok (.putfield 25, 3) := by decide +kernel
theorem dX3_init_39 : decode cX3_init 39 = .ok (.aload_n 0, 1) := by decide +kernel
theorem dX3_init_40 : decode cX3_init 40 = .ok (.bipush 8, 2) := by decide +kernel
theorem dX3_init_42 : decode cX3_init 42 = .ok (.newarray .int, 2) := by decide +kernel
theorem dX3_init_44 : decode cX3_init 44 = .ok (.putfield 28, 3) := by decide +kernel
theorem dX3_init_47 : decode cX3_init 47 = .ok (.aload_n 0, 1) := by decide +kernel
theorem dX3_init_48 : decode cX3_init 48 = .ok (.bipush 8, 2) := by decide +kernel
theorem dX3_init_50 : decode cX3_init 50 = .ok (.newarray .int, 2) := by decide +kernel
theorem dX3_init_52 : decode cX3_init 52 = .ok (.putfield 31, 3) := by decide +kernel
theorem dX3_init_55 : decode cX3_init 55 = .ok (.aload_n 0, 1) := by decide +kernel
theorem dX3_init_56 : decode cX3_init 56 = .ok (.sipush 256, 3) := by decide +kernel
theorem dX3_init_59 : decode cX3_init 59 = .ok (.newarray .int, 2) := by decide +kernel
theorem dX3_init_61 : decode cX3_init 61 = .ok (.putfield 34, 3) := by decide +kernel
theorem dX3_init_64 : decode cX3_init 64 = .ok (.aload_n 0, 1) := by decide +kernel
theorem dX3_init_65 : decode cX3_init 65 = .ok (.sipush 256, 3) := by decide +kernel
theorem dX3_init_68 : decode cX3_init 68 = .ok (.newarray .int, 2) := by decide +kernel
theorem dX3_init_70 : decode cX3_init 70 = .ok (.putfield 37, 3) := by decide +kernel
theorem dX3_init_73 : decode cX3_init 73 = .ok (.aload_n 0, 1) := by decide +kernel
theorem dX3_init_74 : decode cX3_init 74 = .ok (.aload_n 1, 1) := by decide +kernel
theorem dX3_init_75 : decode cX3_init 75 = .ok (.putfield 40, 3) := by decide +kernel
theorem dX3_init_78 : decode cX3_init 78 = .ok (.aload_n 0, 1) := by decide +kernel
theorem dX3_init_79 : decode cX3_init 79 = .ok (.aload_n 2, 1) := by decide +kernel
theorem dX3_init_80 : decode cX3_init 80 = .ok (.putfield 44, 3) := by decide +kernel
theorem dX3_init_83 : decode cX3_init 83 = .ok (.return_, 1) := by decide +kernel
theorem dX3_begin_0 : decode cX3_begin 0 = .ok (.aload_n 0, 1) := by decide +kernel
theorem dX3_begin_1 : decode cX3_begin 1 = .ok (.iconst 0, 1) := by decide +kernel
theorem dX3_begin_2 : decode cX3_begin 2 = .ok (.putfield 48, 3) := by decide +kernel
theorem dX3_begin_5 : decode cX3_begin 5 = .ok (.aload_n 0, 1) := by decide +kernel
theorem dX3_begin_6 : decode cX3_begin 6 = .ok (.iconst 0, 1) := by decide +kernel
theorem dX3_begin_7 : decode cX3_begin 7 = .ok (.putfield 52, 3) := by decide +kernel
theorem dX3_begin_10 : decode cX3_begin 10 = .ok (.iconst 0, 1) := by decide +kernel
theorem dX3_begin_11 : decode cX3_begin 11 = .ok (.istore_n 1, 1) := by decide +kernel
theorem dX3_begin_12 : decode cX3_begin 12 = .ok (.iload_n 1, 1) := by decide +kernel
theorem dX3_begin_13 : decode cX3_begin 13 = .ok (.aload_n 0, 1) := by decide +kernel
theorem dX3_begin_14 : decode cX3_begin 14 = .ok (.getfield 44, 3) := by decide +kernel
theorem dX3_begin_17 : decode cX3_begin 17 = .ok (.getfield 56, 3) := by decide +kernel
theorem dX3_begin_20 : decode cX3_begin 20 = .ok (.if_icmp .ge 28, 3) := by decide +kernel
theorem dX3_begin_23 : decode cX3_begin 23 = .ok (.aload_n 0, 1) := by decide +kernel
theorem dX3_begin_24 : decode cX3_begin 24 = .ok (.getfield 44, 3) := by decide +kernel
theorem dX3_begin_27 : decode cX3_begin 27 = .ok (.aload_n 0, 1) := by decide +kernel
theorem dX3_begin_28 : decode cX3_begin 28 = .ok (.getfield 40, 3) := by decide +kernel
theorem dX3_begin_31 : decode cX3_begin 31 = .ok (.iload_n 1, 1) := by decide +kernel
theorem dX3_begin_32 : decode cX3_begin 32 = .ok (.invokevirtual 61, 3) := by decide +kernel
theorem dX3_begin_35 : decode cX3_begin 35 = .ok (.aload_n 0, 1) := by decide +kernel
theorem dX3_begin_36 : decode cX3_begin 36 = .ok (.getfield 40, 3) := by decide +kernel
theorem dX3_begin_39 : decode cX3_begin 39 = .ok (.invokevirtual 65, 3) := by decide +kernel
theorem dX3_begin_42 : decode cX3_begin 42 = .ok (.iinc 1 1, 3) := by decide +kernel
theorem dX3_begin_45 : decode cX3_begin 45 = .ok (.goto (-33), 3) := by decide +kernel
theorem dX3_begin_48 : decode cX3_begin 48 = .ok (.aload_n 0, 1) := by decide +kernel
theorem dX3_begin_49 : decode cX3_begin 49 = .ok (.invokevirtual 71, 3) := by decide +kernel
theorem dX3_begin_52 : decode cX3_begin 52 = .ok (.return_, 1) := by decide +kernel
theorem dX3_placeGot_0 : decode cX3_placeGot 0 = .ok (.aload_n 0, 1) := by decide +kernel
theorem dX3_placeGot_1 : decode cX3_placeGot 1 = .ok (.getfield 31, 3) := by decide +kernel
theorem dX3_placeGot_4 : decode cX3_placeGot 4 = .ok (.iload_n 1, 1) := by decide +kernel
theorem dX3_placeGot_5 : decode cX3_placeGot 5 = .ok (.iaload, 1) := by decide +kernel
theorem dX3_placeGot_6 : decode cX3_placeGot 6 = .ok (.ireturn, 1) := by decide +kernel
theorem dX3_laid_0 : decode cX3_laid 0 = .ok (.aload_n 0, 1) := by decide +kernel
theorem dX3_laid_1 : decode cX3_laid 1 = .ok (.iload_n 1, 1) := by decide +kernel
theorem dX3_laid_2 : decode cX3_laid 2 = .ok (.invokevirtual 74, 3) := by decide +kernel
theorem dX3_laid_5 : decode cX3_laid 5 = .ok (.iconst 0, 1) := by decide +kernel
theorem dX3_laid_6 : decode cX3_laid 6 = .ok (.istore_n 2, 1) := by decide +kernel
theorem dX3_laid_7 : decode cX3_laid 7 = .ok (.iconst 0, 1) := by decide +kernel
theorem dX3_laid_8 : decode cX3_laid 8 = .ok (.istore_n 3, 1) := by decide +kernel
theorem dX3_laid_9 : decode cX3_laid 9 = .ok (.iload_n 3, 1) := by decide +kernel
theorem dX3_laid_10 : decode cX3_laid 10 = .ok (.sipush 10000, 3) := by decide +kernel
theorem dX3_laid_13 : decode cX3_laid 13 = .ok (.if_icmp .ge 101, 3) := by decide +kernel
theorem dX3_laid_16 : decode cX3_laid 16 = .ok (.iload_n 2, 1) := by decide +kernel
theorem dX3_laid_17 : decode cX3_laid 17 = .ok (.ifCond .lt 97, 3) := by decide +kernel
theorem dX3_laid_20 : decode cX3_laid 20 = .ok (.iload_n 2, 1) := by decide +kernel
theorem dX3_laid_21 : decode cX3_laid 21 = .ok (.aload_n 0, 1) := by decide +kernel
theorem dX3_laid_22 : decode cX3_laid 22 = .ok (.getfield 78, 3) := by decide +kernel
theorem dX3_laid_25 : decode cX3_laid 25 = .ok (.if_icmp .ge 89, 3) := by decide +kernel
theorem dX3_laid_28 : decode cX3_laid 28 = .ok (.aload_n 0, 1) := by decide +kernel
theorem dX3_laid_29 : decode cX3_laid 29 = .ok (.getfield 52, 3) := by decide +kernel
theorem dX3_laid_32 : decode cX3_laid 32 = .ok (.ifCond .ne 82, 3) := by decide +kernel
theorem dX3_laid_35 : decode cX3_laid 35 = .ok (.aload_n 0, 1) := by decide +kernel
theorem dX3_laid_36 : decode cX3_laid 36 = .ok (.aload_n 0, 1) := by decide +kernel
theorem dX3_laid_37 : decode cX3_laid 37 = .ok (.getfield 25, 3) := by decide +kernel
theorem dX3_laid_40 : decode cX3_laid 40 = .ok (.iload_n 2, 1) := by decide +kernel
theorem dX3_laid_41 : decode cX3_laid 41 = .ok (.iaload, 1) := by decide +kernel
theorem dX3_laid_42 : decode cX3_laid 42 = .ok (.aload_n 0, 1) := by decide +kernel
theorem dX3_laid_43 : decode cX3_laid 43 = .ok (.getfield 28, 3) := by decide +kernel
theorem dX3_laid_46 : decode cX3_laid 46 = .ok (.iload_n 2, 1) := by decide +kernel
theorem dX3_laid_47 : decode cX3_laid 47 = .ok (.iaload, 1) := by decide +kernel
theorem dX3_laid_48 : decode cX3_laid 48 = .ok (.iconst 1, 1) := by decide +kernel
theorem dX3_laid_49 : decode cX3_laid 49 = .ok (.iadd, 1) := by decide +kernel
theorem dX3_laid_50 : decode cX3_laid 50 = .ok (.invokevirtual 79, 3) := by decide +kernel
theorem dX3_laid_53 : decode cX3_laid 53 = .ok (.istore 4, 2) := by decide +kernel
theorem dX3_laid_55 : decode cX3_laid 55 = .ok (.iload 4, 2) := by decide +kernel
theorem dX3_laid_57 : decode cX3_laid 57 = .ok (.ifCond .lt 29, 3) := by decide +kernel
theorem dX3_laid_60 : decode cX3_laid 60 = .ok (.aload_n 0, 1) := by decide +kernel
theorem dX3_laid_61 : decode cX3_laid 61 = .ok (.getfield 28, 3) := by decide +kernel
theorem dX3_laid_64 : decode cX3_laid 64 = .ok (.iload_n 2, 1) := by decide +kernel
theorem dX3_laid_65 : decode cX3_laid 65 = .ok (.iload 4, 2) := by decide +kernel
theorem dX3_laid_67 : decode cX3_laid 67 = .ok (.iastore, 1) := by decide +kernel
theorem dX3_laid_68 : decode cX3_laid 68 = .ok (.aload_n 0, 1) := by decide +kernel
theorem dX3_laid_69 : decode cX3_laid 69 = .ok (.aload_n 0, 1) := by decide +kernel
theorem dX3_laid_70 : decode cX3_laid 70 = .ok (.getfield 25, 3) := by decide +kernel
theorem dX3_laid_73 : decode cX3_laid 73 = .ok (.iload_n 2, 1) := by decide +kernel
theorem dX3_laid_74 : decode cX3_laid 74 = .ok (.iaload, 1) := by decide +kernel
theorem dX3_laid_75 : decode cX3_laid 75 = .ok (.iload 4, 2) := by decide +kernel
theorem dX3_laid_77 : decode cX3_laid 77 = .ok (.invokevirtual 83, 3) := by decide +kernel
theorem dX3_laid_80 : decode cX3_laid 80 = .ok (.iinc 2 1, 3) := by decide +kernel
theorem dX3_laid_83 : decode cX3_laid 83 = .ok (.goto 25, 3) := by decide +kernel
theorem dX3_laid_86 : decode cX3_laid 86 = .ok (.aload_n 0, 1) := by decide +kernel
theorem dX3_laid_87 : decode cX3_laid 87 = .ok (.getfield 52, 3) := by decide +kernel
theorem dX3_laid_90 : decode cX3_laid 90 = .ok (.ifCond .ne 18, 3) := by decide +kernel
theorem dX3_laid_93 : decode cX3_laid 93 = .ok (.aload_n 0, 1) := by decide +kernel
theorem dX3_laid_94 : decode cX3_laid 94 = .ok (.getfield 28, 3) := by decide +kernel
theorem dX3_laid_97 : decode cX3_laid 97 = .ok (.iload_n 2, 1) := by decide +kernel
theorem dX3_laid_98 : decode cX3_laid 98 = .ok (.iconst (-1), 1) := by decide +kernel
theorem dX3_laid_99 : decode cX3_laid 99 = .ok (.iastore, 1) := by decide +kernel
theorem dX3_laid_100 : decode cX3_laid 100 = .ok (.iinc 2 (-1), 3) := by decide +kernel
theorem dX3_laid_103 : decode cX3_laid 103 = .ok (.aload_n 0, 1) := by decide +kernel
theorem dX3_laid_104 : decode cX3_laid 104 = .ok (.iload_n 2, 1) := by decide +kernel
theorem dX3_laid_105 : decode cX3_laid 105 = .ok (.invokevirtual 87, 3) := by decide +kernel
theorem dX3_laid_108 : decode cX3_laid 108 = .ok (.iinc 3 1, 3) := by decide +kernel
theorem dX3_laid_111 : decode cX3_laid 111 = .ok (.goto (-102), 3) := by decide +kernel
theorem dX3_laid_114 : decode cX3_laid 114 = .ok (.iload_n 2, 1) := by decide +kernel
theorem dX3_laid_115 : decode cX3_laid 115 = .ok (.aload_n 0, 1) := by decide +kernel
theorem dX3_laid_116 : decode cX3_laid 116 = .ok (.getfield 78, 3) := by decide +kernel
theorem dX3_laid_119 : decode cX3_laid 119 = .ok (.if_icmp .ne 7, 3) := by decide +kernel
theorem dX3_laid_122 : decode cX3_laid 122 = .ok (.iconst 1, 1) := by decide +kernel
theorem dX3_laid_123 : decode cX3_laid 123 = .ok (.goto 4, 3) := by decide +kernel
theorem dX3_laid_126 : decode cX3_laid 126 = .ok (.iconst 0, 1) := by decide +kernel
theorem dX3_laid_127 : decode cX3_laid 127 = .ok (.istore_n 3, 1) := by decide +kernel
theorem dX3_laid_128 : decode cX3_laid 128 = .ok (.iconst 0, 1) := by decide +kernel
theorem dX3_laid_129 : decode cX3_laid 129 = .ok (.istore 4, 2) := by decide +kernel
theorem dX3_laid_131 : decode cX3_laid 131 = .ok (.iload 4, 2) := by decide +kernel
theorem dX3_laid_133 : decode cX3_laid 133 = .ok (.iload_n 2, 1) := by decide +kernel
theorem dX3_laid_134 : decode cX3_laid 134 = .ok (.if_icmp .ge 15, 3) := by decide +kernel
theorem dX3_laid_137 : decode cX3_laid 137 = .ok (.aload_n 0, 1) := by decide +kernel
theorem dX3_laid_138 : decode cX3_laid 138 = .ok (.iload 4, 2) := by decide +kernel
theorem dX3_laid_140 : decode cX3_laid 140 = .ok (.invokevirtual 87, 3) := by decide +kernel
theorem dX3_laid_143 : decode cX3_laid 143 = .ok (.iinc 4 1, 3) := by decide +kernel
theorem dX3_laid_146 : decode cX3_laid 146 = .ok (.goto (-15), 3) := by decide +kernel
theorem dX3_laid_149 : decode cX3_laid 149 = .ok (.iload_n 3, 1) := by decide +kernel
theorem dX3_laid_150 : decode cX3_laid 150 = .ok (.ireturn, 1) := by decide +kernel
theorem dX3_dearest_0 : decode cX3_dearest 0 = .ok (.aload_n 0, 1) := by decide +kernel
theorem dX3_dearest_1 : decode cX3_dearest 1 = .ok (.invokevirtual 90, 3) := by decide +kernel
theorem dX3_dearest_4 : decode cX3_dearest 4 = .ok (.istore_n 1, 1) := by decide +kernel
theorem dX3_dearest_5 : decode cX3_dearest 5 = .ok (.iconst 0, 1) := by decide +kernel
theorem dX3_dearest_6 : decode cX3_dearest 6 = .ok (.istore_n 2, 1) := by decide +kernel
theorem dX3_dearest_7 : decode cX3_dearest 7 = .ok (.iload_n 2, 1) := by decide +kernel
theorem dX3_dearest_8 : decode cX3_dearest 8 = .ok (.iload_n 1, 1) := by decide +kernel
theorem dX3_dearest_9 : decode cX3_dearest 9 = .ok (.if_icmp .ge 37, 3) := by decide +kernel
theorem dX3_dearest_12 : decode cX3_dearest 12 = .ok (.aload_n 0, 1) := by decide +kernel
theorem dX3_dearest_13 : decode cX3_dearest 13 = .ok (.getfield 52, 3) := by decide +kernel
theorem dX3_dearest_16 : decode cX3_dearest 16 = .ok (.ifCond .ne 30, 3) := by decide +kernel
theorem dX3_dearest_19 : decode cX3_dearest 19 = .ok (.aload_n 0, 1) := by decide +kernel
theorem dX3_dearest_20 : decode cX3_dearest 20 = .ok (.getfield 34, 3) := by decide +kernel
theorem dX3_dearest_23 : decode cX3_dearest 23 = .ok (.iload_n 2, 1) := by decide +kernel
theorem dX3_dearest_24 : decode cX3_dearest 24 = .ok (.iaload, 1) := by decide +kernel
theorem dX3_dearest_25 : decode cX3_dearest 25 = .ok (.sipush 255, 3) := by decide +kernel
theorem dX3_dearest_28 : decode cX3_dearest 28 = .ok (.iand, 1) := by decide +kernel
theorem dX3_dearest_29 : decode cX3_dearest 29 = .ok (.istore_n 3, 1) := by decide +kernel
theorem dX3_dearest_30 : decode cX3_dearest 30 = .ok (.aload_n 0, 1) := by decide +kernel
theorem dX3_dearest_31 : decode cX3_dearest 31 = .ok (.iload_n 3, 1) := by decide +kernel
theorem dX3_dearest_32 : decode cX3_dearest 32 = .ok (.invokevirtual 94, 3) := by decide +kernel
theorem dX3_dearest_35 : decode cX3_dearest 35 = .ok (.ifCond .eq 5, 3) := by decide +kernel
theorem dX3_dearest_38 : decode cX3_dearest 38 = .ok (.iload_n 3, 1) := by decide +kernel
theorem dX3_dearest_39 : decode cX3_dearest 39 = .ok (.ireturn, 1) := by decide +kernel
theorem dX3_dearest_40 : decode cX3_dearest 40 = .ok (.iinc 2 1, 3) := by decide +kernel
theorem dX3_dearest_43 : decode cX3_dearest 43 = .ok (.goto (-36), 3) := by decide +kernel
theorem dX3_dearest_46 : decode cX3_dearest 46 = .ok (.iconst 0, 1) := by decide +kernel
theorem dX3_dearest_47 : decode cX3_dearest 47 = .ok (.ireturn, 1) := by decide +kernel
theorem dX3_findUnlikeTicks_0 : decode cX3_findUnlikeTicks 0 = .ok (.aload_n 0, 1) := by decide +kernel
theorem dX3_findUnlikeTicks_1 : decode cX3_findUnlikeTicks 1 = .ok (.getfield 12, 3) := by decide +kernel
theorem dX3_findUnlikeTicks_4 : decode cX3_findUnlikeTicks 4 = .ok (.iconst 0, 1) := by decide +kernel
theorem dX3_findUnlikeTicks_5 : decode cX3_findUnlikeTicks 5 = .ok (.putfield 98, 3) := by decide +kernel
theorem dX3_findUnlikeTicks_8 : decode cX3_findUnlikeTicks 8 = .ok (.iconst 0, 1) := by decide +kernel
theorem dX3_findUnlikeTicks_9 : decode cX3_findUnlikeTicks 9 = .ok (.istore_n 1, 1) := by decide +kernel
theorem dX3_findUnlikeTicks_10 : decode cX3_findUnlikeTicks 10 = .ok (.iload_n 1, 1) := by decide +kernel
theorem dX3_findUnlikeTicks_11 : decode cX3_findUnlikeTicks 11 = .ok (.bipush 8, 2) := by decide +kernel
theorem dX3_findUnlikeTicks_13 : decode cX3_findUnlikeTicks 13 = .ok (.if_icmp .ge 16, 3) := by decide +kernel
theorem dX3_findUnlikeTicks_16 : decode cX3_findUnlikeTicks 16 = .ok (.aload_n 0, 1) := by decide +kernel
theorem dX3_findUnlikeTicks_17 : decode cX3_findUnlikeTicks 17 = .ok (.getfield 22, 3) := by decide +kernel
theorem dX3_findUnlikeTicks_20 : decode cX3_findUnlikeTicks 20 = .ok (.iload_n 1, 1) := by decide +kernel
theorem dX3_findUnlikeTicks_21 : decode cX3_findUnlikeTicks 21 = .ok (.iconst 0, 1) := by decide +kernel
theorem dX3_findUnlikeTicks_22 : decode cX3_findUnlikeTicks 22 = .ok (.iastore, 1) := by decide +kernel
theorem dX3_findUnlikeTicks_23 : decode cX3_findUnlikeTicks 23 = .ok (.iinc 1 1, 3) := by decide +kernel
theorem dX3_findUnlikeTicks_26 : decode cX3_findUnlikeTicks 26 = .ok (.goto (-16), 3) := by decide +kernel
theorem dX3_findUnlikeTicks_29 : decode cX3_findUnlikeTicks 29 = .ok (.iconst 0, 1) := by decide +kernel
theorem dX3_findUnlikeTicks_30 : decode cX3_findUnlikeTicks 30 = .ok (.istore_n 1, 1) := by decide +kernel
theorem dX3_findUnlikeTicks_31 : decode cX3_findUnlikeTicks 31 = .ok (.iload_n 1, 1) := by decide +kernel
theorem dX3_findUnlikeTicks_32 : decode cX3_findUnlikeTicks 32 = .ok (.bipush 24, 2) := by decide +kernel
theorem dX3_findUnlikeTicks_34 : decode cX3_findUnlikeTicks 34 = .ok (.if_icmp .ge 28, 3) := by decide +kernel
theorem dX3_findUnlikeTicks_37 : decode cX3_findUnlikeTicks 37 = .ok (.aload_n 0, 1) := by decide +kernel
theorem dX3_findUnlikeTicks_38 : decode cX3_findUnlikeTicks 38 = .ok (.iload_n 1, 1) := by decide +kernel
theorem dX3_findUnlikeTicks_39 : decode cX3_findUnlikeTicks 39 = .ok (.invokevirtual 101, 3) := by decide +kernel
theorem dX3_findUnlikeTicks_42 : decode cX3_findUnlikeTicks 42 = .ok (.istore_n 2, 1) := by decide +kernel
theorem dX3_findUnlikeTicks_43 : decode cX3_findUnlikeTicks 43 = .ok (.aload_n 0, 1) := by decide +kernel
theorem dX3_findUnlikeTicks_44 : decode cX3_findUnlikeTicks 44 = .ok (.iload_n 2, 1) := by decide +kernel
theorem dX3_findUnlikeTicks_45 : decode cX3_findUnlikeTicks 45 = .ok (.invokevirtual 105, 3) := by decide +kernel
theorem dX3_findUnlikeTicks_48 : decode cX3_findUnlikeTicks 48 = .ok (.ifCond .ne 8, 3) := by decide +kernel
theorem dX3_findUnlikeTicks_51 : decode cX3_findUnlikeTicks 51 = .ok (.aload_n 0, 1) := by decide +kernel
theorem dX3_findUnlikeTicks_52 : decode cX3_findUnlikeTicks 52 = .ok (.iload_n 2, 1) := by decide +kernel
theorem dX3_findUnlikeTicks_53 : decode cX3_findUnlikeTicks 53 = .ok (.invokevirtual 108, 3) := by decide +kernel
theorem dX3_findUnlikeTicks_56 : decode cX3_findUnlikeTicks 56 = .ok (.iinc 1 1, 3) := by decide +kernel
theorem dX3_findUnlikeTicks_59 : decode cX3_findUnlikeTicks 59 = .ok (.goto (-28), 3) := by decide +kernel
theorem dX3_findUnlikeTicks_62 : decode cX3_findUnlikeTicks 62 = .ok (.return_, 1) := by decide +kernel
theorem dX3_countingAt_0 : decode cX3_countingAt 0 = .ok (.iconst 0, 1) := by decide +kernel
theorem dX3_countingAt_1 : decode cX3_countingAt 1 = .ok (.istore_n 2, 1) := by decide +kernel
theorem dX3_countingAt_2 : decode cX3_countingAt 2 = .ok (.iconst 0, 1) := by decide +kernel
theorem dX3_countingAt_3 : decode cX3_countingAt 3 = .ok (.istore_n 3, 1) := by decide +kernel
theorem dX3_countingAt_4 : decode cX3_countingAt 4 = .ok (.iload_n 3, 1) := by decide +kernel
theorem dX3_countingAt_5 : decode cX3_countingAt 5 = .ok (.aload_n 0, 1) := by decide +kernel
theorem dX3_countingAt_6 : decode cX3_countingAt 6 = .ok (.getfield 44, 3) := by decide +kernel
theorem dX3_countingAt_9 : decode cX3_countingAt 9 = .ok (.getfield 56, 3) := by decide +kernel
theorem dX3_countingAt_12 : decode cX3_countingAt 12 = .ok (.if_icmp .ge 33, 3) := by decide +kernel
theorem dX3_countingAt_15 : decode cX3_countingAt 15 = .ok (.aload_n 0, 1) := by decide +kernel
theorem dX3_countingAt_16 : decode cX3_countingAt 16 = .ok (.getfield 44, 3) := by decide +kernel
theorem dX3_countingAt_19 : decode cX3_countingAt 19 = .ok (.iload_n 3, 1) := by decide +kernel
theorem dX3_countingAt_20 : decode cX3_countingAt 20 = .ok (.invokevirtual 111, 3) := by decide +kernel
theorem dX3_countingAt_23 : decode cX3_countingAt 23 = .ok (.getfield 115, 3) := by decide +kernel
theorem dX3_countingAt_26 : decode cX3_countingAt 26 = .ok (.iload_n 1, 1) := by decide +kernel
theorem dX3_countingAt_27 : decode cX3_countingAt 27 = .ok (.invokestatic 118, 3) := by decide +kernel
theorem dX3_countingAt_30 : decode cX3_countingAt 30 = .ok (.ifCond .eq 9, 3) := by decide +kernel
theorem dX3_countingAt_33 : decode cX3_countingAt 33 = .ok (.iload_n 2, 1) := by decide +kernel
theorem dX3_countingAt_34 : decode cX3_countingAt 34 = .ok (.iconst 1, 1) := by decide +kernel
theorem dX3_countingAt_35 : decode cX3_countingAt 35 = .ok (.iload_n 3, 1) := by decide +kernel
theorem dX3_countingAt_36 : decode cX3_countingAt 36 = .ok (.ishl, 1) := by decide +kernel
theorem dX3_countingAt_37 : decode cX3_countingAt 37 = .ok (.ior, 1) := by decide +kernel
theorem dX3_countingAt_38 : decode cX3_countingAt 38 = .ok (.istore_n 2, 1) := by decide +kernel
theorem dX3_countingAt_39 : decode cX3_countingAt 39 = .ok (.iinc 3 1, 3) := by decide +kernel
theorem dX3_countingAt_42 : decode cX3_countingAt 42 = .ok (.goto (-38), 3) := by decide +kernel
theorem dX3_countingAt_45 : decode cX3_countingAt 45 = .ok (.iload_n 2, 1) := by decide +kernel
theorem dX3_countingAt_46 : decode cX3_countingAt 46 = .ok (.ireturn, 1) := by decide +kernel
theorem dX3_isKnown_0 : decode cX3_isKnown 0 = .ok (.iconst 0, 1) := by decide +kernel
theorem dX3_isKnown_1 : decode cX3_isKnown 1 = .ok (.istore_n 2, 1) := by decide +kernel
theorem dX3_isKnown_2 : decode cX3_isKnown 2 = .ok (.iload_n 2, 1) := by decide +kernel
theorem dX3_isKnown_3 : decode cX3_isKnown 3 = .ok (.aload_n 0, 1) := by decide +kernel
theorem dX3_isKnown_4 : decode cX3_isKnown 4 = .ok (.getfield 12, 3) := by decide +kernel
theorem dX3_isKnown_7 : decode cX3_isKnown 7 = .ok (.getfield 98, 3) := by decide +kernel
theorem dX3_isKnown_10 : decode cX3_isKnown 10 = .ok (.if_icmp .ge 21, 3) := by decide +kernel
theorem dX3_isKnown_13 : decode cX3_isKnown 13 = .ok (.aload_n 0, 1) := by decide +kernel
theorem dX3_isKnown_14 : decode cX3_isKnown 14 = .ok (.getfield 18, 3) := by decide +kernel
theorem dX3_isKnown_17 : decode cX3_isKnown 17 = .ok (.iload_n 2, 1) := by decide +kernel
theorem dX3_isKnown_18 : decode cX3_isKnown 18 = .ok (.iaload, 1) := by decide +kernel
theorem dX3_isKnown_19 : decode cX3_isKnown 19 = .ok (.iload_n 1, 1) := by decide +kernel
theorem dX3_isKnown_20 : decode cX3_isKnown 20 = .ok (.if_icmp .ne 5, 3) := by decide +kernel
theorem dX3_isKnown_23 : decode cX3_isKnown 23 = .ok (.iconst 1, 1) := by decide +kernel
theorem dX3_isKnown_24 : decode cX3_isKnown 24 = .ok (.ireturn, 1) := by decide +kernel
theorem dX3_isKnown_25 : decode cX3_isKnown 25 = .ok (.iinc 2 1, 3) := by decide +kernel
theorem dX3_isKnown_28 : decode cX3_isKnown 28 = .ok (.goto (-26), 3) := by decide +kernel
theorem dX3_isKnown_31 : decode cX3_isKnown 31 = .ok (.iconst 0, 1) := by decide +kernel
theorem dX3_isKnown_32 : decode cX3_isKnown 32 = .ok (.ireturn, 1) := by decide +kernel
theorem dX3_note_0 : decode cX3_note 0 = .ok (.aload_n 0, 1) := by decide +kernel
theorem dX3_note_1 : decode cX3_note 1 = .ok (.getfield 12, 3) := by decide +kernel
theorem dX3_note_4 : decode cX3_note 4 = .ok (.getfield 98, 3) := by decide +kernel
theorem dX3_note_7 : decode cX3_note 7 = .ok (.istore_n 2, 1) := by decide +kernel
theorem dX3_note_8 : decode cX3_note 8 = .ok (.aload_n 0, 1) := by decide +kernel
theorem dX3_note_9 : decode cX3_note 9 = .ok (.getfield 18, 3) := by decide +kernel
theorem dX3_note_12 : decode cX3_note 12 = .ok (.iload_n 2, 1) := by decide +kernel
theorem dX3_note_13 : decode cX3_note 13 = .ok (.iload_n 1, 1) := by decide +kernel
theorem dX3_note_14 : decode cX3_note 14 = .ok (.iastore, 1) := by decide +kernel
theorem dX3_note_15 : decode cX3_note 15 = .ok (.iconst 0, 1) := by decide +kernel
theorem dX3_note_16 : decode cX3_note 16 = .ok (.istore_n 3, 1) := by decide +kernel
theorem dX3_note_17 : decode cX3_note 17 = .ok (.iload_n 3, 1) := by decide +kernel
theorem dX3_note_18 : decode cX3_note 18 = .ok (.aload_n 0, 1) := by decide +kernel
theorem dX3_note_19 : decode cX3_note 19 = .ok (.getfield 44, 3) := by decide +kernel
theorem dX3_note_22 : decode cX3_note 22 = .ok (.getfield 56, 3) := by decide +kernel
theorem dX3_note_25 : decode cX3_note 25 = .ok (.if_icmp .ge 29, 3) := by decide +kernel
theorem dX3_note_28 : decode cX3_note 28 = .ok (.iload_n 1, 1) := by decide +kernel
theorem dX3_note_29 : decode cX3_note 29 = .ok (.iload_n 3, 1) := by decide +kernel
theorem dX3_note_30 : decode cX3_note 30 = .ok (.invokestatic 118, 3) := by decide +kernel
theorem dX3_note_33 : decode cX3_note 33 = .ok (.ifCond .eq 15, 3) := by decide +kernel
theorem dX3_note_36 : decode cX3_note 36 = .ok (.aload_n 0, 1) := by decide +kernel
theorem dX3_note_37 : decode cX3_note 37 = .ok (.getfield 22, 3) := by decide +kernel
theorem dX3_note_40 : decode cX3_note 40 = .ok (.iload_n 3, 1) := by decide +kernel
theorem dX3_note_41 : decode cX3_note 41 = .ok (.dup2, 1) := by decide +kernel
theorem dX3_note_42 : decode cX3_note 42 = .ok (.iaload, 1) := by decide +kernel
theorem dX3_note_43 : decode cX3_note 43 = .ok (.iconst 1, 1) := by decide +kernel
theorem dX3_note_44 : decode cX3_note 44 = .ok (.iload_n 2, 1) := by decide +kernel
theorem dX3_note_45 : decode cX3_note 45 = .ok (.ishl, 1) := by decide +kernel
theorem dX3_note_46 : decode cX3_note 46 = .ok (.ior, 1) := by decide +kernel
theorem dX3_note_47 : decode cX3_note 47 = .ok (.iastore, 1) := by decide +kernel
theorem dX3_note_48 : decode cX3_note 48 = .ok (.iinc 3 1, 3) := by decide +kernel
theorem dX3_note_51 : decode cX3_note 51 = .ok (.goto (-34), 3) := by decide +kernel
theorem dX3_note_54 : decode cX3_note 54 = .ok (.aload_n 0, 1) := by decide +kernel
theorem dX3_note_55 : decode cX3_note 55 = .ok (.getfield 12, 3) := by decide +kernel
theorem dX3_note_58 : decode cX3_note 58 = .ok (.dup, 1) := by decide +kernel
theorem dX3_note_59 : decode cX3_note 59 = .ok (.getfield 98, 3) := by decide +kernel
theorem dX3_note_62 : decode cX3_note 62 = .ok (.iconst 1, 1) := by decide +kernel
theorem dX3_note_63 : decode cX3_note 63 = .ok (.iadd, 1) := by decide +kernel
theorem dX3_note_64 : decode cX3_note 64 = .ok (.putfield 98, 3) := by decide +kernel
theorem dX3_note_67 : decode cX3_note 67 = .ok (.return_, 1) := by decide +kernel
theorem dX3_gatherMembers_0 : decode cX3_gatherMembers 0 = .ok (.aload_n 0, 1) := by decide +kernel
theorem dX3_gatherMembers_1 : decode cX3_gatherMembers 1 = .ok (.iconst 0, 1) := by decide +kernel
theorem dX3_gatherMembers_2 : decode cX3_gatherMembers 2 = .ok (.putfield 78, 3) := by decide +kernel
theorem dX3_gatherMembers_5 : decode cX3_gatherMembers 5 = .ok (.iconst 0, 1) := by decide +kernel
theorem dX3_gatherMembers_6 : decode cX3_gatherMembers 6 = .ok (.istore_n 2, 1) := by decide +kernel
theorem dX3_gatherMembers_7 : decode cX3_gatherMembers 7 = .ok (.iload_n 2, 1) := by decide +kernel
theorem dX3_gatherMembers_8 : decode cX3_gatherMembers 8 = .ok (.aload_n 0, 1) := by decide +kernel
theorem dX3_gatherMembers_9 : decode cX3_gatherMembers 9 = .ok (.getfield 44, 3) := by decide +kernel
theorem dX3_gatherMembers_12 : decode cX3_gatherMembers 12 = .ok (.getfield 56, 3) := by decide +kernel
theorem dX3_gatherMembers_15 : decode cX3_gatherMembers 15 = .ok (.if_icmp .ge 47, 3) := by decide +kernel
theorem dX3_gatherMembers_18 : decode cX3_gatherMembers 18 = .ok (.iload_n 1, 1) := by decide +kernel
theorem dX3_gatherMembers_19 : decode cX3_gatherMembers 19 = .ok (.iload_n 2, 1) := by decide +kernel
theorem dX3_gatherMembers_20 : decode cX3_gatherMembers 20 = .ok (.invokestatic 118, 3) := by decide +kernel
theorem dX3_gatherMembers_23 : decode cX3_gatherMembers 23 = .ok (.ifCond .eq 33, 3) := by decide +kernel
theorem dX3_gatherMembers_26 : decode cX3_gatherMembers 26 = .ok (.aload_n 0, 1) := by decide +kernel
theorem dX3_gatherMembers_27 : decode cX3_gatherMembers 27 = .ok (.getfield 25, 3) := by decide +kernel
theorem dX3_gatherMembers_30 : decode cX3_gatherMembers 30 = .ok (.aload_n 0, 1) := by decide +kernel
theorem dX3_gatherMembers_31 : decode cX3_gatherMembers 31 = .ok (.getfield 78, 3) := by decide +kernel
theorem dX3_gatherMembers_34 : decode cX3_gatherMembers 34 = .ok (.iload_n 2, 1) := by decide +kernel
theorem dX3_gatherMembers_35 : decode cX3_gatherMembers 35 = .ok (.iastore, 1) := by decide +kernel
theorem dX3_gatherMembers_36 : decode cX3_gatherMembers 36 = .ok (.aload_n 0, 1) := by decide +kernel
theorem dX3_gatherMembers_37 : decode cX3_gatherMembers 37 = .ok (.getfield 28, 3) := by decide +kernel
theorem dX3_gatherMembers_40 : decode cX3_gatherMembers 40 = .ok (.aload_n 0, 1) := by decide +kernel
theorem dX3_gatherMembers_41 : decode cX3_gatherMembers 41 = .ok (.getfield 78, 3) := by decide +kernel
theorem dX3_gatherMembers_44 : decode cX3_gatherMembers 44 = .ok (.iconst (-1), 1) := by decide +kernel
theorem dX3_gatherMembers_45 : decode cX3_gatherMembers 45 = .ok (.iastore, 1) := by decide +kernel
theorem dX3_gatherMembers_46 : decode cX3_gatherMembers 46 = .ok (.aload_n 0, 1) := by decide +kernel
theorem dX3_gatherMembers_47 : decode cX3_gatherMembers 47 = .ok (.dup, 1) := by decide +kernel
theorem dX3_gatherMembers_48 : decode cX3_gatherMembers 48 = .ok (.getfield 78, 3) := by decide +kernel
theorem dX3_gatherMembers_51 : decode cX3_gatherMembers 51 = .ok (.iconst 1, 1) := by decide +kernel
theorem dX3_gatherMembers_52 : decode cX3_gatherMembers 52 = .ok (.iadd, 1) := by decide +kernel
theorem dX3_gatherMembers_53 : decode cX3_gatherMembers 53 = .ok (.putfield 78, 3) := by decide +kernel
theorem dX3_gatherMembers_56 : decode cX3_gatherMembers 56 = .ok (.iinc 2 1, 3) := by decide +kernel
theorem dX3_gatherMembers_59 : decode cX3_gatherMembers 59 = .ok (.goto (-52), 3) := by decide +kernel
theorem dX3_gatherMembers_62 : decode cX3_gatherMembers 62 = .ok (.return_, 1) := by decide +kernel
theorem dX3_nextPlace_0 : decode cX3_nextPlace 0 = .ok (.aload_n 0, 1) := by decide +kernel
theorem dX3_nextPlace_1 : decode cX3_nextPlace 1 = .ok (.getfield 44, 3) := by decide +kernel
theorem dX3_nextPlace_4 : decode cX3_nextPlace 4 = .ok (.iload_n 1, 1) := by decide +kernel
theorem dX3_nextPlace_5 : decode cX3_nextPlace 5 = .ok (.invokevirtual 111, 3) := by decide +kernel
theorem dX3_nextPlace_8 : decode cX3_nextPlace 8 = .ok (.astore_n 3, 1) := by decide +kernel
theorem dX3_nextPlace_9 : decode cX3_nextPlace 9 = .ok (.iload_n 2, 1) := by decide +kernel
theorem dX3_nextPlace_10 : decode cX3_nextPlace 10 = .ok (.istore 4, 2) := by decide +kernel
theorem dX3_nextPlace_12 : decode cX3_nextPlace 12 = .ok (.iload 4, 2) := by decide +kernel
theorem dX3_nextPlace_14 : decode cX3_nextPlace 14 = .ok (.aload_n 3, 1) := by decide +kernel
theorem dX3_nextPlace_15 : decode cX3_nextPlace 15 = .ok (.getfield 122, 3) := by decide +kernel
theorem dX3_nextPlace_18 : decode cX3_nextPlace 18 = .ok (.getfield 126, 3) := by decide +kernel
theorem dX3_nextPlace_21 : decode cX3_nextPlace 21 = .ok (.if_icmp .ge 96, 3) := by decide +kernel
theorem dX3_nextPlace_24 : decode cX3_nextPlace 24 = .ok (.aload_n 0, 1) := by decide +kernel
theorem dX3_nextPlace_25 : decode cX3_nextPlace 25 = .ok (.getfield 48, 3) := by decide +kernel
theorem dX3_nextPlace_28 : decode cX3_nextPlace 28 = .ok (.sipush 2000, 3) := by decide +kernel
theorem dX3_nextPlace_31 : decode cX3_nextPlace 31 = .ok (.if_icmp .lt 10, 3) := by decide +kernel
theorem dX3_nextPlace_34 : decode cX3_nextPlace 34 = .ok (.aload_n 0, 1) := by decide +kernel
theorem dX3_nextPlace_35 : decode cX3_nextPlace 35 = .ok (.iconst 1, 1) := by decide +kernel
theorem dX3_nextPlace_36 : decode cX3_nextPlace 36 = .ok (.putfield 52, 3) := by decide +kernel
theorem dX3_nextPlace_39 : decode cX3_nextPlace 39 = .ok (.iconst (-1), 1) := by decide +kernel
theorem dX3_nextPlace_40 : decode cX3_nextPlace 40 = .ok (.ireturn, 1) := by decide +kernel
theorem dX3_nextPlace_41 : decode cX3_nextPlace 41 = .ok (.aload_n 0, 1) := by decide +kernel
theorem dX3_nextPlace_42 : decode cX3_nextPlace 42 = .ok (.dup, 1) := by decide +kernel
theorem dX3_nextPlace_43 : decode cX3_nextPlace 43 = .ok (.getfield 48, 3) := by decide +kernel
theorem dX3_nextPlace_46 : decode cX3_nextPlace 46 = .ok (.iconst 1, 1) := by decide +kernel
theorem dX3_nextPlace_47 : decode cX3_nextPlace 47 = .ok (.iadd, 1) := by decide +kernel
theorem dX3_nextPlace_48 : decode cX3_nextPlace 48 = .ok (.putfield 48, 3) := by decide +kernel
theorem dX3_nextPlace_51 : decode cX3_nextPlace 51 = .ok (.aload_n 3, 1) := by decide +kernel
theorem dX3_nextPlace_52 : decode cX3_nextPlace 52 = .ok (.getfield 122, 3) := by decide +kernel
theorem dX3_nextPlace_55 : decode cX3_nextPlace 55 = .ok (.iload 4, 2) := by decide +kernel
theorem dX3_nextPlace_57 : decode cX3_nextPlace 57 = .ok (.invokevirtual 129, 3) := by decide +kernel
theorem dX3_nextPlace_60 : decode cX3_nextPlace 60 = .ok (.istore 5, 2) := by decide +kernel
theorem dX3_nextPlace_62 : decode cX3_nextPlace 62 = .ok (.aload_n 0, 1) := by decide +kernel
theorem dX3_nextPlace_63 : decode cX3_nextPlace 63 = .ok (.getfield 12, 3) := by decide +kernel
theorem dX3_nextPlace_66 : decode cX3_nextPlace 66 = .ok (.aload_n 0, 1) := by decide +kernel
theorem dX3_nextPlace_67 : decode cX3_nextPlace 67 = .ok (.getfield 40, 3) := by decide +kernel
theorem dX3_nextPlace_70 : decode cX3_nextPlace 70 = .ok (.aload_n 3, 1) := by decide +kernel
theorem dX3_nextPlace_71 : decode cX3_nextPlace 71 = .ok (.iload 5, 2) := by decide +kernel
theorem dX3_nextPlace_73 : decode cX3_nextPlace 73 = .ok (.aload_n 0, 1) := by decide +kernel
theorem dX3_nextPlace_74 : decode cX3_nextPlace 74 = .ok (.getfield 22, 3) := by decide +kernel
theorem dX3_nextPlace_77 : decode cX3_nextPlace 77 = .ok (.iload_n 1, 1) := by decide +kernel
theorem dX3_nextPlace_78 : decode cX3_nextPlace 78 = .ok (.iaload, 1) := by decide +kernel
theorem dX3_nextPlace_79 : decode cX3_nextPlace 79 = .ok (.invokevirtual 132, 3) := by decide +kernel
theorem dX3_nextPlace_82 : decode cX3_nextPlace 82 = .ok (.ifCond .eq 29, 3) := by decide +kernel
theorem dX3_nextPlace_85 : decode cX3_nextPlace 85 = .ok (.aload_n 0, 1) := by decide +kernel
end
section
/-! the pure machine: words, memory, worlds -/
def TBg : List Cond := lw_tbl.filter goodWord
theorem TBg_mem {w : Cond} (h : w ∈ lw_tbl) (g : goodWord w = true) : w ∈ TBg := List.mem_filter.mpr ⟨h, g⟩
theorem TBg_good {w : Cond} (h : w ∈ TBg) : goodWord w = true := (List.mem_filter.mp h).2
/-- a method: name, code, locals, what it returns -/
abbrev Mth : Type := MethodName × ByteArray × Nat × Option FieldType
def wd (M : Mth) : List Cond := .code M.1 M.2.1 M.2.2.1 M.2.2.2 :: TBg
def mIn (M : Mth) : Prop := Cond.code M.1 M.2.1 M.2.2.1 M.2.2.2 ∈ TBg
theorem wd_good {M M' : Mth} (h : mIn M') : GoodIn (wd M) (wd M') := by
  intro w hw
  have hw' : w ∈ TBg := by
    rcases List.mem_cons.mp hw with e | e
    · rw [e]; exact h
    · exact e
  exact ⟨List.mem_cons_of_mem _ hw', good_of_word (TBg_good hw')⟩
/-- how many cells, the kind of each, its length, the references that it holds -/
abbrev Topo : Type := Nat × (Nat → Nat) × (Nat → Nat) × (Nat → Nat → Option Nat)
abbrev IM : Type := Nat → Nat → Int32
abbrev tN (T : Topo) : Nat := T.1
abbrev tK (T : Topo) (k : Nat) : Nat := T.2.1 k
abbrev tL (T : Topo) (k : Nat) : Nat := T.2.2.1 k
abbrev tR (T : Topo) (k j : Nat) : Option Nat := T.2.2.2 k j
def up2 (I : IM) (k j : Nat) (v : Int32) : IM := fun a => if a = k then upd (I k) j v else I a
def nF (κ : Nat) : Nat := match κ with
  | 0 => 5 | 1 => 3 | 2 => 6 | 3 => 13 | 4 => 8 | 5 => 6 | 6 => 5 | 7 => 3 | 8 => 19 | 9 => 2 | 10 => 5 | 11 => 8 | 12 => 67 | _ => 0
def rF (κ j : Nat) : Bool := match κ with
  | 0 => decide (j < 4) | 1 => decide (j < 1) | 2 => decide (j < 2) | 3 => decide (j < 10) | 4 => false | 5 => decide (j < 3) | 6 => decide (j < 2) | 7 => decide (j < 1)
  | 8 => decide (j = 18) | 9 => decide (j < 1) | 10 => decide (j < 1) | 11 => decide (j < 7) | 12 => decide (9 ≤ j) && (decide (j ≠ 53) && decide (j ≠ 54)) | _ => false
def aTy (κ : Nat) : FieldType := match κ with
  | 13 => .int | 14 => .boolean | 15 => .object "SliceSeller$Line" | 16 => .object "SliceSeller$Sheet" | _ => .object "SliceSeller$Slice"
def fv (ad : Nat → Nat) (T : Topo) (I : IM) (k j : Nat) : Value := if rF (tK T k) j = true then va_rf ((tR T k j).map ad) else .int (I k j)
def cE (ad : Nat → Nat) (ca : Nat → ClassId) (T : Topo) (I : IM) (k : Nat) : va_E :=
  if tK T k < 13 then .inr (tK T k, (List.range (nF (tK T k))).map (fv ad T I k))
  else if tK T k < 15 then .inl (ca k, tL T k, .inl (I k))
  else .inl (ca k, tL T k, .inr (.inr (.inr (.inr (fun j => (tR T k j).map ad)))))
def cW (ad : Nat → Nat) (ca : Nat → ClassId) (T : Topo) (I : IM) : va_W := (List.range (tN T)).map (fun k => (ad k, cE ad ca T I k))
theorem cW_at {ad : Nat → Nat} {ca : Nat → ClassId} {T : Topo} {I : IM} {k : Nat} (h : k < tN T) : (cW ad ca T I)[k]? = some (ad k, cE ad ca T I k) := by
  simp [cW, h]
theorem cW_of {ad : Nat → Nat} {ca : Nat → ClassId} {T : Topo} {I : IM} {k : Nat} {q : Nat × va_E} (h : (cW ad ca T I)[k]? = some q) : k < tN T ∧ q = (ad k, cE ad ca T I k) := by
  have h1 : k < tN T := by
    have := (List.getElem?_eq_some_iff.mp h).1
    simpa [cW] using this
  rw [cW_at h1] at h
  exact ⟨h1, (Option.some.inj h).symm⟩
theorem cW_set {ad : Nat → Nat} {ca : Nat → ClassId} {T T' : Topo} {I I' : IM} {k : Nat} {e : va_E} (hk : k < tN T) (hn : tN T' = tN T) (he : e = cE ad ca T' I' k) (hE : ∀ j, j ≠ k → cE ad ca T' I' j = cE ad ca T I j) : (cW ad ca T I).set k (ad k, e) = cW ad ca T' I' := by
  apply List.ext_getElem?
  intro j
  rw [List.getElem?_set]
  by_cases hj : k = j
  · subst hj
    have : k < (cW ad ca T I).length := by simpa [cW] using hk
    simp only [this, if_true]
    rw [cW_at (by omega), he]
  · rw [if_neg hj]
    by_cases hb : j < tN T
    · rw [cW_at hb, cW_at (by omega), hE j (fun h => hj h.symm)]
    · rw [List.getElem?_eq_none (by simpa [cW] using hb), List.getElem?_eq_none (by simp [cW]; omega)]
theorem cW_push {ad : Nat → Nat} {ca : Nat → ClassId} {T T' : Topo} {I I' : IM} {q : Nat} {cA : ClassId} {e : va_E} (hn : tN T' = tN T + 1) (he : e = cE (va_up ad (tN T) q) (va_up ca (tN T) cA) T' I' (tN T)) (hE : ∀ j, j < tN T → cE (va_up ad (tN T) q) (va_up ca (tN T) cA) T' I' j = cE ad ca T I j) : cW ad ca T I ++ [(q, e)] = cW (va_up ad (tN T) q) (va_up ca (tN T) cA) T' I' := by
  have hl : (cW ad ca T I).length = tN T := by simp [cW]
  apply List.ext_getElem?
  intro j
  by_cases hj : j < tN T
  · rw [List.getElem?_append_left (by omega), cW_at hj, cW_at (by omega), hE j hj, va_up_ne _ _ (by omega)]
  · rw [List.getElem?_append_right (by omega), hl]
    by_cases hb : j = tN T
    · subst hb
      rw [cW_at (by omega), he]
      simp [va_up]
    · have h1 : tN T < j := by omega
      rw [List.getElem?_eq_none (by simp; omega), List.getElem?_eq_none (by simp [cW]; omega)]
def aOK (ca : Nat → ClassId) (T : Topo) (U : State) : Prop := ∀ k, k < tN T → 13 ≤ tK T k → ArrOfT U (ca k) (aTy (tK T k)) ∧ va_RA U (ca k) (aTy (tK T k))
def rOK (T : Topo) : Prop := ∀ k j r, k < tN T → tR T k j = some r → r < tN T
theorem aOK.moved {ca : Nat → ClassId} {T : Topo} {u U : State} (hvm : u.vm.Alike U.vm) (h : aOK ca T u) : aOK ca T U := fun k h1 h2 => ⟨arrOfT_moved hvm (h k h1 h2).1, (h k h1 h2).2.moved hvm⟩
/-- the words that are carried beside the tables -/
def isNest (w : Cond) : Bool := match w with
  | .methodLinkNest _ _ _ _ => true
  | .fieldLinkNest _ _ _ _ _ _ => true
  | .arrayOver (.object _) => true
  | _ => false
def NestOK (U : State) : Prop := ∀ w ∈ lw_tbl, isNest w = true → va_Nw w U
theorem NestOK.warm {s U : State} (hW : s.WarmedH U.vm) (h : NestOK s) : NestOK U := by
  intro w hw hn
  have h1 := h w hw hn
  unfold isNest at hn
  split at hn
  · exact va_Nw.warmM hW h1
  · exact va_Nw.warmF hW h1
  · exact va_AO.moved hW.alike h1
  · cases hn
theorem NestOK.same {u U : State} (hv : u.vm = U.vm) (h : NestOK u) : NestOK U := by
  intro w hw hn
  have h1 := h w hw hn
  unfold isNest at hn
  split at hn
  · exact va_Nw.same rfl hv h1
  · exact va_Nw.same rfl hv h1
  · exact va_AO.moved (by rw [hv]; exact Vm.Alike.refl _) h1
  · cases hn
/-- the kinds' parents, as the class has them -/
def abv (k : Nat) : Int32 := match k with | 0 => -1 | 1 => 0 | 2 => 0 | 3 => 2 | _ => 0
def Abv (ab : Nat) (A : Nat → Prop) (U : State) (H : Heap) : Prop := va_Z "SliceSeller" "ABOVE" "[I" (.ref ab) A U H ∧ va_X ab 5 abv U H ∧ ab < H.size ∧ ¬ A ab
/-- values: numbers as they are, references by the numbers of their cells -/
def trv (ad : Nat → Nat) (v : Value) : Value := match v with
  | .ref k => .ref (ad k)
  | v => v
def vOK (n : Nat) (v : Value) : Prop := match v with
  | .ref k => k < n
  | _ => True
theorem vOK.mono {n n' : Nat} (h : n ≤ n') {v : Value} (hv : vOK n v) : vOK n' v := by
  cases v <;> simp only [vOK] at hv ⊢
  exact Nat.lt_of_lt_of_le hv h
theorem trv_eq {ad ad' : Nat → Nat} {n : Nat} (h : ∀ k, k < n → ad' k = ad k) {v : Value} (hv : vOK n v) : trv ad' v = trv ad v := by
  cases v <;> simp only [vOK, trv] at hv ⊢
  rw [h _ hv]
theorem trv_map {ad ad' : Nat → Nat} {n : Nat} (h : ∀ k, k < n → ad' k = ad k) {st : List Value} (hv : ∀ v ∈ st, vOK n v) : st.map (trv ad') = st.map (trv ad) :=
  List.map_congr_left fun v hm => trv_eq h (hv v hm)
theorem trv_cat (ad : Nat → Nat) (v : Value) : (trv ad v).category = v.category := by cases v <;> rfl
/-- the cells that a method may change: its world's, and those that it makes -/
def Fr (T : Topo) (ad : Nat → Nat) (sz : Nat) : Nat → Prop := fun q => (∃ k, k < tN T ∧ ad k = q) ∨ sz ≤ q
abbrev Pst : Type := Option Value → Topo → IM → Prop
def Rm (d c s : Nat) : Room := { frames := d, cells := c, slots := s, locals := 60 * d }
def Pw (G : va_G) (ab : Nat) (vs : List Value) (T : Topo) (I : IM) (ad : Nat → Nat) (ca : Nat → ClassId) (sz : Nat) : Array Value → State → Prop := fun a U =>
  a = (vs.map (trv ad)).toArray ∧ U.heap.size = sz ∧ va_P G vwCl (cW ad ca T I) U.heap ∧ va_D (fun _ => True) (cW ad ca T I) ∧ va_K G vwCl [] U ∧ aOK ca T U ∧ rOK T ∧ Abv ab (Fr T ad sz) U U.heap ∧ NestOK U ∧ (∀ v ∈ vs, vOK (tN T) v)
def Qw (G : va_G) (T : Topo) (ad : Nat → Nat) (sz : Nat) (Post : Pst) : Array Value → State → Outcome → State → Prop := fun _ st oc t =>
  (∃ (r : Option Value) (T' : Topo) (I' : IM) (ad' : Nat → Nat) (ca' : Nat → ClassId), oc = .returned (r.map (trv ad')) ∧ Post r T' I' ∧ tN T ≤ tN T' ∧ (∀ k, k < tN T → ad' k = ad k) ∧ (∀ v ∈ r, vOK (tN T') v) ∧
    va_P G vwCl (cW ad' ca' T' I') t.heap ∧ va_D (Fr T ad sz) (cW ad' ca' T' I') ∧ aOK ca' T' t ∧ rOK T') ∧ va_F (Fr T ad sz) st t
/-- a method's contract: from the memory T, I and the values vs it returns, with Post, in the room d, mc, ms -/
def Ct (d : Nat) (M : Mth) (vs : List Value) (T : Topo) (I : IM) (mc ms : Nat) (Post : Pst) : Prop :=
  ∀ (l : Launch) (G : va_G) (ab : Nat) (ad : Nat → Nat) (ca : Nat → ClassId) (sz : Nat), Met l M.1 (wd M) (Rm d mc ms) (Pw G ab vs T I ad ca sz) (Qw G T ad sz Post) mc ms (Fr T ad sz)
def lvO (LS : Array Slot) (nL : Nat) (ls : List (Option Value)) (ad : Nat → Nat) (n : Nat) : Prop :=
  LS.size = nL ∧ lv_wf LS ∧ ls.length = nL ∧ ∀ (i : Nat) (v : Value), ls[i]? = some (some v) → LS[i]? = some (Slot.val (trv ad v)) ∧ v.category = 1 ∧ vOK n v
def Fx (M : Mth) (p : Program) (s : State) (m : MethodId) (args : Array Value) (meth : Method) (cd : Code) (ab : Nat) (A : Nat → Prop) : Prop :=
  p.tables.exec = Jvm.exec ∧ cd.code = M.2.1 ∧ cd.maxLocals = M.2.2.1 ∧ s.vm.findClass M.1.cls = some m.cls ∧ (∀ w ∈ wd M, w.before args s = true) ∧ meth.sig.returnType = M.2.2.2 ∧ meth.locks = false ∧ meth.name = M.1.name ∧ NestOK s ∧ Abv ab A s s.heap ∧ (∀ q, s.heap.size ≤ q → A q)
def Dy (G : va_G) (s : State) (A : Nat → Prop) (T0 : Topo) (ad0 : Nat → Nat) (T : Topo) (I : IM) (ad : Nat → Nat) (ca : Nat → ClassId) (H : Heap) (locs : List Loc) : Prop :=
  va_P G vwCl (cW ad ca T I) H ∧ va_D A (cW ad ca T I) ∧ va_K G vwCl [] s ∧ aOK ca T s ∧ rOK T ∧ va_S A s.heap H locs ∧ tN T0 ≤ tN T ∧ (∀ k, k < tN T0 → ad k = ad0 k)
/-- the machine stands at pc of method M with locals ls, stack st, memory T, I, and has made c cells, sl slots: it comes to M's end with Post, and has made C cells, S slots at most -/
def J (d : Nat) (M : Mth) (Post : Pst) (C S pc : Nat) (ls : List (Option Value)) (st : List Value) (T : Topo) (I : IM) (c sl : Nat) : Prop :=
  ∀ (p : Program) (l : Launch) (e : Env) (s : State) (m : MethodId) (args : Array Value) (below : List Frame) (meth : Method) (cd : Code) (G : va_G) (ab : Nat) (T0 : Topo) (ad0 ad : Nat → Nat) (ca : Nat → ClassId) (H : Heap) (locs : List Loc) (LS : Array Slot),
    Fx M p s m args meth cd ab (Fr T0 ad0 s.heap.size) → Dy G s (Fr T0 ad0 s.heap.size) T0 ad0 T I ad ca H locs → lvO LS M.2.2.1 ls ad (tN T) → (∀ v ∈ st, vOK (tN T) v) →
    W p l e (Rm d C S) s m args below meth cd H locs c sl (MQ below (Qw G T0 ad0 s.heap.size Post) args s C S (Fr T0 ad0 s.heap.size)) (F0 m pc LS (st.map (trv ad)))
end
section
def lsOK (n : Nat) (ls : List (Option Value)) : Prop := ∀ (i : Nat) (v : Value), ls[i]? = some (some v) → vOK n v
theorem vs_c {n : Nat} {v : Value} {st : List Value} (h : vOK n v) (hs : ∀ w ∈ st, vOK n w) : ∀ w ∈ v :: st, vOK n w := List.forall_mem_cons.mpr ⟨h, hs⟩
theorem vs_t {n : Nat} {v : Value} {st : List Value} (hs : ∀ w ∈ v :: st, vOK n w) : ∀ w ∈ st, vOK n w := (List.forall_mem_cons.mp hs).2
theorem vs_h {n : Nat} {v : Value} {st : List Value} (hs : ∀ w ∈ v :: st, vOK n w) : vOK n v := (List.forall_mem_cons.mp hs).1
theorem hasCode {M : Mth} {p : Program} {s : State} {m : MethodId} {args : Array Value} {meth : Method} {cd : Code} {ab : Nat} {A : Nat → Prop} (F : Fx M p s m args meth cd ab A) {w : Cond} (h : w ∈ TBg) : w.before args s = true := F.2.2.2.2.1 w (List.mem_cons_of_mem _ h)
/-! the rules of J: instructions that touch the stack alone -/
section JR
variable {d : Nat} {M : Mth} {Post : Pst} {C S pc c sl : Nat} {ls : List (Option Value)} {st : List Value} {T : Topo} {I : IM}
theorem J.lift {pc' : Nat} {st' : List Value} (hs : (∀ v ∈ st, vOK (tN T) v) → lsOK (tN T) ls → ∀ v ∈ st', vOK (tN T) v)
    (step : ∀ (p : Program) (l : Launch) (e : Env) (R : Room) (s : State) (m : MethodId) (args : Array Value) (below : List Frame) (meth : Method) (cd : Code) (ab : Nat) (A : Nat → Prop) (ad : Nat → Nat) (H : Heap) (locs : List Loc) (Q : State → Prop) (LS : Array Slot),
      Fx M p s m args meth cd ab A → lvO LS M.2.2.1 ls ad (tN T) → W p l e R s m args below meth cd H locs c sl Q (F0 m pc' LS (st'.map (trv ad))) → W p l e R s m args below meth cd H locs c sl Q (F0 m pc LS (st.map (trv ad))))
    (k : J d M Post C S pc' ls st' T I c sl) : J d M Post C S pc ls st T I c sl := by
  intro p l e s m args below meth cd G ab T0 ad0 ad ca H locs LS F D hl hv
  exact step p l e _ s m args below meth cd ab _ ad H locs _ LS F hl (k p l e s m args below meth cd G ab T0 ad0 ad ca H locs LS F D hl (hs hv (fun i v h => (hl.2.2.2 i v h).2.2)))
theorem J.iconst {n : Int} {v : Int32} (hd : decode M.2.1 pc = .ok (.iconst n, 1)) (hv : Int32.ofInt n = v)
    (k : J d M Post C S (pc + 1) ls (.int v :: st) T I c sl) : J d M Post C S pc ls st T I c sl :=
  J.lift (st' := (.int v :: st)) (fun hv hl => vs_c (trivial) hv) (fun p l e R s m args below meth cd ab A ad H locs Q LS F hl k => lv_iconst F.1 F.2.1 hd hv k) k
theorem J.bipush {n : Int} {v : Int32} (hd : decode M.2.1 pc = .ok (.bipush n, 2)) (hv : (Int8.ofInt n).toInt32 = v)
    (k : J d M Post C S (pc + 2) ls (.int v :: st) T I c sl) : J d M Post C S pc ls st T I c sl :=
  J.lift (st' := (.int v :: st)) (fun hv hl => vs_c (trivial) hv) (fun p l e R s m args below meth cd ab A ad H locs Q LS F hl k => lv_bipush F.1 F.2.1 hd hv k) k
theorem J.sipush {n : Int} {v : Int32} (hd : decode M.2.1 pc = .ok (.sipush n, 3)) (hv : (Int16.ofInt n).toInt32 = v)
    (k : J d M Post C S (pc + 3) ls (.int v :: st) T I c sl) : J d M Post C S pc ls st T I c sl :=
  J.lift (st' := (.int v :: st)) (fun hv hl => vs_c (trivial) hv) (fun p l e R s m args below meth cd ab A ad H locs Q LS F hl k => lv_sipush F.1 F.2.1 hd hv k) k
theorem J.ldc {n : Nat} {v : Int32} (hd : decode M.2.1 pc = .ok (.ldc n, 2)) (hv : Cond.constant M.1.cls n v ∈ TBg)
    (k : J d M Post C S (pc + 2) ls (.int v :: st) T I c sl) : J d M Post C S pc ls st T I c sl :=
  J.lift (st' := (.int v :: st)) (fun hv hl => vs_c (trivial) hv) (fun p l e R s m args below meth cd ab A ad H locs Q LS F hl k => lv_ldc F.1 F.2.1 F.2.2.2.1 (hasCode F hv) hd k) k
theorem J.ldcw {n : Nat} {v : Int32} (hd : decode M.2.1 pc = .ok (.ldc_w n, 3)) (hv : Cond.constant M.1.cls n v ∈ TBg)
    (k : J d M Post C S (pc + 3) ls (.int v :: st) T I c sl) : J d M Post C S pc ls st T I c sl :=
  J.lift (st' := (.int v :: st)) (fun hv hl => vs_c (trivial) hv) (fun p l e R s m args below meth cd ab A ad H locs Q LS F hl k => lv_ldcw F.1 F.2.1 F.2.2.2.1 (hasCode F hv) hd k) k
theorem J.iload_n {n : Fin 4} {i : Nat} {x : Int32} (hd : decode M.2.1 pc = .ok (.iload_n n, 1)) (hi : (n : Nat) = i) (hx : ls[i]? = some (some (.int x)))
    (k : J d M Post C S (pc + 1) ls (.int x :: st) T I c sl) : J d M Post C S pc ls st T I c sl :=
  J.lift (st' := (.int x :: st)) (fun hv hl => vs_c (trivial) hv) (fun p l e R s m args below meth cd ab A ad H locs Q LS F hl k => lv_iload_n F.1 F.2.1 hd hi (hl.2.2.2 i _ hx).1 k) k
theorem J.iload {i : Nat} {x : Int32} (hd : decode M.2.1 pc = .ok (.iload i, 2)) (hx : ls[i]? = some (some (.int x)))
    (k : J d M Post C S (pc + 2) ls (.int x :: st) T I c sl) : J d M Post C S pc ls st T I c sl :=
  J.lift (st' := (.int x :: st)) (fun hv hl => vs_c (trivial) hv) (fun p l e R s m args below meth cd ab A ad H locs Q LS F hl k => lv_iload F.1 F.2.1 hd (hl.2.2.2 i _ hx).1 k) k
theorem J.aload_n {n : Fin 4} {i : Nat} {x : Nat} (hd : decode M.2.1 pc = .ok (.aload_n n, 1)) (hi : (n : Nat) = i) (hx : ls[i]? = some (some (.ref x)))
    (k : J d M Post C S (pc + 1) ls (.ref x :: st) T I c sl) : J d M Post C S pc ls st T I c sl :=
  J.lift (st' := (.ref x :: st)) (fun hv hl => vs_c (hl i _ hx) hv) (fun p l e R s m args below meth cd ab A ad H locs Q LS F hl k => lv_aload_n F.1 F.2.1 hd hi (hl.2.2.2 i _ hx).1 k) k
theorem J.aload {i : Nat} {x : Nat} (hd : decode M.2.1 pc = .ok (.aload i, 2)) (hx : ls[i]? = some (some (.ref x)))
    (k : J d M Post C S (pc + 2) ls (.ref x :: st) T I c sl) : J d M Post C S pc ls st T I c sl :=
  J.lift (st' := (.ref x :: st)) (fun hv hl => vs_c (hl i _ hx) hv) (fun p l e R s m args below meth cd ab A ad H locs Q LS F hl k => lv_aload F.1 F.2.1 hd (hl.2.2.2 i _ hx).1 k) k
theorem J.iadd {x y : Int32} (hd : decode M.2.1 pc = .ok (.iadd, 1)) 
    (k : J d M Post C S (pc + 1) ls (.int (x + y) :: st) T I c sl) : J d M Post C S pc ls (.int y :: .int x :: st) T I c sl :=
  J.lift (st' := (.int (x + y) :: st)) (fun hv _ => vs_c trivial (vs_t (vs_t hv))) (fun p l e R s m args below meth cd ab A ad H locs Q LS F hl k => lv_iadd F.1 F.2.1 hd  k) k
theorem J.isub {x y : Int32} (hd : decode M.2.1 pc = .ok (.isub, 1)) 
    (k : J d M Post C S (pc + 1) ls (.int (x - y) :: st) T I c sl) : J d M Post C S pc ls (.int y :: .int x :: st) T I c sl :=
  J.lift (st' := (.int (x - y) :: st)) (fun hv _ => vs_c trivial (vs_t (vs_t hv))) (fun p l e R s m args below meth cd ab A ad H locs Q LS F hl k => lv_isub F.1 F.2.1 hd  k) k
theorem J.imul {x y : Int32} (hd : decode M.2.1 pc = .ok (.imul, 1)) 
    (k : J d M Post C S (pc + 1) ls (.int (x * y) :: st) T I c sl) : J d M Post C S pc ls (.int y :: .int x :: st) T I c sl :=
  J.lift (st' := (.int (x * y) :: st)) (fun hv _ => vs_c trivial (vs_t (vs_t hv))) (fun p l e R s m args below meth cd ab A ad H locs Q LS F hl k => lv_imul F.1 F.2.1 hd  k) k
theorem J.idiv {x y : Int32} (hd : decode M.2.1 pc = .ok (.idiv, 1)) (hne : ¬ y = 0)
    (k : J d M Post C S (pc + 1) ls (.int (x / y) :: st) T I c sl) : J d M Post C S pc ls (.int y :: .int x :: st) T I c sl :=
  J.lift (st' := (.int (x / y) :: st)) (fun hv _ => vs_c trivial (vs_t (vs_t hv))) (fun p l e R s m args below meth cd ab A ad H locs Q LS F hl k => lv_idiv F.1 F.2.1 hd hne k) k
theorem J.irem {x y : Int32} (hd : decode M.2.1 pc = .ok (.irem, 1)) (hne : ¬ y = 0)
    (k : J d M Post C S (pc + 1) ls (.int (x - x / y * y) :: st) T I c sl) : J d M Post C S pc ls (.int y :: .int x :: st) T I c sl :=
  J.lift (st' := (.int (x - x / y * y) :: st)) (fun hv _ => vs_c trivial (vs_t (vs_t hv))) (fun p l e R s m args below meth cd ab A ad H locs Q LS F hl k => lv_irem F.1 F.2.1 hd hne k) k
theorem J.ishl {x y : Int32} (hd : decode M.2.1 pc = .ok (.ishl, 1)) 
    (k : J d M Post C S (pc + 1) ls (.int (x <<< (y &&& 31)) :: st) T I c sl) : J d M Post C S pc ls (.int y :: .int x :: st) T I c sl :=
  J.lift (st' := (.int (x <<< (y &&& 31)) :: st)) (fun hv _ => vs_c trivial (vs_t (vs_t hv))) (fun p l e R s m args below meth cd ab A ad H locs Q LS F hl k => lv_ishl F.1 F.2.1 hd  k) k
theorem J.ishr {x y : Int32} (hd : decode M.2.1 pc = .ok (.ishr, 1)) 
    (k : J d M Post C S (pc + 1) ls (.int (x >>> (y &&& 31)) :: st) T I c sl) : J d M Post C S pc ls (.int y :: .int x :: st) T I c sl :=
  J.lift (st' := (.int (x >>> (y &&& 31)) :: st)) (fun hv _ => vs_c trivial (vs_t (vs_t hv))) (fun p l e R s m args below meth cd ab A ad H locs Q LS F hl k => lv_ishr F.1 F.2.1 hd  k) k
theorem J.iand {x y : Int32} (hd : decode M.2.1 pc = .ok (.iand, 1)) 
    (k : J d M Post C S (pc + 1) ls (.int (x &&& y) :: st) T I c sl) : J d M Post C S pc ls (.int y :: .int x :: st) T I c sl :=
  J.lift (st' := (.int (x &&& y) :: st)) (fun hv _ => vs_c trivial (vs_t (vs_t hv))) (fun p l e R s m args below meth cd ab A ad H locs Q LS F hl k => lv_iand F.1 F.2.1 hd  k) k
theorem J.ior {x y : Int32} (hd : decode M.2.1 pc = .ok (.ior, 1)) 
    (k : J d M Post C S (pc + 1) ls (.int (x ||| y) :: st) T I c sl) : J d M Post C S pc ls (.int y :: .int x :: st) T I c sl :=
  J.lift (st' := (.int (x ||| y) :: st)) (fun hv _ => vs_c trivial (vs_t (vs_t hv))) (fun p l e R s m args below meth cd ab A ad H locs Q LS F hl k => lv_ior F.1 F.2.1 hd  k) k
theorem J.ixor {x y : Int32} (hd : decode M.2.1 pc = .ok (.ixor, 1)) 
    (k : J d M Post C S (pc + 1) ls (.int (x ^^^ y) :: st) T I c sl) : J d M Post C S pc ls (.int y :: .int x :: st) T I c sl :=
  J.lift (st' := (.int (x ^^^ y) :: st)) (fun hv _ => vs_c trivial (vs_t (vs_t hv))) (fun p l e R s m args below meth cd ab A ad H locs Q LS F hl k => lv_ixor F.1 F.2.1 hd  k) k
theorem J.iushr {x y : Int32} (hd : decode M.2.1 pc = .ok (.iushr, 1)) 
    (k : J d M Post C S (pc + 1) ls (.int ((x.toUInt32 >>> (y.toUInt32 &&& Int32.toUInt32 31)).toInt32) :: st) T I c sl) : J d M Post C S pc ls (.int y :: .int x :: st) T I c sl :=
  J.lift (st' := (.int ((x.toUInt32 >>> (y.toUInt32 &&& Int32.toUInt32 31)).toInt32) :: st)) (fun hv _ => vs_c trivial (vs_t (vs_t hv))) (fun p l e R s m args below meth cd ab A ad H locs Q LS F hl k => lv_iushr F.1 F.2.1 hd rfl k) k
theorem J.i2b {x : Int32} (hd : decode M.2.1 pc = .ok (.i2b, 1))
    (k : J d M Post C S (pc + 1) ls (.int x.toInt8.toInt32 :: st) T I c sl) : J d M Post C S pc ls (.int x :: st) T I c sl :=
  J.lift (st' := (.int x.toInt8.toInt32 :: st)) (fun hv _ => vs_c trivial (vs_t hv)) (fun p l e R s m args below meth cd ab A ad H locs Q LS F hl k => lv_i2b F.1 F.2.1 hd rfl k) k
theorem J.i2s {x : Int32} (hd : decode M.2.1 pc = .ok (.i2s, 1))
    (k : J d M Post C S (pc + 1) ls (.int x.toInt16.toInt32 :: st) T I c sl) : J d M Post C S pc ls (.int x :: st) T I c sl :=
  J.lift (st' := (.int x.toInt16.toInt32 :: st)) (fun hv _ => vs_c trivial (vs_t hv)) (fun p l e R s m args below meth cd ab A ad H locs Q LS F hl k => lv_i2s F.1 F.2.1 hd rfl k) k
theorem J.i2l {x : Int32} (hd : decode M.2.1 pc = .ok (.i2l, 1))
    (k : J d M Post C S (pc + 1) ls (.long x.toInt64 :: st) T I c sl) : J d M Post C S pc ls (.int x :: st) T I c sl :=
  J.lift (st' := (.long x.toInt64 :: st)) (fun hv _ => vs_c trivial (vs_t hv)) (fun p l e R s m args below meth cd ab A ad H locs Q LS F hl k => lv_i2l F.1 F.2.1 hd rfl k) k
theorem J.ladd {x y : Int64} (hd : decode M.2.1 pc = .ok (.ladd, 1))
    (k : J d M Post C S (pc + 1) ls (.long (x + y) :: st) T I c sl) : J d M Post C S pc ls (.long y :: .long x :: st) T I c sl :=
  J.lift (st' := (.long (x + y) :: st)) (fun hv _ => vs_c trivial (vs_t (vs_t hv))) (fun p l e R s m args below meth cd ab A ad H locs Q LS F hl k => lv_ladd F.1 F.2.1 hd k) k
theorem J.lcmp {x y : Int64} (hd : decode M.2.1 pc = .ok (.lcmp, 1))
    (k : J d M Post C S (pc + 1) ls (.int (lg_cmp x y) :: st) T I c sl) : J d M Post C S pc ls (.long y :: .long x :: st) T I c sl :=
  J.lift (st' := (.int (lg_cmp x y) :: st)) (fun hv _ => vs_c trivial (vs_t (vs_t hv))) (fun p l e R s m args below meth cd ab A ad H locs Q LS F hl k => W.lcmp F.1 F.2.1 hd k) k
theorem J.dup {v : Value} (hd : decode M.2.1 pc = .ok (.dup, 1)) (hc : v.category = 1)
    (k : J d M Post C S (pc + 1) ls (v :: v :: st) T I c sl) : J d M Post C S pc ls (v :: st) T I c sl :=
  J.lift (st' := (v :: v :: st)) (fun hv _ => vs_c (vs_h hv) hv) (fun p l e R s m args below meth cd ab A ad H locs Q LS F hl k => lv_dup F.1 F.2.1 hd ((trv_cat ad v).trans hc) k) k
theorem J.dup2 {v w : Value} (hd : decode M.2.1 pc = .ok (.dup2, 1)) (hc : v.category = 1) (hc2 : w.category = 1)
    (k : J d M Post C S (pc + 1) ls (v :: w :: v :: w :: st) T I c sl) : J d M Post C S pc ls (v :: w :: st) T I c sl :=
  J.lift (st' := (v :: w :: v :: w :: st)) (fun hv _ => vs_c (vs_h hv) (vs_c (vs_h (vs_t hv)) hv)) (fun p l e R s m args below meth cd ab A ad H locs Q LS F hl k => lv_dup2_11 F.1 F.2.1 hd ((trv_cat ad v).trans hc) ((trv_cat ad w).trans hc2) k) k
theorem J.goto {off : Int} {tgt : Nat} (hd : decode M.2.1 pc = .ok (.goto off, 3)) (ht : (pc : Int) + off = (tgt : Int))
    (k : J d M Post C S tgt ls st T I c sl) : J d M Post C S pc ls st T I c sl :=
  J.lift (st' := st) (fun hv _ => hv) (fun p l e R s m args below meth cd ab A ad H locs Q LS F hl k => lv_goto F.1 F.2.1 hd ht k) k
theorem J.tableIn {dflt lo hi : Int} {offs : Array Int} {len : Nat} {x : Int32} {off : Int} {tgt : Nat} (hd : decode M.2.1 pc = .ok (.tableswitch dflt lo hi offs, len)) (h1 : ¬ x.toInt < lo) (h2 : ¬ hi < x.toInt) (ho : offs[(x.toInt - lo).toNat]? = some off) (ht : (pc : Int) + off = (tgt : Int))
    (k : J d M Post C S tgt ls st T I c sl) : J d M Post C S pc ls (.int x :: st) T I c sl :=
  J.lift (st' := st) (fun hv _ => vs_t hv) (fun p l e R s m args below meth cd ab A ad H locs Q LS F hl k => lv_tableIn F.1 F.2.1 hd h1 h2 ho ht k) k
theorem J.tableOut {dflt lo hi : Int} {offs : Array Int} {len : Nat} {x : Int32} {tgt : Nat} (hd : decode M.2.1 pc = .ok (.tableswitch dflt lo hi offs, len)) (h : x.toInt < lo ∨ hi < x.toInt) (ht : (pc : Int) + dflt = (tgt : Int))
    (k : J d M Post C S tgt ls st T I c sl) : J d M Post C S pc ls (.int x :: st) T I c sl :=
  J.lift (st' := st) (fun hv _ => vs_t hv) (fun p l e R s m args below meth cd ab A ad H locs Q LS F hl k => lv_tableOut F.1 F.2.1 hd h ht k) k
theorem J.if_eq {x : Int32} {off : Int} {tgt : Nat} (hd : decode M.2.1 pc = .ok (.ifCond .eq off, 3)) (ht : (pc : Int) + off = (tgt : Int))
    (kt : x = 0 → J d M Post C S tgt ls st T I c sl) (kf : ¬ x = 0 → J d M Post C S (pc + 3) ls st T I c sl) : J d M Post C S pc ls (.int x :: st) T I c sl := by
  intro p l e s m args below meth cd G ab T0 ad0 ad ca H locs LS F D hl hv
  exact lv_if_eq F.1 F.2.1 hd ht (fun h => kt h p l e s m args below meth cd G ab T0 ad0 ad ca H locs LS F D hl (vs_t hv)) (fun h => kf h p l e s m args below meth cd G ab T0 ad0 ad ca H locs LS F D hl (vs_t hv))
theorem J.icmp_eq {x y : Int32} {off : Int} {tgt : Nat} (hd : decode M.2.1 pc = .ok (.if_icmp .eq off, 3)) (ht : (pc : Int) + off = (tgt : Int))
    (kt : x = y → J d M Post C S tgt ls st T I c sl) (kf : ¬ x = y → J d M Post C S (pc + 3) ls st T I c sl) : J d M Post C S pc ls (.int y :: .int x :: st) T I c sl := by
  intro p l e s m args below meth cd G ab T0 ad0 ad ca H locs LS F D hl hv
  exact lv_icmp_eq F.1 F.2.1 hd ht (fun h => kt h p l e s m args below meth cd G ab T0 ad0 ad ca H locs LS F D hl (vs_t (vs_t hv))) (fun h => kf h p l e s m args below meth cd G ab T0 ad0 ad ca H locs LS F D hl (vs_t (vs_t hv)))
theorem J.if_ne {x : Int32} {off : Int} {tgt : Nat} (hd : decode M.2.1 pc = .ok (.ifCond .ne off, 3)) (ht : (pc : Int) + off = (tgt : Int))
    (kt : ¬ x = 0 → J d M Post C S tgt ls st T I c sl) (kf : x = 0 → J d M Post C S (pc + 3) ls st T I c sl) : J d M Post C S pc ls (.int x :: st) T I c sl := by
  intro p l e s m args below meth cd G ab T0 ad0 ad ca H locs LS F D hl hv
  exact lv_if_ne F.1 F.2.1 hd ht (fun h => kt h p l e s m args below meth cd G ab T0 ad0 ad ca H locs LS F D hl (vs_t hv)) (fun h => kf h p l e s m args below meth cd G ab T0 ad0 ad ca H locs LS F D hl (vs_t hv))
theorem J.icmp_ne {x y : Int32} {off : Int} {tgt : Nat} (hd : decode M.2.1 pc = .ok (.if_icmp .ne off, 3)) (ht : (pc : Int) + off = (tgt : Int))
    (kt : ¬ x = y → J d M Post C S tgt ls st T I c sl) (kf : x = y → J d M Post C S (pc + 3) ls st T I c sl) : J d M Post C S pc ls (.int y :: .int x :: st) T I c sl := by
  intro p l e s m args below meth cd G ab T0 ad0 ad ca H locs LS F D hl hv
  exact lv_icmp_ne F.1 F.2.1 hd ht (fun h => kt h p l e s m args below meth cd G ab T0 ad0 ad ca H locs LS F D hl (vs_t (vs_t hv))) (fun h => kf h p l e s m args below meth cd G ab T0 ad0 ad ca H locs LS F D hl (vs_t (vs_t hv)))
theorem J.if_lt {x : Int32} {off : Int} {tgt : Nat} (hd : decode M.2.1 pc = .ok (.ifCond .lt off, 3)) (ht : (pc : Int) + off = (tgt : Int))
    (kt : x < 0 → J d M Post C S tgt ls st T I c sl) (kf : ¬ x < 0 → J d M Post C S (pc + 3) ls st T I c sl) : J d M Post C S pc ls (.int x :: st) T I c sl := by
  intro p l e s m args below meth cd G ab T0 ad0 ad ca H locs LS F D hl hv
  exact lv_if_lt F.1 F.2.1 hd ht (fun h => kt h p l e s m args below meth cd G ab T0 ad0 ad ca H locs LS F D hl (vs_t hv)) (fun h => kf h p l e s m args below meth cd G ab T0 ad0 ad ca H locs LS F D hl (vs_t hv))
theorem J.icmp_lt {x y : Int32} {off : Int} {tgt : Nat} (hd : decode M.2.1 pc = .ok (.if_icmp .lt off, 3)) (ht : (pc : Int) + off = (tgt : Int))
    (kt : x < y → J d M Post C S tgt ls st T I c sl) (kf : ¬ x < y → J d M Post C S (pc + 3) ls st T I c sl) : J d M Post C S pc ls (.int y :: .int x :: st) T I c sl := by
  intro p l e s m args below meth cd G ab T0 ad0 ad ca H locs LS F D hl hv
  exact lv_icmp_lt F.1 F.2.1 hd ht (fun h => kt h p l e s m args below meth cd G ab T0 ad0 ad ca H locs LS F D hl (vs_t (vs_t hv))) (fun h => kf h p l e s m args below meth cd G ab T0 ad0 ad ca H locs LS F D hl (vs_t (vs_t hv)))
theorem J.if_ge {x : Int32} {off : Int} {tgt : Nat} (hd : decode M.2.1 pc = .ok (.ifCond .ge off, 3)) (ht : (pc : Int) + off = (tgt : Int))
    (kt : 0 ≤ x → J d M Post C S tgt ls st T I c sl) (kf : ¬ 0 ≤ x → J d M Post C S (pc + 3) ls st T I c sl) : J d M Post C S pc ls (.int x :: st) T I c sl := by
  intro p l e s m args below meth cd G ab T0 ad0 ad ca H locs LS F D hl hv
  exact lv_if_ge F.1 F.2.1 hd ht (fun h => kt h p l e s m args below meth cd G ab T0 ad0 ad ca H locs LS F D hl (vs_t hv)) (fun h => kf h p l e s m args below meth cd G ab T0 ad0 ad ca H locs LS F D hl (vs_t hv))
theorem J.icmp_ge {x y : Int32} {off : Int} {tgt : Nat} (hd : decode M.2.1 pc = .ok (.if_icmp .ge off, 3)) (ht : (pc : Int) + off = (tgt : Int))
    (kt : y ≤ x → J d M Post C S tgt ls st T I c sl) (kf : ¬ y ≤ x → J d M Post C S (pc + 3) ls st T I c sl) : J d M Post C S pc ls (.int y :: .int x :: st) T I c sl := by
  intro p l e s m args below meth cd G ab T0 ad0 ad ca H locs LS F D hl hv
  exact lv_icmp_ge F.1 F.2.1 hd ht (fun h => kt h p l e s m args below meth cd G ab T0 ad0 ad ca H locs LS F D hl (vs_t (vs_t hv))) (fun h => kf h p l e s m args below meth cd G ab T0 ad0 ad ca H locs LS F D hl (vs_t (vs_t hv)))
theorem J.if_gt {x : Int32} {off : Int} {tgt : Nat} (hd : decode M.2.1 pc = .ok (.ifCond .gt off, 3)) (ht : (pc : Int) + off = (tgt : Int))
    (kt : 0 < x → J d M Post C S tgt ls st T I c sl) (kf : ¬ 0 < x → J d M Post C S (pc + 3) ls st T I c sl) : J d M Post C S pc ls (.int x :: st) T I c sl := by
  intro p l e s m args below meth cd G ab T0 ad0 ad ca H locs LS F D hl hv
  exact lv_if_gt F.1 F.2.1 hd ht (fun h => kt h p l e s m args below meth cd G ab T0 ad0 ad ca H locs LS F D hl (vs_t hv)) (fun h => kf h p l e s m args below meth cd G ab T0 ad0 ad ca H locs LS F D hl (vs_t hv))
theorem J.icmp_gt {x y : Int32} {off : Int} {tgt : Nat} (hd : decode M.2.1 pc = .ok (.if_icmp .gt off, 3)) (ht : (pc : Int) + off = (tgt : Int))
    (kt : y < x → J d M Post C S tgt ls st T I c sl) (kf : ¬ y < x → J d M Post C S (pc + 3) ls st T I c sl) : J d M Post C S pc ls (.int y :: .int x :: st) T I c sl := by
  intro p l e s m args below meth cd G ab T0 ad0 ad ca H locs LS F D hl hv
  exact lv_icmp_gt F.1 F.2.1 hd ht (fun h => kt h p l e s m args below meth cd G ab T0 ad0 ad ca H locs LS F D hl (vs_t (vs_t hv))) (fun h => kf h p l e s m args below meth cd G ab T0 ad0 ad ca H locs LS F D hl (vs_t (vs_t hv)))
theorem J.if_le {x : Int32} {off : Int} {tgt : Nat} (hd : decode M.2.1 pc = .ok (.ifCond .le off, 3)) (ht : (pc : Int) + off = (tgt : Int))
    (kt : x ≤ 0 → J d M Post C S tgt ls st T I c sl) (kf : ¬ x ≤ 0 → J d M Post C S (pc + 3) ls st T I c sl) : J d M Post C S pc ls (.int x :: st) T I c sl := by
  intro p l e s m args below meth cd G ab T0 ad0 ad ca H locs LS F D hl hv
  exact lv_if_le F.1 F.2.1 hd ht (fun h => kt h p l e s m args below meth cd G ab T0 ad0 ad ca H locs LS F D hl (vs_t hv)) (fun h => kf h p l e s m args below meth cd G ab T0 ad0 ad ca H locs LS F D hl (vs_t hv))
theorem J.icmp_le {x y : Int32} {off : Int} {tgt : Nat} (hd : decode M.2.1 pc = .ok (.if_icmp .le off, 3)) (ht : (pc : Int) + off = (tgt : Int))
    (kt : x ≤ y → J d M Post C S tgt ls st T I c sl) (kf : ¬ x ≤ y → J d M Post C S (pc + 3) ls st T I c sl) : J d M Post C S pc ls (.int y :: .int x :: st) T I c sl := by
  intro p l e s m args below meth cd G ab T0 ad0 ad ca H locs LS F D hl hv
  exact lv_icmp_le F.1 F.2.1 hd ht (fun h => kt h p l e s m args below meth cd G ab T0 ad0 ad ca H locs LS F D hl (vs_t (vs_t hv))) (fun h => kf h p l e s m args below meth cd G ab T0 ad0 ad ca H locs LS F D hl (vs_t (vs_t hv)))
end JR
end
section
/-! locals -/
def plv (ad : Nat → Nat) (ls : List (Option Value)) : List (Nat × Value) := (List.range ls.length).filterMap (fun j => (ls[j]?.join).map (fun v => (j, trv ad v)))
theorem plv_mem {ad : Nat → Nat} {ls : List (Option Value)} {q : Nat × Value} : q ∈ plv ad ls ↔ ∃ v, ls[q.1]? = some (some v) ∧ q.2 = trv ad v := by
  unfold plv
  rw [List.mem_filterMap]
  constructor
  · rintro ⟨j, hj, h⟩
    cases hx : ls[j]? with
    | none => rw [hx] at h; simp at h
    | some o =>
      cases o with
      | none => rw [hx] at h; simp at h
      | some v =>
        rw [hx] at h
        simp at h
        subst h
        exact ⟨v, hx, rfl⟩
  · rintro ⟨v, h1, h2⟩
    refine ⟨q.1, List.mem_range.mpr (List.getElem?_eq_some_iff.mp h1).1, ?_⟩
    rw [h1]
    simp [← h2]
theorem lvO.toHas {LS : Array Slot} {nL n : Nat} {ls : List (Option Value)} {ad : Nat → Nat} (h : lvO LS nL ls ad n) : lv_has LS nL (plv ad ls) := by
  refine ⟨h.1, h.2.1, fun q hq => ?_⟩
  obtain ⟨v, h1, h2⟩ := plv_mem.mp hq
  rw [h2]
  exact (h.2.2.2 _ _ h1).1
theorem lvO.ofHas {LS LS' : Array Slot} {nL n i : Nat} {ls : List (Option Value)} {ad : Nat → Nat} {v : Value} (h : lvO LS nL ls ad n) (hi : i < ls.length) (hc : v.category = 1) (hv : vOK n v) (h' : lv_has LS' nL ((i, trv ad v) :: (plv ad ls).filter (fun q => !(q.1 == i) && !(q.1 + 1 == i && q.2.category == 2)))) : lvO LS' nL (ls.set i (some v)) ad n := by
  refine ⟨h'.1, h'.2.1, by rw [List.length_set]; exact h.2.2.1, fun j w hj => ?_⟩
  rw [List.getElem?_set] at hj
  by_cases e : i = j
  · rw [if_pos e, if_pos (by omega)] at hj
    have : w = v := (Option.some.inj (Option.some.inj hj)).symm
    subst this
    subst e
    exact ⟨h'.2.2 _ List.mem_cons_self, hc, hv⟩
  · rw [if_neg e] at hj
    have h1 := h.2.2.2 j w hj
    refine ⟨h'.2.2 (j, trv ad w) (List.mem_cons_of_mem _ (List.mem_filter.mpr ⟨plv_mem.mpr ⟨w, hj, rfl⟩, ?_⟩)), h1.2⟩
    have e2 : (j == i) = false := by simp; omega
    have e3 : (trv ad w).category = 1 := (trv_cat ad w).trans h1.2.1
    simp [e2, e3]
theorem lvO.ad {LS : Array Slot} {nL n n' : Nat} {ls : List (Option Value)} {ad ad' : Nat → Nat} (h : lvO LS nL ls ad n) (hn : n ≤ n') (ha : ∀ k, k < n → ad' k = ad k) : lvO LS nL ls ad' n' := by
  refine ⟨h.1, h.2.1, h.2.2.1, fun i v hi => ?_⟩
  obtain ⟨h1, h2, h3⟩ := h.2.2.2 i v hi
  exact ⟨by rw [trv_eq ha h3]; exact h1, h2, h3.mono hn⟩
section JL
variable {d : Nat} {M : Mth} {Post : Pst} {C S pc c sl : Nat} {ls ls' : List (Option Value)} {st : List Value} {T : Topo} {I : IM}
theorem J.istore_n {n : Fin 4} {i : Nat} {x : Int32} (hd : decode M.2.1 pc = .ok (.istore_n n, 1)) (hi : (n : Nat) = i) (hn : Nat.ble (i + 1) ls.length = true) (hs : ls.set i (some (.int x)) = ls')
    (k : J d M Post C S (pc + 1) ls' st T I c sl) : J d M Post C S pc ls (.int x :: st) T I c sl := by
  subst hs
  intro p l e s m args below meth cd G ab T0 ad0 ad ca H locs LS F D hl hv
  have hn' : i < ls.length := Nat.le_of_ble_eq_true hn
  exact lv_istore_n F.1 F.2.1 hd hi hl.toHas (by rw [← hl.2.2.1]; exact hn') rfl (fun LS' h' => k p l e s m args below meth cd G ab T0 ad0 ad ca H locs LS' F D (hl.ofHas (v := .int x) hn' rfl trivial h') (vs_t hv))
theorem J.istore {i : Nat} {x : Int32} (hd : decode M.2.1 pc = .ok (.istore i, 2)) (hn : Nat.ble (i + 1) ls.length = true) (hs : ls.set i (some (.int x)) = ls')
    (k : J d M Post C S (pc + 2) ls' st T I c sl) : J d M Post C S pc ls (.int x :: st) T I c sl := by
  subst hs
  intro p l e s m args below meth cd G ab T0 ad0 ad ca H locs LS F D hl hv
  have hn' : i < ls.length := Nat.le_of_ble_eq_true hn
  exact lv_istore F.1 F.2.1 hd hl.toHas (by rw [← hl.2.2.1]; exact hn') rfl (fun LS' h' => k p l e s m args below meth cd G ab T0 ad0 ad ca H locs LS' F D (hl.ofHas (v := .int x) hn' rfl trivial h') (vs_t hv))
theorem J.astore_n {n : Fin 4} {i : Nat} {x : Nat} (hd : decode M.2.1 pc = .ok (.astore_n n, 1)) (hi : (n : Nat) = i) (hn : Nat.ble (i + 1) ls.length = true) (hs : ls.set i (some (.ref x)) = ls')
    (k : J d M Post C S (pc + 1) ls' st T I c sl) : J d M Post C S pc ls (.ref x :: st) T I c sl := by
  subst hs
  intro p l e s m args below meth cd G ab T0 ad0 ad ca H locs LS F D hl hv
  have hn' : i < ls.length := Nat.le_of_ble_eq_true hn
  exact lv_astore_n F.1 F.2.1 hd hi hl.toHas (by rw [← hl.2.2.1]; exact hn') rfl (fun LS' h' => k p l e s m args below meth cd G ab T0 ad0 ad ca H locs LS' F D (hl.ofHas (v := .ref x) hn' rfl (vs_h hv) h') (vs_t hv))
theorem J.astore {i : Nat} {x : Nat} (hd : decode M.2.1 pc = .ok (.astore i, 2)) (hn : Nat.ble (i + 1) ls.length = true) (hs : ls.set i (some (.ref x)) = ls')
    (k : J d M Post C S (pc + 2) ls' st T I c sl) : J d M Post C S pc ls (.ref x :: st) T I c sl := by
  subst hs
  intro p l e s m args below meth cd G ab T0 ad0 ad ca H locs LS F D hl hv
  have hn' : i < ls.length := Nat.le_of_ble_eq_true hn
  exact lv_astore F.1 F.2.1 hd hl.toHas (by rw [← hl.2.2.1]; exact hn') rfl (fun LS' h' => k p l e s m args below meth cd G ab T0 ad0 ad ca H locs LS' F D (hl.ofHas (v := .ref x) hn' rfl (vs_h hv) h') (vs_t hv))
theorem J.iinc {i : Nat} {n : Int} {x v : Int32} (hd : decode M.2.1 pc = .ok (.iinc i n, 3)) (hx : ls[i]? = some (some (.int x))) (hv : x + Int32.ofInt n = v) (hs : ls.set i (some (.int v)) = ls')
    (k : J d M Post C S (pc + 3) ls' st T I c sl) : J d M Post C S pc ls st T I c sl := by
  subst hs
  intro p l e s m args below meth cd G ab T0 ad0 ad ca H locs LS F D hl hst
  have hn' : i < ls.length := (List.getElem?_eq_some_iff.mp hx).1
  obtain ⟨q, hq⟩ := List.getElem?_of_mem (plv_mem (ad := ad) (ls := ls) (q := (i, .int x)) |>.mpr ⟨.int x, hx, rfl⟩)
  exact lv_iinc F.1 F.2.1 hd hl.toHas hq hv (by rw [← hl.2.2.1]; exact hn') rfl (fun LS' h' => k p l e s m args below meth cd G ab T0 ad0 ad ca H locs LS' F D (hl.ofHas (v := .int v) hn' rfl trivial h') hst)
end JL
end
section
/-! the classes of the worlds -/
theorem wsIn0 : ∀ w ∈ u_ws RX0 TX0 5, w ∈ TBg := by
  have h : (u_ws RX0 TX0 5).all (fun w => decide (w ∈ lw_tbl) && goodWord w) = true := by decide +kernel
  intro w hw
  have h1 := List.all_eq_true.mp h w hw
  simp only [Bool.and_eq_true, decide_eq_true_eq] at h1
  exact TBg_mem h1.1 h1.2
theorem wsIn1 : ∀ w ∈ u_ws RX1 TX1 3, w ∈ TBg := by
  have h : (u_ws RX1 TX1 3).all (fun w => decide (w ∈ lw_tbl) && goodWord w) = true := by decide +kernel
  intro w hw
  have h1 := List.all_eq_true.mp h w hw
  simp only [Bool.and_eq_true, decide_eq_true_eq] at h1
  exact TBg_mem h1.1 h1.2
theorem wsIn2 : ∀ w ∈ u_ws RX2 TX2 6, w ∈ TBg := by
  have h : (u_ws RX2 TX2 6).all (fun w => decide (w ∈ lw_tbl) && goodWord w) = true := by decide +kernel
  intro w hw
  have h1 := List.all_eq_true.mp h w hw
  simp only [Bool.and_eq_true, decide_eq_true_eq] at h1
  exact TBg_mem h1.1 h1.2
theorem wsIn3 : ∀ w ∈ u_ws RX3 TX3 13, w ∈ TBg := by
  have h : (u_ws RX3 TX3 13).all (fun w => decide (w ∈ lw_tbl) && goodWord w) = true := by decide +kernel
  intro w hw
  have h1 := List.all_eq_true.mp h w hw
  simp only [Bool.and_eq_true, decide_eq_true_eq] at h1
  exact TBg_mem h1.1 h1.2
theorem wsIn4 : ∀ w ∈ u_ws RX4 TX4 8, w ∈ TBg := by
  have h : (u_ws RX4 TX4 8).all (fun w => decide (w ∈ lw_tbl) && goodWord w) = true := by decide +kernel
  intro w hw
  have h1 := List.all_eq_true.mp h w hw
  simp only [Bool.and_eq_true, decide_eq_true_eq] at h1
  exact TBg_mem h1.1 h1.2
theorem wsIn5 : ∀ w ∈ u_ws RX5 TX5 6, w ∈ TBg := by
  have h : (u_ws RX5 TX5 6).all (fun w => decide (w ∈ lw_tbl) && goodWord w) = true := by decide +kernel
  intro w hw
  have h1 := List.all_eq_true.mp h w hw
  simp only [Bool.and_eq_true, decide_eq_true_eq] at h1
  exact TBg_mem h1.1 h1.2
theorem wsIn6 : ∀ w ∈ u_ws RX6 TX6 5, w ∈ TBg := by
  have h : (u_ws RX6 TX6 5).all (fun w => decide (w ∈ lw_tbl) && goodWord w) = true := by decide +kernel
  intro w hw
  have h1 := List.all_eq_true.mp h w hw
  simp only [Bool.and_eq_true, decide_eq_true_eq] at h1
  exact TBg_mem h1.1 h1.2
theorem wsIn7 : ∀ w ∈ u_ws RX7 TX7 3, w ∈ TBg := by
  have h : (u_ws RX7 TX7 3).all (fun w => decide (w ∈ lw_tbl) && goodWord w) = true := by decide +kernel
  intro w hw
  have h1 := List.all_eq_true.mp h w hw
  simp only [Bool.and_eq_true, decide_eq_true_eq] at h1
  exact TBg_mem h1.1 h1.2
theorem wsIn8 : ∀ w ∈ u_ws RX8 TX8 19, w ∈ TBg := by
  have h : (u_ws RX8 TX8 19).all (fun w => decide (w ∈ lw_tbl) && goodWord w) = true := by decide +kernel
  intro w hw
  have h1 := List.all_eq_true.mp h w hw
  simp only [Bool.and_eq_true, decide_eq_true_eq] at h1
  exact TBg_mem h1.1 h1.2
theorem wsIn9 : ∀ w ∈ u_ws RX9 TX9 2, w ∈ TBg := by
  have h : (u_ws RX9 TX9 2).all (fun w => decide (w ∈ lw_tbl) && goodWord w) = true := by decide +kernel
  intro w hw
  have h1 := List.all_eq_true.mp h w hw
  simp only [Bool.and_eq_true, decide_eq_true_eq] at h1
  exact TBg_mem h1.1 h1.2
theorem wsIn10 : ∀ w ∈ u_ws RX10 TX10 5, w ∈ TBg := by
  have h : (u_ws RX10 TX10 5).all (fun w => decide (w ∈ lw_tbl) && goodWord w) = true := by decide +kernel
  intro w hw
  have h1 := List.all_eq_true.mp h w hw
  simp only [Bool.and_eq_true, decide_eq_true_eq] at h1
  exact TBg_mem h1.1 h1.2
theorem wsIn11 : ∀ w ∈ u_ws RX11 TX11 8, w ∈ TBg := by
  have h : (u_ws RX11 TX11 8).all (fun w => decide (w ∈ lw_tbl) && goodWord w) = true := by decide +kernel
  intro w hw
  have h1 := List.all_eq_true.mp h w hw
  simp only [Bool.and_eq_true, decide_eq_true_eq] at h1
  exact TBg_mem h1.1 h1.2
theorem wsIn12 : ∀ w ∈ u_ws RX12 TX12 67, w ∈ TBg := by
  have h : (u_ws RX12 TX12 67).all (fun w => decide (w ∈ lw_tbl) && goodWord w) = true := by decide +kernel
  intro w hw
  have h1 := List.all_eq_true.mp h w hw
  simp only [Bool.and_eq_true, decide_eq_true_eq] at h1
  exact TBg_mem h1.1 h1.2
def kOK (κ : Nat) : Prop := ∃ (C : String) (F : u_T) (N : Nat) (ty : Nat → FieldType), vwCl[κ]? = some (C, F, N) ∧ (∀ k, k < N → parseFieldDescriptor (F k).2.2.1 = some (ty k)) ∧ (∀ a, a < N → ∀ b, b < N → a ≠ b → (F a).2.1 ≠ (F b).2.1) ∧ (∀ w ∈ u_ws C F N, w ∈ TBg) ∧ nF κ = N ∧ (∀ j, j < N → defaultValue (ty j) = if rF κ j = true then Value.null else .int 0)
theorem kOK0 : kOK 0 := ⟨RX0, TX0, 5, tyX0, rfl, tyX0_ok, nmX0, wsIn0, rfl, by decide +kernel⟩
theorem kOK1 : kOK 1 := ⟨RX1, TX1, 3, tyX1, rfl, tyX1_ok, nmX1, wsIn1, rfl, by decide +kernel⟩
theorem kOK2 : kOK 2 := ⟨RX2, TX2, 6, tyX2, rfl, tyX2_ok, nmX2, wsIn2, rfl, by decide +kernel⟩
theorem kOK3 : kOK 3 := ⟨RX3, TX3, 13, tyX3, rfl, tyX3_ok, nmX3, wsIn3, rfl, by decide +kernel⟩
theorem kOK4 : kOK 4 := ⟨RX4, TX4, 8, tyX4, rfl, tyX4_ok, nmX4, wsIn4, rfl, by decide +kernel⟩
theorem kOK5 : kOK 5 := ⟨RX5, TX5, 6, tyX5, rfl, tyX5_ok, nmX5, wsIn5, rfl, by decide +kernel⟩
theorem kOK6 : kOK 6 := ⟨RX6, TX6, 5, tyX6, rfl, tyX6_ok, nmX6, wsIn6, rfl, by decide +kernel⟩
theorem kOK7 : kOK 7 := ⟨RX7, TX7, 3, tyX7, rfl, tyX7_ok, nmX7, wsIn7, rfl, by decide +kernel⟩
theorem kOK8 : kOK 8 := ⟨RX8, TX8, 19, tyX8, rfl, tyX8_ok, nmX8, wsIn8, rfl, by decide +kernel⟩
theorem kOK9 : kOK 9 := ⟨RX9, TX9, 2, tyX9, rfl, tyX9_ok, nmX9, wsIn9, rfl, by decide +kernel⟩
theorem kOK10 : kOK 10 := ⟨RX10, TX10, 5, tyX10, rfl, tyX10_ok, nmX10, wsIn10, rfl, by decide +kernel⟩
theorem kOK11 : kOK 11 := ⟨RX11, TX11, 8, tyX11, rfl, tyX11_ok, nmX11, wsIn11, rfl, by decide +kernel⟩
theorem kOK12 : kOK 12 := ⟨RX12, TX12, 67, tyX12, rfl, tyX12_ok, nmX12, wsIn12, rfl, by decide +kernel⟩
theorem kOK_all : ∀ κ, κ < 13 → kOK κ := by
  intro κ h
  match κ, h with
  | 0, _ => exact kOK0
  | 1, _ => exact kOK1
  | 2, _ => exact kOK2
  | 3, _ => exact kOK3
  | 4, _ => exact kOK4
  | 5, _ => exact kOK5
  | 6, _ => exact kOK6
  | 7, _ => exact kOK7
  | 8, _ => exact kOK8
  | 9, _ => exact kOK9
  | 10, _ => exact kOK10
  | 11, _ => exact kOK11
  | 12, _ => exact kOK12
  | n + 13, h => omega
theorem vwCl_lt {κ : Nat} {q : vw_C} (h : vwCl[κ]? = some q) : κ < 13 := (List.getElem?_eq_some_iff.mp h).1
/-- field j of kind κ is what number idx of class own's pool links to; whether it is final; its type -/
def fLk (own : String) (idx κ j : Nat) (fin : Bool) (ty : FieldType) : Prop := ∃ q : vw_C, vwCl[κ]? = some q ∧ j < q.2.2 ∧ Cond.fieldLink own idx (q.2.1 j).1 (q.2.1 j).2.1 (q.2.1 j).2.2.1 ∈ TBg ∧ (q.2.1 j).2.2.2 = fin ∧ parseFieldDescriptor (q.2.1 j).2.2.1 = some ty ∧ (fin = true → (q.2.1 j).1 = own)
end
section
/-! memory: reads and writes -/
def setR (T : Topo) (k j r : Nat) : Topo := (T.1, T.2.1, T.2.2.1, fun a b => if a = k ∧ b = j then some r else T.2.2.2 a b)
theorem setR_N (T : Topo) (k j r : Nat) : tN (setR T k j r) = tN T := rfl
theorem setR_K (T : Topo) (k j r a : Nat) : tK (setR T k j r) a = tK T a := rfl
theorem setR_L (T : Topo) (k j r a : Nat) : tL (setR T k j r) a = tL T a := rfl
theorem setR_R (T : Topo) (k j r a b : Nat) : tR (setR T k j r) a b = if a = k ∧ b = j then some r else tR T a b := rfl
def newT (T : Topo) (κ N : Nat) : Topo := (T.1 + 1, va_up T.2.1 T.1 κ, va_up T.2.2.1 T.1 N, va_up T.2.2.2 T.1 (fun _ => none))
def newI (I : IM) (n : Nat) : IM := va_up I n (fun _ => 0)
theorem cE_obj {ad : Nat → Nat} {ca : Nat → ClassId} {T : Topo} {I : IM} {k κ : Nat} (h : tK T k = κ) (hκ : κ < 13) : cE ad ca T I k = .inr (κ, (List.range (nF κ)).map (fv ad T I k)) := by
  subst h; simp only [cE, hκ, if_true]
theorem cE_int {ad : Nat → Nat} {ca : Nat → ClassId} {T : Topo} {I : IM} {k : Nat} (h : tK T k = 13 ∨ tK T k = 14) : cE ad ca T I k = .inl (ca k, tL T k, .inl (I k)) := by
  have h1 : ¬ tK T k < 13 := by omega
  have h2 : tK T k < 15 := by omega
  simp only [cE, h1, h2, if_true, if_false]
theorem cE_ref {ad : Nat → Nat} {ca : Nat → ClassId} {T : Topo} {I : IM} {k : Nat} (h : 15 ≤ tK T k) : cE ad ca T I k = .inl (ca k, tL T k, .inr (.inr (.inr (.inr (fun j => (tR T k j).map ad))))) := by
  have h1 : ¬ tK T k < 13 := by omega
  have h2 : ¬ tK T k < 15 := by omega
  simp only [cE, h1, h2, if_false]
theorem fs_at {ad : Nat → Nat} {T : Topo} {I : IM} {k j N : Nat} (h : j < N) : ((List.range N).map (fv ad T I k))[j]? = some (fv ad T I k j) := by simp [h]
theorem up2_ne {I : IM} {k j a : Nat} {v : Int32} (h : a ≠ k) : up2 I k j v a = I a := if_neg h
theorem up2_eq {I : IM} {k j : Nat} {v : Int32} : up2 I k j v k = upd (I k) j v := if_pos rfl
theorem cE_up2 {ad : Nat → Nat} {ca : Nat → ClassId} {T : Topo} {I : IM} {k j a : Nat} {v : Int32} (h : a ≠ k) : cE ad ca T (up2 I k j v) a = cE ad ca T I a := by
  have e : fv ad T (up2 I k j v) a = fv ad T I a := by funext i; simp only [fv, up2_ne h]
  simp only [cE, e, up2_ne h]
theorem fs_set {ad : Nat → Nat} {T : Topo} {I : IM} {k j N : Nat} {v : Int32} (hr : rF (tK T k) j = false) : ((List.range N).map (fv ad T I k)).set j (.int v) = (List.range N).map (fv ad T (up2 I k j v) k) := by
  apply List.ext_getElem?
  intro i
  rw [List.getElem?_set]
  by_cases hi : i < N
  · by_cases e : j = i
    · subst e
      simp [hi, fv, hr, up2_eq, upd]
    · have e' : ¬ i = j := fun h => e h.symm
      simp [hi, e, fv, up2_eq, upd, e']
  · by_cases e : j = i
    · subst e
      simp [hi]
    · simp [hi, e]
theorem fs_setR {ad : Nat → Nat} {T : Topo} {I : IM} {k j r N : Nat} (hr : rF (tK T k) j = true) : ((List.range N).map (fv ad T I k)).set j (.ref (ad r)) = (List.range N).map (fv ad (setR T k j r) I k) := by
  apply List.ext_getElem?
  intro i
  rw [List.getElem?_set]
  have hK : tK (setR T k j r) k = tK T k := rfl
  by_cases hi : i < N
  · by_cases e : j = i
    · subst e
      simp only [hK, fv, hr, setR_R, hi, List.length_map, List.length_range, if_true, List.getElem?_map, List.getElem?_range hi, Option.map_some, and_self, va_rf]
    · have e' : ¬ i = j := fun h => e h.symm
      simp only [hK, fv, setR_R, hi, e, e', and_false, if_false, List.getElem?_map, List.getElem?_range hi, Option.map_some]
  · by_cases e : j = i
    · subst e
      simp [hi]
    · simp [hi, e]
theorem cE_setR {ad : Nat → Nat} {ca : Nat → ClassId} {T : Topo} {I : IM} {k j r a : Nat} (h : a ≠ k) : cE ad ca (setR T k j r) I a = cE ad ca T I a := by
  have e : fv ad (setR T k j r) I a = fv ad T I a := by funext i; simp only [fv, setR_K, setR_R, h, false_and, if_false]
  simp only [cE, e, setR_K, setR_L, setR_R, h, false_and, if_false]
theorem rOK.setR {T : Topo} {k j r : Nat} (h : rOK T) (hr : r < tN T) : rOK (setR T k j r) := by
  intro a b q ha hq
  change (if a = k ∧ b = j then some r else T.2.2.2 a b) = some q at hq
  change q < tN T
  split at hq
  · cases hq; exact hr
  · exact h a b q ha hq
theorem aOK.one {G : va_G} {ca : Nat → ClassId} {T : Topo} {s : State} {k : Nat} {ty : FieldType} (hK : va_K G vwCl [] s) (h : aOK ca T s) (hk : k < tN T) (h13 : 13 ≤ tK T k) (ht : aTy (tK T k) = ty) : va_K G vwCl [(ca k, ty)] s := by
  refine ⟨hK.1, fun i q hq => ?_⟩
  have := h k hk h13
  rw [ht] at this
  match i, hq with
  | 0, hq => cases hq; exact this
  | i + 1, hq => simp at hq
section JM
variable {d : Nat} {M : Mth} {Post : Pst} {C S pc c sl : Nat} {ls : List (Option Value)} {st : List Value} {T : Topo} {I : IM}
theorem J.getI {idx κ j k : Nat} {fin : Bool} {ty : FieldType} (hd : decode M.2.1 pc = .ok (.getfield idx, 3)) (hf : fLk M.1.cls idx κ j fin ty) (hκ : tK T k = κ) (hr : rF κ j = false)
    (kk : J d M Post C S (pc + 3) ls (.int (I k j) :: st) T I c sl) : J d M Post C S pc ls (.ref k :: st) T I c sl := by
  intro p l e s m args below meth cd G ab T0 ad0 ad ca H locs LS F D hl hv
  obtain ⟨q, hc, hj, hlk, -⟩ := hf
  obtain ⟨CC, FF, NN, ty0, h1, h2, h3, h4, h5, -⟩ := kOK_all κ (vwCl_lt hc)
  obtain rfl : q = (CC, FF, NN) := Option.some.inj (hc.symm.trans h1)
  have hk : k < tN T := vs_h hv
  refine va_get F.1 F.2.1 F.2.2.2.2.1 (fun w hw => List.mem_cons_of_mem _ (h4 w hw)) F.2.2.2.1 D.2.2.1 D.1 k ((cW_at hk).trans (by rw [cE_obj hκ (vwCl_lt hc)])) hc j hj (hasCode F hlk) (fun _ h => h) (v := .int (I k j)) ?_ hd (kk p l e s m args below meth cd G ab T0 ad0 ad ca H locs LS F D hl (vs_c trivial (vs_t hv)))
  rw [fs_at (by rw [h5]; exact hj)]
  simp only [fv, hκ, hr, Bool.false_eq_true, if_false]
theorem J.getR {idx κ j k r : Nat} {fin : Bool} {ty : FieldType} (hd : decode M.2.1 pc = .ok (.getfield idx, 3)) (hf : fLk M.1.cls idx κ j fin ty) (hκ : tK T k = κ) (hr : rF κ j = true) (hR : tR T k j = some r)
    (kk : J d M Post C S (pc + 3) ls (.ref r :: st) T I c sl) : J d M Post C S pc ls (.ref k :: st) T I c sl := by
  intro p l e s m args below meth cd G ab T0 ad0 ad ca H locs LS F D hl hv
  obtain ⟨q, hc, hj, hlk, -⟩ := hf
  obtain ⟨CC, FF, NN, ty0, h1, h2, h3, h4, h5, -⟩ := kOK_all κ (vwCl_lt hc)
  obtain rfl : q = (CC, FF, NN) := Option.some.inj (hc.symm.trans h1)
  have hk : k < tN T := vs_h hv
  refine va_get F.1 F.2.1 F.2.2.2.2.1 (fun w hw => List.mem_cons_of_mem _ (h4 w hw)) F.2.2.2.1 D.2.2.1 D.1 k ((cW_at hk).trans (by rw [cE_obj hκ (vwCl_lt hc)])) hc j hj (hasCode F hlk) (fun _ h => h) (v := .ref (ad r)) ?_ hd (kk p l e s m args below meth cd G ab T0 ad0 ad ca H locs LS F D hl (vs_c (D.2.2.2.2.1 k j r hk hR) (vs_t hv)))
  rw [fs_at (by rw [h5]; exact hj)]
  simp only [fv, hκ, hr, if_true, hR, Option.map_some, va_rf]
theorem J.putX {idx κ j k : Nat} {v : Int32} {ty : FieldType} (hd : decode M.2.1 pc = .ok (.putfield idx, 3)) (hf : fLk M.1.cls idx κ j false ty) (hκ : tK T k = κ) (hr : rF κ j = false) (hn : narrow ty (.int v) = .int v) (hfit : fits ty (.int v) = true)
    (kk : J d M Post C S (pc + 3) ls st T (up2 I k j v) c sl) : J d M Post C S pc ls (.int v :: .ref k :: st) T I c sl := by
  intro p l e s m args below meth cd G ab T0 ad0 ad ca H locs LS F D hl hv
  obtain ⟨q, hc, hj, hlk, hfin, hty, -⟩ := hf
  obtain ⟨CC, FF, NN, ty0, h1, h2, h3, h4, h5, -⟩ := kOK_all κ (vwCl_lt hc)
  obtain rfl : q = (CC, FF, NN) := Option.some.inj (hc.symm.trans h1)
  have hk : k < tN T := vs_h (vs_t hv)
  have he : (cW ad ca T I)[k]? = some (ad k, .inr (κ, (List.range (nF κ)).map (fv ad T I k))) := (cW_at hk).trans (by rw [cE_obj hκ (vwCl_lt hc)])
  refine va_put F.1 F.2.1 F.2.2.2.2.1 (fun w hw => List.mem_cons_of_mem _ (h4 w hw)) ty0 h2 h3 F.2.2.2.1 D.2.2.1 D.1 D.2.1 D.2.2.2.2.2.1 k he hc j hj (hasCode F hlk) (fun _ h => h) hfin hty (v := .int v) hn hfit (by simp [h5]; exact hj) hd (fun H1 locs1 hP1 hD1 hS1 => ?_)
  have eW : (cW ad ca T I).set k (ad k, .inr (κ, ((List.range (nF κ)).map (fv ad T I k)).set j (.int v))) = cW ad ca T (up2 I k j v) :=
    cW_set hk rfl (by rw [cE_obj hκ (vwCl_lt hc), fs_set (by rw [hκ]; exact hr)]) (fun a ha => cE_up2 ha)
  rw [eW] at hP1 hD1
  exact kk p l e s m args below meth cd G ab T0 ad0 ad ca H1 locs1 LS F ⟨hP1, hD1, D.2.2.1, D.2.2.2.1, D.2.2.2.2.1, hS1, D.2.2.2.2.2.2⟩ hl (vs_t (vs_t hv))
theorem J.putI {idx κ j k : Nat} {v : Int32} (hd : decode M.2.1 pc = .ok (.putfield idx, 3)) (hf : fLk M.1.cls idx κ j false .int) (hκ : tK T k = κ) (hr : rF κ j = false)
    (kk : J d M Post C S (pc + 3) ls st T (up2 I k j v) c sl) : J d M Post C S pc ls (.int v :: .ref k :: st) T I c sl := J.putX hd hf hκ hr rfl rfl kk
theorem J.putZ {idx κ j k : Nat} {v : Int32} (hd : decode M.2.1 pc = .ok (.putfield idx, 3)) (hf : fLk M.1.cls idx κ j false .boolean) (hκ : tK T k = κ) (hr : rF κ j = false) (hz : v = 0 ∨ v = 1)
    (kk : J d M Post C S (pc + 3) ls st T (up2 I k j v) c sl) : J d M Post C S pc ls (.int v :: .ref k :: st) T I c sl := J.putX hd hf hκ hr (by rcases hz with rfl | rfl <;> rfl) (by rcases hz with rfl | rfl <;> rfl) kk
theorem J.putR {idx κ j k r : Nat} {fin : Bool} {ty : FieldType} (hd : decode M.2.1 pc = .ok (.putfield idx, 3)) (hf : fLk M.1.cls idx κ j fin ty) (hκ : tK T k = κ) (hr : rF κ j = true) (hty' : (∃ n, ty = .object n) ∨ ∃ t, ty = .array t) (hini : fin = true → M.1.name = "<init>")
    (kk : J d M Post C S (pc + 3) ls st (setR T k j r) I c sl) : J d M Post C S pc ls (.ref r :: .ref k :: st) T I c sl := by
  intro p l e s m args below meth cd G ab T0 ad0 ad ca H locs LS F D hl hv
  obtain ⟨q, hc, hj, hlk, hfin, hty, hown⟩ := hf
  obtain ⟨CC, FF, NN, ty0, h1, h2, h3, h4, h5, -⟩ := kOK_all κ (vwCl_lt hc)
  obtain rfl : q = (CC, FF, NN) := Option.some.inj (hc.symm.trans h1)
  have hk : k < tN T := vs_h (vs_t hv)
  have hrn : r < tN T := vs_h hv
  have he : (cW ad ca T I)[k]? = some (ad k, .inr (κ, (List.range (nF κ)).map (fv ad T I k))) := (cW_at hk).trans (by rw [cE_obj hκ (vwCl_lt hc)])
  have hn : narrow ty (.ref (ad r)) = .ref (ad r) := by rcases hty' with ⟨n, rfl⟩ | ⟨t, rfl⟩ <;> rfl
  have hfit : fits ty (.ref (ad r)) = true := by rcases hty' with ⟨n, rfl⟩ | ⟨t, rfl⟩ <;> rfl
  have go : ∀ (H1 : Heap) (locs1 : List Loc), va_P G vwCl ((cW ad ca T I).set k (ad k, .inr (κ, ((List.range (nF κ)).map (fv ad T I k)).set j (.ref (ad r))))) H1 → va_D (Fr T0 ad0 s.heap.size) ((cW ad ca T I).set k (ad k, .inr (κ, ((List.range (nF κ)).map (fv ad T I k)).set j (.ref (ad r))))) → va_S (Fr T0 ad0 s.heap.size) s.heap H1 locs1 → W p l e (Rm d C S) s m args below meth cd H1 locs1 c sl (MQ below (Qw G T0 ad0 s.heap.size Post) args s C S (Fr T0 ad0 s.heap.size)) (F0 m (pc + 3) LS (st.map (trv ad))) := by
    intro H1 locs1 hP1 hD1 hS1
    have eW : (cW ad ca T I).set k (ad k, .inr (κ, ((List.range (nF κ)).map (fv ad T I k)).set j (.ref (ad r)))) = cW ad ca (setR T k j r) I :=
      cW_set hk rfl (by rw [cE_obj (T := setR T k j r) hκ (vwCl_lt hc), fs_setR (by rw [hκ]; exact hr)]) (fun a ha => cE_setR ha)
    rw [eW] at hP1 hD1
    exact kk p l e s m args below meth cd G ab T0 ad0 ad ca H1 locs1 LS F ⟨hP1, hD1, D.2.2.1, D.2.2.2.1, D.2.2.2.2.1.setR hrn, hS1, D.2.2.2.2.2.2⟩ hl (vs_t (vs_t hv))
  cases fin with
  | false => exact va_put F.1 F.2.1 F.2.2.2.2.1 (fun w hw => List.mem_cons_of_mem _ (h4 w hw)) ty0 h2 h3 F.2.2.2.1 D.2.2.1 D.1 D.2.1 D.2.2.2.2.2.1 k he hc j hj (hasCode F hlk) (fun _ h => h) hfin hty hn hfit (by simp [h5]; exact hj) hd go
  | true => exact va_putF F.1 F.2.1 F.2.2.2.2.1 (fun w hw => List.mem_cons_of_mem _ (h4 w hw)) ty0 h2 h3 F.2.2.2.1 D.2.2.1 D.1 D.2.1 D.2.2.2.2.2.1 k he hc j hj (hasCode F hlk) (fun _ h => h) hfin (F.2.2.2.2.2.2.2.1.trans (hini rfl)) (hown rfl) hty hn hfit (by simp [h5]; exact hj) hd go
theorem J.iaload {k : Nat} {i : Int32} (hd : decode M.2.1 pc = .ok (.iaload, 1)) (hκ : tK T k = 13) (hin : vp_in i (tL T k))
    (kk : J d M Post C S (pc + 1) ls (.int (I k i.toNatClampNeg) :: st) T I c sl) : J d M Post C S pc ls (.int i :: .ref k :: st) T I c sl := by
  intro p l e s m args below meth cd G ab T0 ad0 ad ca H locs LS F D hl hv
  have hk : k < tN T := vs_h (vs_t hv)
  exact va_iald F.1 F.2.1 (D.2.2.2.1.one D.2.2.1 hk (by omega) (by rw [hκ]; rfl)) D.1 k 0 ((cW_at hk).trans (by rw [cE_int (by omega)])) rfl hin hd (kk p l e s m args below meth cd G ab T0 ad0 ad ca H locs LS F D hl (vs_c trivial (vs_t (vs_t hv))))
theorem J.baload {k : Nat} {i : Int32} (hd : decode M.2.1 pc = .ok (.baload, 1)) (hκ : tK T k = 14) (hin : vp_in i (tL T k))
    (kk : J d M Post C S (pc + 1) ls (.int (I k i.toNatClampNeg) :: st) T I c sl) : J d M Post C S pc ls (.int i :: .ref k :: st) T I c sl := by
  intro p l e s m args below meth cd G ab T0 ad0 ad ca H locs LS F D hl hv
  have hk : k < tN T := vs_h (vs_t hv)
  exact va_zald F.1 F.2.1 (D.2.2.2.1.one D.2.2.1 hk (by omega) (by rw [hκ]; rfl)) D.1 k 0 ((cW_at hk).trans (by rw [cE_int (by omega)])) rfl hin hd (kk p l e s m args below meth cd G ab T0 ad0 ad ca H locs LS F D hl (vs_c trivial (vs_t (vs_t hv))))
theorem J.aaload {k r : Nat} {i : Int32} {CC : String} (hd : decode M.2.1 pc = .ok (.aaload, 1)) (hκ : 15 ≤ tK T k) (hty : aTy (tK T k) = .object CC) (hin : vp_in i (tL T k)) (hR : tR T k i.toNatClampNeg = some r)
    (kk : J d M Post C S (pc + 1) ls (.ref r :: st) T I c sl) : J d M Post C S pc ls (.int i :: .ref k :: st) T I c sl := by
  intro p l e s m args below meth cd G ab T0 ad0 ad ca H locs LS F D hl hv
  have hk : k < tN T := vs_h (vs_t hv)
  refine va_aldq F.1 F.2.1 (D.2.2.2.1.one D.2.2.1 hk (by omega) hty) D.1 k 0 ((cW_at hk).trans (by rw [cE_ref hκ])) rfl hin hd ?_
  rw [hR]
  exact kk p l e s m args below meth cd G ab T0 ad0 ad ca H locs LS F D hl (vs_c (D.2.2.2.2.1 k _ r hk hR) (vs_t (vs_t hv)))
theorem J.alen {k : Nat} (hd : decode M.2.1 pc = .ok (.arraylength, 1)) (hκ : 13 ≤ tK T k)
    (kk : J d M Post C S (pc + 1) ls (.int (Int32.ofNat (tL T k)) :: st) T I c sl) : J d M Post C S pc ls (.ref k :: st) T I c sl := by
  intro p l e s m args below meth cd G ab T0 ad0 ad ca H locs LS F D hl hv
  have hk : k < tN T := vs_h hv
  have K1 := kk p l e s m args below meth cd G ab T0 ad0 ad ca H locs LS F D hl (vs_c trivial (vs_t hv))
  by_cases h15 : tK T k < 15
  · exact va_alen (x := (tL T k, .inl (I k))) F.1 F.2.1 (D.2.2.2.1.one D.2.2.1 hk hκ rfl) D.1 k 0 ((cW_at hk).trans (by rw [cE_int (by omega)])) rfl rfl hd K1
  · exact va_alen (x := (tL T k, .inr (.inr (.inr (.inr (fun j => (tR T k j).map ad)))))) F.1 F.2.1 (D.2.2.2.1.one D.2.2.1 hk hκ rfl) D.1 k 0 ((cW_at hk).trans (by rw [cE_ref (by omega)])) rfl rfl hd K1
theorem J.iastore {k : Nat} {i x : Int32} (hd : decode M.2.1 pc = .ok (.iastore, 1)) (hκ : tK T k = 13) (hin : vp_in i (tL T k))
    (kk : J d M Post C S (pc + 1) ls st T (up2 I k i.toNatClampNeg x) c sl) : J d M Post C S pc ls (.int x :: .int i :: .ref k :: st) T I c sl := by
  intro p l e s m args below meth cd G ab T0 ad0 ad ca H locs LS F D hl hv
  have hk : k < tN T := vs_h (vs_t (vs_t hv))
  refine va_iast F.1 F.2.1 (D.2.2.2.1.one D.2.2.1 hk (by omega) (by rw [hκ]; rfl)) D.1 D.2.1 D.2.2.2.2.2.1 k 0 ((cW_at hk).trans (by rw [cE_int (by omega)])) rfl hin hd (fun H1 locs1 hP1 hD1 hS1 => ?_)
  have eW : (cW ad ca T I).set k (ad k, .inl (ca k, tL T k, .inl (upd (I k) i.toNatClampNeg x))) = cW ad ca T (up2 I k i.toNatClampNeg x) :=
    cW_set hk rfl (by rw [cE_int (by omega), up2_eq]) (fun a ha => cE_up2 ha)
  rw [eW] at hP1 hD1
  exact kk p l e s m args below meth cd G ab T0 ad0 ad ca H1 locs1 LS F ⟨hP1, hD1, D.2.2.1, D.2.2.2.1, D.2.2.2.2.1, hS1, D.2.2.2.2.2.2⟩ hl (vs_t (vs_t (vs_t hv)))
theorem J.bastore {k : Nat} {i x : Int32} (hd : decode M.2.1 pc = .ok (.bastore, 1)) (hκ : tK T k = 14) (hin : vp_in i (tL T k)) (hz : x = 0 ∨ x = 1)
    (kk : J d M Post C S (pc + 1) ls st T (up2 I k i.toNatClampNeg x) c sl) : J d M Post C S pc ls (.int x :: .int i :: .ref k :: st) T I c sl := by
  intro p l e s m args below meth cd G ab T0 ad0 ad ca H locs LS F D hl hv
  have hk : k < tN T := vs_h (vs_t (vs_t hv))
  refine va_zast F.1 F.2.1 (D.2.2.2.1.one D.2.2.1 hk (by omega) (by rw [hκ]; rfl)) D.1 D.2.1 D.2.2.2.2.2.1 k 0 ((cW_at hk).trans (by rw [cE_int (by omega)])) rfl hin hd (fun H1 locs1 hP1 hD1 hS1 => ?_)
  have e0 : vp_nar .boolean x = x := by rcases hz with rfl | rfl <;> rfl
  rw [e0] at hP1 hD1
  have eW : (cW ad ca T I).set k (ad k, .inl (ca k, tL T k, .inl (upd (I k) i.toNatClampNeg x))) = cW ad ca T (up2 I k i.toNatClampNeg x) :=
    cW_set hk rfl (by rw [cE_int (by omega), up2_eq]) (fun a ha => cE_up2 ha)
  rw [eW] at hP1 hD1
  exact kk p l e s m args below meth cd G ab T0 ad0 ad ca H1 locs1 LS F ⟨hP1, hD1, D.2.2.1, D.2.2.2.1, D.2.2.2.2.1, hS1, D.2.2.2.2.2.2⟩ hl (vs_t (vs_t (vs_t hv)))
theorem J.aastore {k r κ : Nat} {i : Int32} {q : vw_C} (hd : decode M.2.1 pc = .ok (.aastore, 1)) (hκ : 15 ≤ tK T k) (hc : vwCl[κ]? = some q) (hty : aTy (tK T k) = .object q.1) (hr : tK T r = κ) (hin : vp_in i (tL T k))
    (kk : J d M Post C S (pc + 1) ls st (setR T k i.toNatClampNeg r) I c sl) : J d M Post C S pc ls (.ref r :: .int i :: .ref k :: st) T I c sl := by
  intro p l e s m args below meth cd G ab T0 ad0 ad ca H locs LS F D hl hv
  have hk : k < tN T := vs_h (vs_t (vs_t hv))
  have hrn : r < tN T := vs_h hv
  refine va_astq F.1 F.2.1 (D.2.2.2.1.one D.2.2.1 hk (by omega) hty) D.1 D.2.1 D.2.2.2.2.2.1 k 0 r κ ((cW_at hk).trans (by rw [cE_ref hκ])) rfl ((cW_at hrn).trans (by rw [cE_obj hr (vwCl_lt hc)])) hc hin hd (fun H1 locs1 hP1 hD1 hS1 => ?_)
  have eW : (cW ad ca T I).set k (ad k, .inl (ca k, tL T k, .inr (.inr (.inr (.inr (va_up (fun j => (tR T k j).map ad) i.toNatClampNeg (some (ad r)))))))) = cW ad ca (setR T k i.toNatClampNeg r) I := by
    refine cW_set hk rfl ?_ (fun a ha => cE_setR ha)
    rw [cE_ref (T := setR T k i.toNatClampNeg r) hκ]
    have : (va_up (fun j => (tR T k j).map ad) i.toNatClampNeg (some (ad r))) = (fun j => (tR (setR T k i.toNatClampNeg r) k j).map ad) := by
      funext j
      by_cases hj : j = i.toNatClampNeg
      · subst hj; simp [va_up, setR_R]
      · simp [va_up, setR_R, hj]
    rw [this, setR_L]
  rw [eW] at hP1 hD1
  exact kk p l e s m args below meth cd G ab T0 ad0 ad ca H1 locs1 LS F ⟨hP1, hD1, D.2.2.1, D.2.2.2.1, D.2.2.2.2.1.setR hrn, hS1, D.2.2.2.2.2.2⟩ hl (vs_t (vs_t (vs_t hv)))
end JM
end
section
/-! cells that are made; ends; starts -/
theorem vu_eq {α : Type} (f : Nat → α) (k : Nat) (v : α) : va_up f k v k = v := by simp [va_up]
theorem newT_N (T : Topo) (κ N : Nat) : tN (newT T κ N) = tN T + 1 := rfl
theorem newT_K (T : Topo) (κ N a : Nat) : tK (newT T κ N) a = if a = tN T then κ else tK T a := rfl
theorem newT_L (T : Topo) (κ N a : Nat) : tL (newT T κ N) a = if a = tN T then N else tL T a := rfl
theorem newT_R (T : Topo) (κ N a b : Nat) : tR (newT T κ N) a b = if a = tN T then none else tR T a b := by
  show (if a = tN T then (fun _ => none) else T.2.2.2 a) b = _
  split <;> rfl
theorem newI_at (I : IM) (n a b : Nat) : newI I n a b = if a = n then 0 else I a b := by
  show (if a = n then (fun _ => 0) else I a) b = _
  split <;> rfl
theorem cE_new {ad : Nat → Nat} {ca : Nat → ClassId} {T : Topo} {I : IM} {κ N q j : Nat} {cA : ClassId} (hr : rOK T) (hj : j < tN T) : cE (va_up ad (tN T) q) (va_up ca (tN T) cA) (newT T κ N) (newI I (tN T)) j = cE ad ca T I j := by
  have hne : ¬ j = tN T := by omega
  have eR : ∀ i, (tR (newT T κ N) j i).map (va_up ad (tN T) q) = (tR T j i).map ad := by
    intro i
    rw [newT_R, if_neg hne]
    cases h : tR T j i with
    | none => rfl
    | some r =>
      have := hr j i r hj h
      simp only [Option.map_some]
      rw [va_up_ne _ _ (by omega)]
  have eK : tK (newT T κ N) j = tK T j := by rw [newT_K, if_neg hne]
  have eL : tL (newT T κ N) j = tL T j := by rw [newT_L, if_neg hne]
  have eI : newI I (tN T) j = I j := by funext b; rw [newI_at, if_neg hne]
  have ef : fv (va_up ad (tN T) q) (newT T κ N) (newI I (tN T)) j = fv ad T I j := by
    funext i
    simp only [fv, eK, eR, eI]
  simp only [cE, ef, eK, eL, eI, eR, va_up_ne _ _ hne]
theorem rOK.newT {T : Topo} {κ N : Nat} (h : rOK T) : rOK (newT T κ N) := by
  intro a b q ha hq
  rw [newT_R] at hq
  rw [newT_N] at ha ⊢
  split at hq
  · cases hq
  · have := h a b q (by omega) hq
    omega
theorem aOK.newO {ca : Nat → ClassId} {T : Topo} {s : State} {κ N : Nat} {cA : ClassId} (h : aOK ca T s) (hκ : κ < 13) : aOK (va_up ca (tN T) cA) (newT T κ N) s := by
  intro k hk h13
  rw [newT_N] at hk
  rw [newT_K] at h13 ⊢
  by_cases e : k = tN T
  · rw [if_pos e] at h13; omega
  · rw [if_neg e] at h13 ⊢
    rw [va_up_ne _ _ e]
    exact h k (by omega) h13
theorem aOK.newA {ca : Nat → ClassId} {T : Topo} {s : State} {κ N : Nat} {cA : ClassId} (h : aOK ca T s) (hA : ArrOfT s cA (aTy κ) ∧ va_RA s cA (aTy κ)) : aOK (va_up ca (tN T) cA) (newT T κ N) s := by
  intro k hk h13
  rw [newT_N] at hk
  rw [newT_K] at h13 ⊢
  by_cases e : k = tN T
  · rw [if_pos e]; subst e; rw [vu_eq]; exact hA
  · rw [if_neg e] at h13 ⊢
    rw [va_up_ne _ _ e]
    exact h k (by omega) h13
/-- what follows a new cell -/
theorem Dy.new {G : va_G} {s : State} {A : Nat → Prop} {T0 T : Topo} {ad0 ad : Nat → Nat} {I : IM} {ca : Nat → ClassId} {H H1 : Heap} {locs : List Loc} {κ N q : Nat} {cA : ClassId} {e : va_E} (D : Dy G s A T0 ad0 T I ad ca H locs) (he : e = cE (va_up ad (tN T) q) (va_up ca (tN T) cA) (newT T κ N) (newI I (tN T)) (tN T)) (hA : aOK (va_up ca (tN T) cA) (newT T κ N) s)
    (hP : va_P G vwCl (cW ad ca T I ++ [(q, e)]) H1) (hD : va_D A (cW ad ca T I ++ [(q, e)])) (hS : va_S A s.heap H1 locs) : Dy G s A T0 ad0 (newT T κ N) (newI I (tN T)) (va_up ad (tN T) q) (va_up ca (tN T) cA) H1 locs := by
  have eW := cW_push (ad := ad) (ca := ca) (T := T) (T' := newT T κ N) (I := I) (I' := newI I (tN T)) (q := q) (cA := cA) rfl he (fun j hj => cE_new D.2.2.2.2.1 hj)
  rw [eW] at hP hD
  have hn := D.2.2.2.2.2.2.1
  exact ⟨hP, hD, D.2.2.1, hA, D.2.2.2.2.1.newT, hS, by rw [newT_N]; omega, fun k hk => by rw [va_up_ne _ _ (by omega)]; exact D.2.2.2.2.2.2.2 k hk⟩
/-- number idx of class own's pool is the class of kind κ -/
def cLk (own : String) (idx κ : Nat) : Prop := ∃ q : vw_C, vwCl[κ]? = some q ∧ Cond.classLink own idx q.1 ∈ TBg ∧ Cond.instantiable q.1 q.2.2 ∈ TBg ∧ Cond.initialized q.1 ∈ TBg
section JN
variable {d : Nat} {M : Mth} {Post : Pst} {C S pc c sl : Nat} {ls : List (Option Value)} {st : List Value} {T : Topo} {I : IM}
theorem J.newarr {n : Int32} {N κ : Nat} {aty : ArrayType} (hd : decode M.2.1 pc = .ok (.newarray aty, 2)) (hw : Cond.arrayClass (newarray.typeOf aty) ∈ TBg) (hty : newarray.typeOf aty = aTy κ) (hκ : κ = 13 ∨ κ = 14) (hn : ¬ n < 0) (hN : n.toNatClampNeg = N) (hb : N * componentBytes (aTy κ) ≤ 536870912) (hc : c + 1 ≤ C) (hs : sl + N ≤ S)
    (kk : J d M Post C S (pc + 2) ls (.ref (tN T) :: st) (newT T κ N) (newI I (tN T)) (c + 1) (sl + N)) : J d M Post C S pc ls (.int n :: st) T I c sl := by
  intro p l e s m args below meth cd G ab T0 ad0 ad ca H locs LS F D hl hv
  refine va_newa (a0 := (N, .inl (fun _ => 0))) F.1 F.2.1 (hasCode F hw) hty D.2.2.1 D.1 D.2.1 D.2.2.2.2.2.1 F.2.2.2.2.2.2.2.2.2.2 ?_ hn hN hb hc hs hd (fun q cA H1 hK1 hP1 hD1 hS1 => ?_)
  · intro cA
    rcases hκ with rfl | rfl <;> rfl
  · have hA := hK1.2 0 (cA, aTy κ) rfl
    have D1 : Dy G s (Fr T0 ad0 s.heap.size) T0 ad0 (newT T κ N) (newI I (tN T)) (va_up ad (tN T) q) (va_up ca (tN T) cA) H1 locs := by
      refine D.new (q := q) (cA := cA) ?_ (D.2.2.2.1.newA hA) hP1 hD1 hS1
      have hk : tK (newT T κ N) (tN T) = κ := by rw [newT_K, if_pos rfl]
      have hL : tL (newT T κ N) (tN T) = N := by rw [newT_L, if_pos rfl]
      have hI : newI I (tN T) (tN T) = fun _ => 0 := by funext b; rw [newI_at, if_pos rfl]
      rw [cE_int (by rw [hk]; exact hκ), hL, hI, vu_eq]
    have K1 := kk p l e s m args below meth cd G ab T0 ad0 _ _ H1 locs LS F D1 (hl.ad (by rw [newT_N]; omega) (fun k hk => va_up_ne _ _ (by omega))) (vs_c (by show tN T < tN T + 1; omega) (fun v hm => (vs_t hv v hm).mono (by rw [newT_N]; omega)))
    rw [List.map_cons, trv_map (ad := ad) (fun k hk => va_up_ne _ _ (by omega)) (vs_t hv)] at K1
    simp only [trv, vu_eq] at K1
    exact K1
theorem J.anew {n : Int32} {N κ idx : Nat} {CC : String} (hd : decode M.2.1 pc = .ok (.anewarray idx, 3)) (hlk : Cond.classLink M.1.cls idx CC ∈ TBg) (hov : Cond.arrayOver (.object CC) ∈ lw_tbl) (hty : aTy κ = .object CC) (hκ : 15 ≤ κ) (hn : ¬ n < 0) (hN : n.toNatClampNeg = N) (hb : N * 4 ≤ 536870912) (hc : c + 1 ≤ C) (hs : sl + N ≤ S)
    (kk : J d M Post C S (pc + 3) ls (.ref (tN T) :: st) (newT T κ N) (newI I (tN T)) (c + 1) (sl + N)) : J d M Post C S pc ls (.int n :: st) T I c sl := by
  intro p l e s m args below meth cd G ab T0 ad0 ad ca H locs LS F D hl hv
  refine va_newq F.1 F.2.1 F.2.2.2.1 (hasCode F hlk) (F.2.2.2.2.2.2.2.2.1 _ hov rfl) D.2.2.1 D.1 D.2.1 D.2.2.2.2.2.1 F.2.2.2.2.2.2.2.2.2.2 hn hN hb hc hs hd (fun q cA H1 hK1 hP1 hD1 hS1 => ?_)
  have hA := hK1.2 0 (cA, .object CC) rfl
  have D1 : Dy G s (Fr T0 ad0 s.heap.size) T0 ad0 (newT T κ N) (newI I (tN T)) (va_up ad (tN T) q) (va_up ca (tN T) cA) H1 locs := by
    refine D.new (q := q) (cA := cA) ?_ (D.2.2.2.1.newA (by rw [hty]; exact hA)) hP1 hD1 hS1
    have hk : tK (newT T κ N) (tN T) = κ := by rw [newT_K, if_pos rfl]
    have hL : tL (newT T κ N) (tN T) = N := by rw [newT_L, if_pos rfl]
    have hR : (fun j => (tR (newT T κ N) (tN T) j).map (va_up ad (tN T) q)) = fun _ => none := by funext b; rw [newT_R, if_pos rfl]; rfl
    rw [cE_ref (by rw [hk]; exact hκ), hL, hR, vu_eq]
  have K1 := kk p l e s m args below meth cd G ab T0 ad0 _ _ H1 locs LS F D1 (hl.ad (by rw [newT_N]; omega) (fun k hk => va_up_ne _ _ (by omega))) (vs_c (by show tN T < tN T + 1; omega) (fun v hm => (vs_t hv v hm).mono (by rw [newT_N]; omega)))
  rw [List.map_cons, trv_map (ad := ad) (fun k hk => va_up_ne _ _ (by omega)) (vs_t hv)] at K1
  simp only [trv, vu_eq] at K1
  exact K1
theorem J.new {κ idx : Nat} (hd : decode M.2.1 pc = .ok (.new idx, 3)) (hlk : cLk M.1.cls idx κ) (hc : c + 1 ≤ C) (hs : sl + nF κ ≤ S)
    (kk : J d M Post C S (pc + 3) ls (.ref (tN T) :: st) (newT T κ 0) (newI I (tN T)) (c + 1) (sl + nF κ)) : J d M Post C S pc ls st T I c sl := by
  intro p l e s m args below meth cd G ab T0 ad0 ad ca H locs LS F D hl hv
  obtain ⟨q0, hq, hl1, hl2, hl3⟩ := hlk
  have hκ := vwCl_lt hq
  obtain ⟨CC, FF, NN, ty0, h1, h2, h3, h4, h5, h6⟩ := kOK_all κ hκ
  obtain rfl : q0 = (CC, FF, NN) := Option.some.inj (hq.symm.trans h1)
  rw [h5] at hs kk
  refine va_new (ci := κ) (fs := (List.range NN).map (fun j => if rF κ j = true then Value.null else .int 0)) F.1 F.2.1 F.2.2.2.2.1 (fun w hw => List.mem_cons_of_mem _ (h4 w hw)) ty0 h2 F.2.2.2.1 (hasCode F hl1) (hasCode F hl2) (hasCode F hl3) D.2.2.1 D.1 D.2.1 D.2.2.2.2.2.1 F.2.2.2.2.2.2.2.2.2.2 hq (fun j hj => ?_) hc hs hd (fun q H1 hP1 hD1 hS1 => ?_)
  · rw [h6 j hj]
    simp [vp_V, hj]
  · have D1 : Dy G s (Fr T0 ad0 s.heap.size) T0 ad0 (newT T κ 0) (newI I (tN T)) (va_up ad (tN T) q) (va_up ca (tN T) 0) H1 locs := by
      refine D.new (q := q) (cA := 0) ?_ (D.2.2.2.1.newO hκ) hP1 hD1 hS1
      have hk : tK (newT T κ 0) (tN T) = κ := by rw [newT_K, if_pos rfl]
      rw [cE_obj hk hκ, h5]
      have : (fun j => if rF κ j = true then Value.null else Value.int 0) = fv (va_up ad (tN T) q) (newT T κ 0) (newI I (tN T)) (tN T) := by
        funext j
        simp only [fv, hk, newT_R, newI_at, if_true, Option.map_none, va_rf]
      rw [this]
    have K1 := kk p l e s m args below meth cd G ab T0 ad0 _ _ H1 locs LS F D1 (hl.ad (by rw [newT_N]; omega) (fun k hk => va_up_ne _ _ (by omega))) (vs_c (by show tN T < tN T + 1; omega) (fun v hm => (hv v hm).mono (by rw [newT_N]; omega)))
    rw [List.map_cons, trv_map (ad := ad) (fun k hk => va_up_ne _ _ (by omega)) hv] at K1
    simp only [trv, vu_eq] at K1
    exact K1
theorem J.iret {v : Int32} (hd : decode M.2.1 pc = .ok (.ireturn, 1)) (hr : M.2.2.2 = some .int) (hc : c ≤ C) (hs : sl ≤ S) (hp : Post (some (.int v)) T I) : J d M Post C S pc ls [.int v] T I c sl := by
  intro p l e s m args below meth cd G ab T0 ad0 ad ca H locs LS F D hl hv
  exact W.widen hc hs (W.iret F.1 F.2.1 (F.2.2.2.2.2.1.trans hr) (fun t ht hW => ⟨⟨some (.int v), T, I, ad, ca, rfl, hp, D.2.2.2.2.2.2.1, D.2.2.2.2.2.2.2, fun w hw => by cases hw; trivial, by rw [ht]; exact D.1, D.2.1, D.2.2.2.1.moved hW.alike, D.2.2.2.2.1⟩, D.2.2.2.2.2.1.F ht⟩) (fun q hq => D.2.2.2.2.2.1.2.2 q hq) hd F.2.2.2.2.2.2.1)
theorem J.zret {v : Int32} (hd : decode M.2.1 pc = .ok (.ireturn, 1)) (hr : M.2.2.2 = some .boolean) (hz : v = 0 ∨ v = 1) (hc : c ≤ C) (hs : sl ≤ S) (hp : Post (some (.int v)) T I) : J d M Post C S pc ls [.int v] T I c sl := by
  intro p l e s m args below meth cd G ab T0 ad0 ad ca H locs LS F D hl hv
  exact W.widen hc hs (W.zret F.1 F.2.1 (F.2.2.2.2.2.1.trans hr) (by rcases hz with rfl | rfl <;> rfl) (fun t ht hW => ⟨⟨some (.int v), T, I, ad, ca, rfl, hp, D.2.2.2.2.2.2.1, D.2.2.2.2.2.2.2, fun w hw => by cases hw; trivial, by rw [ht]; exact D.1, D.2.1, D.2.2.2.1.moved hW.alike, D.2.2.2.2.1⟩, D.2.2.2.2.2.1.F ht⟩) (fun q hq => D.2.2.2.2.2.1.2.2 q hq) hd F.2.2.2.2.2.2.1)
theorem J.vret (hd : decode M.2.1 pc = .ok (.return_, 1)) (hr : M.2.2.2 = none) (hc : c ≤ C) (hs : sl ≤ S) (hp : Post none T I) : J d M Post C S pc ls [] T I c sl := by
  intro p l e s m args below meth cd G ab T0 ad0 ad ca H locs LS F D hl hv
  exact W.widen hc hs (W.vret F.1 F.2.1 (F.2.2.2.2.2.1.trans hr) (fun t ht hW => ⟨⟨none, T, I, ad, ca, rfl, hp, D.2.2.2.2.2.2.1, D.2.2.2.2.2.2.2, (fun w hw => by cases hw), by rw [ht]; exact D.1, D.2.1, D.2.2.2.1.moved hW.alike, D.2.2.2.2.1⟩, D.2.2.2.2.2.1.F ht⟩) (fun q hq => D.2.2.2.2.2.1.2.2 q hq) hd F.2.2.2.2.2.2.1)
theorem J.aret {k : Nat} {ty : FieldType} (hd : decode M.2.1 pc = .ok (.areturn, 1)) (hr : M.2.2.2 = some ty) (hty : (∃ n, ty = .object n) ∨ ∃ t, ty = .array t) (hc : c ≤ C) (hs : sl ≤ S) (hp : Post (some (.ref k)) T I) : J d M Post C S pc ls [.ref k] T I c sl := by
  intro p l e s m args below meth cd G ab T0 ad0 ad ca H locs LS F D hl hv
  exact W.widen hc hs (W.aret F.1 F.2.1 (F.2.2.2.2.2.1.trans hr) hty (Or.inr ⟨_, rfl⟩) (fun t ht hW => ⟨⟨some (.ref k), T, I, ad, ca, rfl, hp, D.2.2.2.2.2.2.1, D.2.2.2.2.2.2.2, fun w hw => by cases hw; exact vs_h hv, by rw [ht]; exact D.1, D.2.1, D.2.2.2.1.moved hW.alike, D.2.2.2.2.1⟩, D.2.2.2.2.2.1.F ht⟩) (fun q hq => D.2.2.2.2.2.1.2.2 q hq) hd F.2.2.2.2.2.2.1)
/-- the parent of a kind, as the class reads it: getstatic, iload_2, iaload -/
theorem J.above {idx : Nat} {x : Int32} {host : String} (hd : decode M.2.1 pc = .ok (.getstatic idx, 3)) (hd2 : decode M.2.1 (pc + 3) = .ok (.iload_n 2, 1)) (hd3 : decode M.2.1 (pc + 3 + 1) = .ok (.iaload, 1)) (hlk : Cond.fieldLinkNest M.1.cls idx "SliceSeller" "ABOVE" "[I" host ∈ lw_tbl) (hx : ls[2]? = some (some (.int x))) (hin : vp_in x 5)
    (kk : J d M Post C S (pc + 3 + 1 + 1) ls (.int (abv x.toNatClampNeg) :: st) T I c sl) : J d M Post C S pc ls st T I c sl := by
  intro p l e s m args below meth cd G ab T0 ad0 ad ca H locs LS F D hl hv
  obtain ⟨hZ, hX, hlt, hA⟩ := F.2.2.2.2.2.2.2.2.2.1
  refine va_getsN F.1 F.2.1 hZ D.2.2.2.2.2.1 F.2.2.2.1 (va_Nw.use rfl (F.2.2.2.2.2.2.2.2.1 _ hlk rfl)) (fun _ h => h) hd ?_
  refine lv_iload_n F.1 F.2.1 hd2 rfl (hl.2.2.2 2 _ hx).1 ?_
  exact va_sld F.1 F.2.1 hX hlt hA D.2.2.2.2.2.1 hin hd3 (kk p l e s m args below meth cd G ab T0 ad0 ad ca H locs LS F D hl (vs_c trivial hv))
theorem lg_sl_1 : ∀ (vs : List Value), (∀ v ∈ vs, v.category = 1) → lg_sl vs = vs.map Slot.val
  | [], _ => rfl
  | v :: vs, h => by
    have h1 := h v List.mem_cons_self
    have ih := lg_sl_1 vs (fun w hw => h w (List.mem_cons_of_mem _ hw))
    unfold lg_sl at ih ⊢
    rw [List.flatMap_cons, ih, if_neg (by omega)]
    rfl
theorem Ct.ofJ {vs : List Value} {mc ms : Nat} (hy : plainName M.1.cls = true) (hlen : Nat.ble vs.length M.2.2.1 = true) (hcat : ∀ v ∈ vs, v.category = 1) (hls : ls = vs.map some ++ List.replicate (M.2.2.1 - vs.length) none) (h : J d M Post mc ms 0 ls [] T I 0 0) : Ct d M vs T I mc ms Post := by
  subst hls
  intro l G ab ad ca sz
  refine Met.ofW (cc := M.2.1) (maxL := M.2.2.1) (ret := M.2.2.2) hy rfl ?_
  intro p e s m args below meth cd s₁ B hml hv
  obtain ⟨rfl, hsz, hP, hD, hK, hA, hR, hAb, hN, hvs⟩ := hv
  subst hsz
  have hlen' : vs.length ≤ M.2.2.1 := Nat.le_of_ble_eq_true hlen
  have hcat' : ∀ v ∈ vs.map (trv ad), v.category = 1 := by
    intro v hm
    obtain ⟨w, hw, rfl⟩ := List.mem_map.mp hm
    exact (trv_cat ad w).trans (hcat w hw)
  have e1 : lg_sl (vs.map (trv ad)) = (vs.map (trv ad)).map Slot.val := lg_sl_1 _ hcat'
  have hle := lv_entry (vs.map (trv ad)) (n := M.2.2.1) (by rw [e1]; simpa using hlen')
  rw [lg_entry_eq]
  have hfin := h p l e s m (vs.map (trv ad)).toArray below meth cd G ab T ad ad ca s.heap [] ((lg_sl (vs.map (trv ad)) ++ List.replicate (M.2.2.1 - (lg_sl (vs.map (trv ad))).length) Slot.unset).toArray)
    ⟨B.exec, B.bytes, hml, findClass_of_methodNamed B.named, atoms_spec (ws := wd M) B.pre, B.returns, B.notSynchronized, (name_of_methodNamed B.named B.method).1, hN, hAb, fun q h => Or.inr h⟩
    ⟨hP, hD.weaken (fun k q hq _ => Or.inl ⟨k, (cW_of hq).1, by rw [(cW_of hq).2]⟩), hK, hA, hR, va_S.rf, Nat.le_refl _, fun _ _ => rfl⟩
    ⟨hle.1, hle.2.1, by simp; omega, fun i v hi => ?_⟩ (fun v hv => by cases hv)
  · exact hfin
  · have hi' : i < vs.length := by
      rcases Nat.lt_or_ge i vs.length with q | q
      · exact q
      · rw [List.getElem?_append_right (by simpa using q)] at hi
        have := List.mem_of_getElem? hi
        rw [List.mem_replicate] at this
        cases this.2
    rw [List.getElem?_append_left (by simpa using hi'), List.getElem?_map] at hi
    cases hx : vs[i]? with
    | none => rw [hx] at hi; cases hi
    | some w =>
      rw [hx] at hi
      cases hi
      refine ⟨?_, hcat v (List.mem_of_getElem? hx), hvs v (List.mem_of_getElem? hx)⟩
      rw [e1]
      rw [← Array.getElem?_toList]
      simp only [List.toList_toArray]
      rw [List.getElem?_append_left (by simpa using hi')]
      simp [hx]
end JN
end
section
/-! calls -/
def mLk (own : String) (idx : Nat) (y : MethodName) : Prop := Cond.methodLink own idx y ∈ TBg ∨ ∃ host, Cond.methodLinkNest own idx y host ∈ lw_tbl
def yOK (M : Mth) (n : Nat) : Prop := mIn M ∧ Cond.initialized M.1.cls ∈ TBg ∧ (M.1.cls ≠ "java/lang/invoke/MethodHandle" ∧ M.1.cls ≠ "java/lang/invoke/VarHandle" ∧ (parseMethodDescriptor M.1.desc).map (fun d => d.parameters.length) = some n) ∧ M.2.2.1 ≤ 41
def vMeth (M : Mth) : Prop := Cond.instanceMethod M.1 ∈ TBg ∧ Cond.selects M.1.cls M.1 M.1 ∈ TBg
def sMeth (M : Mth) : Prop := Cond.static M.1 ∈ TBg
def iMeth (M : Mth) : Prop := M.1.name = "<init>" ∧ Cond.instanceMethod M.1 ∈ TBg
theorem Abv.call {ab : Nat} {A B : Nat → Prop} {s U : State} {H : Heap} {locs : List Loc} (h : Abv ab A s s.heap) (hS : va_S A s.heap H locs) (hB : ∀ q, B q → A q) (hal : s.vm.Alike U.vm) (hU : U.heap = H) : Abv ab B U U.heap := by
  subst hU
  obtain ⟨hZ, hX, hlt, hA⟩ := h
  exact ⟨((hZ.kept hS.2.1).narrow hB).moved hal, (hX.kept (hS.2.1 ab hlt hA)).moved hal, Nat.lt_of_lt_of_le hlt hS.1, fun q => hA (hB _ q)⟩
theorem Abv.moved {ab : Nat} {A : Nat → Prop} {s U : State} {H : Heap} (h : Abv ab A s H) (hal : s.vm.Alike U.vm) : Abv ab A U H := ⟨h.1.moved hal, h.2.1.moved hal, h.2.2⟩
theorem Pw_blind {G : va_G} {ab : Nat} {vs : List Value} {T : Topo} {I : IM} {ad : Nat → Nat} {ca : Nat → ClassId} {sz : Nat} : FrameBlind (Pw G ab vs T I ad ca sz) := by
  intro a U g mk h
  obtain ⟨h1, h2, h3, h4, h5, h6, h7, h8, h9, h10⟩ := h
  exact ⟨h1, h2, h3, h4, va_K.moved (u := U) (U := U.calling g mk a) (Vm.Alike.refl U.vm) h5, aOK.moved (u := U) (U := U.calling g mk a) (Vm.Alike.refl U.vm) h6, h7, Abv.moved (s := U) (U := U.calling g mk a) h8 (Vm.Alike.refl U.vm), NestOK.same (u := U) (U := U.calling g mk a) rfl h9, h10⟩
theorem Fr_sub {G : va_G} {s : State} {A : Nat → Prop} {T0 T : Topo} {ad0 ad : Nat → Nat} {I : IM} {ca : Nat → ClassId} {H : Heap} {locs : List Loc} (D : Dy G s A T0 ad0 T I ad ca H locs) (hA : ∀ q, s.heap.size ≤ q → A q) : ∀ q, Fr T ad H.size q → A q := by
  rintro q (⟨k, hk, rfl⟩ | h)
  · exact D.2.1.2 k _ (cW_at hk)
  · exact hA q (Nat.le_trans D.2.2.2.2.2.1.1 h)
theorem Pw_at {M : Mth} {p : Program} {s U : State} {m : MethodId} {args : Array Value} {meth : Method} {cd : Code} {G : va_G} {ab : Nat} {A : Nat → Prop} {T0 T : Topo} {ad0 ad : Nat → Nat} {I : IM} {ca : Nat → ClassId} {H : Heap} {locs : List Loc} {vs : List Value} (F : Fx M p s m args meth cd ab A) (D : Dy G s A T0 ad0 T I ad ca H locs) (hvs : ∀ v ∈ vs, vOK (tN T) v) (hU : U.heap = H) (hW : s.WarmedH U.vm) : Pw G ab vs T I ad ca H.size (vs.map (trv ad)).toArray U := by
  refine ⟨rfl, by rw [hU], by rw [hU]; exact D.1, D.2.1.weaken (fun _ _ _ _ => trivial), va_K.moved hW.alike D.2.2.1, D.2.2.2.1.moved hW.alike, D.2.2.2.2.1, F.2.2.2.2.2.2.2.2.2.1.call D.2.2.2.2.2.1 (Fr_sub D F.2.2.2.2.2.2.2.2.2.2) hW.alike hU, F.2.2.2.2.2.2.2.2.1.warm hW, hvs⟩
section JC
variable {d : Nat} {M : Mth} {Post : Pst} {C S pc c sl : Nat} {ls : List (Option Value)} {st : List Value} {T : Topo} {I : IM}
theorem J_after {p : Program} {l : Launch} {e : Env} {s : State} {m : MethodId} {args : Array Value} {below : List Frame} {meth : Method} {cd : Code} {G : va_G} {ab : Nat} {T0 : Topo} {ad0 ad : Nat → Nat} {ca : Nat → ClassId} {H : Heap} {locs : List Loc} {LS : Array Slot} {g : List Value} {rest : List Value} {a : Array Value} {mc ms : Nat} {P' : Pst}
    (hr : va_Run p l e (Rm d C S) s m args below meth cd H locs c sl mc ms (F0 m pc LS g) (rest.map (trv ad)) (Qw G T ad H.size P' a) (Fr T ad H.size))
    (F : Fx M p s m args meth cd ab (Fr T0 ad0 s.heap.size)) (D : Dy G s (Fr T0 ad0 s.heap.size) T0 ad0 T I ad ca H locs) (hl : lvO LS M.2.2.1 ls ad (tN T)) (hv : ∀ v ∈ rest, vOK (tN T) v)
    (kk : ∀ r T' I', P' r T' I' → J d M Post C S (pc + 3) ls (r.toList ++ rest) T' I' (c + mc) (sl + ms)) :
    W p l e (Rm d C S) s m args below meth cd H locs c sl (MQ below (Qw G T0 ad0 s.heap.size Post) args s C S (Fr T0 ad0 s.heap.size)) (F0 m pc LS g) := by
  intro Tm hT X
  obtain ⟨v, st₀, t, T', L, h0, X', hL, e1, e2, ⟨⟨r, T2, I2, ad2, ca2, hv2, hp, hn2, had, hrv, hP, hD, hA, hR⟩, hz, hk⟩, stp⟩ := hr Tm hT X
  rw [h0] at hz hk
  cases hv2
  have hsub := Fr_sub D F.2.2.2.2.2.2.2.2.2.2
  have hal : t.vm.Alike s.vm := by rw [← e2]; exact X'.warmed.alike.symm
  have hS := D.2.2.2.2.2.1
  have D2 : Dy G s (Fr T0 ad0 s.heap.size) T0 ad0 T2 I2 ad2 ca2 T'.heap (locs ++ L) := by
    refine ⟨by rw [e1]; exact hP, hD.weaken (fun k q _ h => hsub _ h), D.2.2.1, hA.moved hal, hR, ⟨Nat.le_trans hS.1 (by rw [e1]; exact hz), fun q h1 h2 => ?_, fun q hq => ?_⟩, Nat.le_trans D.2.2.2.2.2.2.1 hn2, fun k hk0 => by rw [had k (Nat.lt_of_lt_of_le hk0 D.2.2.2.2.2.2.1)]; exact D.2.2.2.2.2.2.2 k hk0⟩
    · rw [e1, hk q (Nat.lt_of_lt_of_le h1 hS.1) (fun z => h2 (hsub q z))]
      exact hS.2.1 q h1 h2
    · rcases List.mem_append.mp hq with h | h
      · exact hS.2.2 q h
      · exact hsub _ (hL q h)
  have hst : ∀ w ∈ r.toList ++ rest, vOK (tN T2) w := by
    intro w hw
    rcases List.mem_append.mp hw with h | h
    · exact hrv w (by simpa using h)
    · exact (hv w h).mono hn2
  obtain ⟨t2, a1, b1⟩ := kk r T2 I2 hp p l e s m args below meth cd G ab T0 ad0 ad2 ca2 T'.heap (locs ++ L) LS F D2 (hl.ad hn2 had) hst T' rfl X'
  refine ⟨t2, stp t2 ?_, b1⟩
  have ef : (r.toList ++ rest).map (trv ad2) = (r.map (trv ad2)).toList ++ rest.map (trv ad) := by
    rw [List.map_append, trv_map had hv]
    cases r <;> rfl
  rw [ef] at a1
  exact a1
theorem room_d {d d' L : Nat} (h : d' + 1 ≤ d) (hL : L ≤ 41) : 8 + (L + 11) + 60 * d' ≤ 60 * d := by omega
theorem cat_map (ad : Nat → Nat) (rest : List Value) : ((rest.map (trv ad)).map fun v => v.category).sum = (rest.map fun v => v.category).sum := by
  rw [List.map_map]
  congr 1
  exact List.map_congr_left fun v _ => trv_cat ad v
theorem J.callV {M' : Mth} {n idx d' mc ms : Nat} {k : Nat} {as rest : List Value} {P' : Pst} {κ : Nat} {q : vw_C} (hκ : tK T k = κ) (hq : vwCl[κ]? = some q) (hqC : q.1 = M'.1.cls)
    (hd : decode M.2.1 pc = .ok (.invokevirtual idx, 3)) (hy : yOK M' n) (hvm : vMeth M') (hlk : mLk M.1.cls idx M'.1) (hst : st = as.reverse ++ .ref k :: rest) (hn : as.length = n) (hrest : Nat.ble ((rest.map fun v => v.category).sum) 8 = true) (hdep : d' + 1 ≤ d) (hc : c + mc ≤ C) (hs : sl + ms ≤ S)
    (hM : Ct d' M' (.ref k :: as) T I mc ms P')
    (kk : ∀ r T' I', P' r T' I' → J d M Post C S (pc + 3) ls (r.toList ++ rest) T' I' (c + mc) (sl + ms)) : J d M Post C S pc ls st T I c sl := by
  intro p l e s m args below meth cd G ab T0 ad0 ad ca H locs LS F D hl hv
  obtain ⟨hmi, hini, hnm, hL⟩ := hy
  have hvr : ∀ v ∈ rest, vOK (tN T) v := fun v hm => hv v (by rw [hst]; simp [hm])
  have hrest' : ((rest.map (trv ad)).map fun v => v.category).sum ≤ 8 := by rw [cat_map]; exact Nat.le_of_ble_eq_true hrest
  have hsk : st.map (trv ad) = (as.map (trv ad)).reverse ++ .ref (ad k) :: rest.map (trv ad) := by rw [hst, List.map_append, List.map_reverse, List.map_cons]; rfl
  have hvk : ∀ v ∈ (.ref k :: as : List Value), vOK (tN T) v := fun v hm => hv v (by rw [hst]; rcases List.mem_cons.mp hm with h | h <;> simp [h])
  have hts := F.2.2.2.2.1
  have hG : GoodIn (wd M) (wd M') := wd_good hmi
  have hFx : CallFix p m cd M.2.1 M.2.2.1 s args (wd M) M.1.cls := ⟨F.1, F.2.1, F.2.2.1, F.2.2.2.1, hts⟩
  have hR : (Rm d' mc ms).frames + 1 ≤ (Rm d C S).frames ∧ 8 + (M'.2.2.1 + 11) + (Rm d' mc ms).locals ≤ (Rm d C S).locals := ⟨hdep, room_d hdep hL⟩
  refine J_after (g := st.map (trv ad)) (rest := rest) (a := ((.ref k :: as : List Value).map (trv ad)).toArray) (P' := P') ?_ F D hl hvr kk
  rcases hlk with hlk | ⟨host, hlk⟩
  · have hrv : ∃ cellB : Cell, H[ad k]? = some cellB ∧ cellB.vm.isStatics = false ∧ s.vm.findClass M'.1.cls = some cellB.cls := by
      have h1 := va_recv D.2.2.1 D.1 hq ((cW_at (vs_h hvk)).trans (by rw [cE_obj hκ (vwCl_lt hq)]))
      rwa [hqC] at h1
    exact va_runV hFx (hM l G ab ad ca H.size) ⟨callB_of n hts hG rfl rfl rfl (hasCode F hini) (hasCode F hlk) hnm hR, hasCode F hvm.1, hasCode F hvm.2⟩ ⟨Pw_blind, hrv, fun U hU hW => Pw_at F D hvk hU hW⟩ rfl ((List.length_map _).trans hn) hl.1 hsk (lv_room hrest') hd ⟨hc, hs⟩
  · have hrv : ∃ cellB : Cell, H[ad k]? = some cellB ∧ cellB.vm.isStatics = false ∧ s.vm.findClass M'.1.cls = some cellB.cls := by
      have h1 := va_recv D.2.2.1 D.1 hq ((cW_at (vs_h hvk)).trans (by rw [cE_obj hκ (vwCl_lt hq)]))
      rwa [hqC] at h1
    exact va_runVN hFx (hM l G ab ad ca H.size) ⟨va_cnB n hts hG rfl rfl rfl (F.2.2.2.2.2.2.2.2.1 _ hlk rfl) (hasCode F hini) hnm hR, hasCode F hvm.1, hasCode F hvm.2⟩ ⟨Pw_blind, hrv, fun U hU hW => Pw_at F D hvk hU hW⟩ rfl ((List.length_map _).trans hn) hl.1 hsk (lv_room hrest') hd ⟨hc, hs⟩
theorem J.callS {M' : Mth} {n idx d' mc ms : Nat} {as rest : List Value} {P' : Pst} 
    (hd : decode M.2.1 pc = .ok (.invokestatic idx, 3)) (hy : yOK M' n) (hvm : sMeth M') (hlk : mLk M.1.cls idx M'.1) (hst : st = as.reverse ++ rest) (hn : as.length = n) (hrest : Nat.ble ((rest.map fun v => v.category).sum) 8 = true) (hdep : d' + 1 ≤ d) (hc : c + mc ≤ C) (hs : sl + ms ≤ S)
    (hM : Ct d' M' (as) T I mc ms P')
    (kk : ∀ r T' I', P' r T' I' → J d M Post C S (pc + 3) ls (r.toList ++ rest) T' I' (c + mc) (sl + ms)) : J d M Post C S pc ls st T I c sl := by
  intro p l e s m args below meth cd G ab T0 ad0 ad ca H locs LS F D hl hv
  obtain ⟨hmi, hini, hnm, hL⟩ := hy
  have hvr : ∀ v ∈ rest, vOK (tN T) v := fun v hm => hv v (by rw [hst]; simp [hm])
  have hrest' : ((rest.map (trv ad)).map fun v => v.category).sum ≤ 8 := by rw [cat_map]; exact Nat.le_of_ble_eq_true hrest
  have hsk : st.map (trv ad) = (as.map (trv ad)).reverse ++ rest.map (trv ad) := by rw [hst, List.map_append, List.map_reverse]
  have hvk : ∀ v ∈ (as : List Value), vOK (tN T) v := fun v hm => hv v (by rw [hst]; simp [hm])
  have hts := F.2.2.2.2.1
  have hG : GoodIn (wd M) (wd M') := wd_good hmi
  have hFx : CallFix p m cd M.2.1 M.2.2.1 s args (wd M) M.1.cls := ⟨F.1, F.2.1, F.2.2.1, F.2.2.2.1, hts⟩
  have hR : (Rm d' mc ms).frames + 1 ≤ (Rm d C S).frames ∧ 8 + (M'.2.2.1 + 11) + (Rm d' mc ms).locals ≤ (Rm d C S).locals := ⟨hdep, room_d hdep hL⟩
  refine J_after (g := st.map (trv ad)) (rest := rest) (a := ((as : List Value).map (trv ad)).toArray) (P' := P') ?_ F D hl hvr kk
  rcases hlk with hlk | ⟨host, hlk⟩
  · exact va_runS hFx (hM l G ab ad ca H.size) ⟨callB_of n hts hG rfl rfl rfl (hasCode F hini) (hasCode F hlk) hnm hR, hasCode F hvm⟩ ⟨Pw_blind, fun U hU hW => Pw_at F D hvk hU hW⟩ rfl ((List.length_map _).trans hn) hl.1 hsk (lv_room hrest') hd ⟨hc, hs⟩
  · exact va_runSN hFx (hM l G ab ad ca H.size) ⟨va_cnB n hts hG rfl rfl rfl (F.2.2.2.2.2.2.2.2.1 _ hlk rfl) (hasCode F hini) hnm hR, hasCode F hvm, trivial⟩ ⟨Pw_blind, fun U hU hW => Pw_at F D hvk hU hW⟩ rfl ((List.length_map _).trans hn) hl.1 hsk (lv_room hrest') hd ⟨hc, hs⟩
theorem J.callI {M' : Mth} {n idx d' mc ms : Nat} {k : Nat} {as rest : List Value} {P' : Pst} (hnone : M'.2.2.2 = none)
    (hd : decode M.2.1 pc = .ok (.invokespecial idx, 3)) (hy : yOK M' n) (hvm : iMeth M') (hlk : mLk M.1.cls idx M'.1) (hst : st = as.reverse ++ .ref k :: rest) (hn : as.length = n) (hrest : Nat.ble ((rest.map fun v => v.category).sum) 8 = true) (hdep : d' + 1 ≤ d) (hc : c + mc ≤ C) (hs : sl + ms ≤ S)
    (hM : Ct d' M' (.ref k :: as) T I mc ms P')
    (kk : ∀ r T' I', P' r T' I' → J d M Post C S (pc + 3) ls (r.toList ++ rest) T' I' (c + mc) (sl + ms)) : J d M Post C S pc ls st T I c sl := by
  intro p l e s m args below meth cd G ab T0 ad0 ad ca H locs LS F D hl hv
  obtain ⟨hmi, hini, hnm, hL⟩ := hy
  have hvr : ∀ v ∈ rest, vOK (tN T) v := fun v hm => hv v (by rw [hst]; simp [hm])
  have hrest' : ((rest.map (trv ad)).map fun v => v.category).sum ≤ 8 := by rw [cat_map]; exact Nat.le_of_ble_eq_true hrest
  have hsk : st.map (trv ad) = (as.map (trv ad)).reverse ++ .ref (ad k) :: rest.map (trv ad) := by rw [hst, List.map_append, List.map_reverse, List.map_cons]; rfl
  have hvk : ∀ v ∈ (.ref k :: as : List Value), vOK (tN T) v := fun v hm => hv v (by rw [hst]; rcases List.mem_cons.mp hm with h | h <;> simp [h])
  have hts := F.2.2.2.2.1
  have hG : GoodIn (wd M) (wd M') := wd_good hmi
  have hFx : CallFix p m cd M.2.1 M.2.2.1 s args (wd M) M.1.cls := ⟨F.1, F.2.1, F.2.2.1, F.2.2.2.1, hts⟩
  have hR : (Rm d' mc ms).frames + 1 ≤ (Rm d C S).frames ∧ 8 + (M'.2.2.1 + 11) + (Rm d' mc ms).locals ≤ (Rm d C S).locals := ⟨hdep, room_d hdep hL⟩
  refine J_after (g := st.map (trv ad)) (rest := rest) (a := ((.ref k :: as : List Value).map (trv ad)).toArray) (P' := P') ?_ F D hl hvr kk
  rcases hlk with hlk | ⟨host, hlk⟩
  · exact va_runI hFx (hM l G ab ad ca H.size) ⟨hnone ▸ callB_of n hts hG rfl rfl rfl (hasCode F hini) (hasCode F hlk) hnm hR, hvm.1, hasCode F hvm.2⟩ ⟨Pw_blind, fun U hU hW => Pw_at F D hvk hU hW⟩ rfl ((List.length_map _).trans hn) hl.1 hsk (lv_room hrest') hd ⟨hc, hs⟩
  · exact va_runIN hFx (hM l G ab ad ca H.size) ⟨hnone ▸ va_cnB n hts hG rfl rfl rfl (F.2.2.2.2.2.2.2.2.1 _ hlk rfl) (hasCode F hini) hnm hR, hvm.1, hasCode F hvm.2⟩ ⟨Pw_blind, fun U hU hW => Pw_at F D hvk hU hW⟩ rfl ((List.length_map _).trans hn) hl.1 hsk (lv_room hrest') hd ⟨hc, hs⟩
theorem J.objInit {k idx : Nat} (hd : decode M.2.1 pc = .ok (.invokespecial idx, 3)) (hlk : Cond.methodLink M.1.cls idx Lib.objectInit ∈ TBg) (hin : Cond.instanceMethod Lib.objectInit ∈ TBg) (hco : Cond.code Lib.objectInit ⟨#[0xb1]⟩ 1 none ∈ TBg) (hrest : Nat.ble ((st.map fun v => v.category).sum) 8 = true) (hdep : 1 ≤ d)
    (kk : J d M Post C S (pc + 3) ls st T I c sl) : J d M Post C S pc ls (.ref k :: st) T I c sl := by
  intro p l e s m args below meth cd G ab T0 ad0 ad ca H locs LS F D hl hv
  have hrest' : ((st.map (trv ad)).map fun v => v.category).sum ≤ 8 := by rw [cat_map]; exact Nat.le_of_ble_eq_true hrest
  refine W.objInit F.1 F.2.1 F.2.2.2.1 (hasCode F hlk) (hasCode F hin) (hasCode F hco) rfl (hl.1.trans F.2.2.1.symm) rfl hd hdep ?_ (kk p l e s m args below meth cd G ab T0 ad0 ad ca H locs LS F D hl (vs_t hv))
  have h60 : (Rm d C S).locals = 60 * d := rfl
  show 2 * 0 + _ + 12 ≤ _
  omega
def cpy2 (I : IM) (k0 k1 sp dp n : Nat) : IM := fun a => if a = k1 then va_cpy (I k0) (I k1) sp dp n else I a
theorem J.acopy {k0 k1 idx : Nat} {sp dp n : Int32} (hd : decode M.2.1 pc = .ok (.invokestatic idx, 3)) (hlk : Cond.methodLink M.1.cls idx arraycopyName ∈ TBg) (hnat : Cond.native arraycopyName ∈ TBg) (hstat : Cond.static arraycopyName ∈ TBg) (hini : Cond.initialized "java/lang/System" ∈ TBg) (hκ0 : tK T k0 = 13) (hκ1 : tK T k1 = 13)
    (h1 : ¬ sp < 0) (h2 : ¬ dp < 0) (h3 : ¬ n < 0) (h4 : sp.toNatClampNeg + n.toNatClampNeg ≤ tL T k0) (h5 : dp.toNatClampNeg + n.toNatClampNeg ≤ tL T k1) (hrest : Nat.ble ((st.map fun v => v.category).sum) 8 = true) (hdep : 1 ≤ d)
    (kk : J d M Post C S (pc + 3) ls st T (cpy2 I k0 k1 sp.toNatClampNeg dp.toNatClampNeg n.toNatClampNeg) c sl) : J d M Post C S pc ls (.int n :: .int dp :: .ref k1 :: .int sp :: .ref k0 :: st) T I c sl := by
  intro p l e s m args below meth cd G ab T0 ad0 ad ca H locs LS F D hl hv
  have hrest' : ((st.map (trv ad)).map fun v => v.category).sum ≤ 8 := by rw [cat_map]; exact Nat.le_of_ble_eq_true hrest
  have hk1 : k1 < tN T := vs_h (vs_t (vs_t hv))
  have hk0 : k0 < tN T := vs_h (vs_t (vs_t (vs_t (vs_t hv))))
  have hA0 := D.2.2.2.1 k0 hk0 (by omega)
  have hA1 := D.2.2.2.1 k1 hk1 (by omega)
  rw [hκ0] at hA0
  rw [hκ1] at hA1
  have hK2 : va_K G vwCl [(ca k0, .int), (ca k1, .int)] s := by
    refine ⟨D.2.2.1.1, fun i q hq => ?_⟩
    match i, hq with
    | 0, hq => cases hq; exact hA0
    | 1, hq => cases hq; exact hA1
    | i + 2, hq => simp at hq
  refine va_copyi F.1 F.2.1 (F.2.2.1.trans hl.1.symm) F.2.2.2.1 (hasCode F hlk) (hasCode F hnat) (hasCode F hstat) (hasCode F hini) hK2 D.1 D.2.1 D.2.2.2.2.2.1 k0 k1 0 1 ((cW_at hk0).trans (by rw [cE_int (by omega)])) ((cW_at hk1).trans (by rw [cE_int (by omega)])) rfl rfl rfl h1 h2 h3 h4 h5 (fun _ _ => rfl) hdep ?_ hd (fun H1 locs1 hP1 hD1 hS1 => ?_)
  · have h60 : (Rm d C S).locals = 60 * d := rfl
    have hnw : nativeFrameWords "java/lang/System" "arraycopy" 5 + 11 ≤ 52 := by decide
    omega
  · have eW : (cW ad ca T I).set k1 (ad k1, .inl (ca k1, tL T k1, .inl (va_cpy (I k0) (I k1) sp.toNatClampNeg dp.toNatClampNeg n.toNatClampNeg))) = cW ad ca T (cpy2 I k0 k1 sp.toNatClampNeg dp.toNatClampNeg n.toNatClampNeg) := by
      have en : ∀ a, a ≠ k1 → cpy2 I k0 k1 sp.toNatClampNeg dp.toNatClampNeg n.toNatClampNeg a = I a := fun a ha => if_neg ha
      refine cW_set hk1 rfl ?_ (fun a ha => ?_)
      · rw [cE_int (by omega), cpy2, if_pos rfl]
      · have e : fv ad T (cpy2 I k0 k1 sp.toNatClampNeg dp.toNatClampNeg n.toNatClampNeg) a = fv ad T I a := by funext i; simp only [fv, en a ha]
        simp only [cE, e, en a ha]
    rw [eW] at hP1 hD1
    exact kk p l e s m args below meth cd G ab T0 ad0 ad ca H1 locs1 LS F ⟨hP1, hD1, D.2.2.1, D.2.2.2.1, D.2.2.2.2.1, hS1, D.2.2.2.2.2.2⟩ hl (vs_t (vs_t (vs_t (vs_t (vs_t hv)))))
end JC
end
section
abbrev mX11_init : Mth := (yX11_init, cX11_init, 5, none)
abbrev mX5_init : Mth := (yX5_init, cX5_init, 2, none)
abbrev mX10_init : Mth := (yX10_init, cX10_init, 1, none)
abbrev mX4_init : Mth := (yX4_init, cX4_init, 1, none)
abbrev mX9_init : Mth := (yX9_init, cX9_init, 2, none)
abbrev mX8_init : Mth := (yX8_init, cX8_init, 1, none)
abbrev mX6_init : Mth := (yX6_init, cX6_init, 1, none)
abbrev mX0_init : Mth := (yX0_init, cX0_init, 1, none)
abbrev mX1_init : Mth := (yX1_init, cX1_init, 1, none)
abbrev mX3_init : Mth := (yX3_init, cX3_init, 3, none)
abbrev mX2_init : Mth := (yX2_init, cX2_init, 3, none)
abbrev mX7_init : Mth := (yX7_init, cX7_init, 1, none)
abbrev mX11_node : Mth := (yX11_node, cX11_node, 2, (some .int))
abbrev mX11_isWithin : Mth := (yX11_isWithin, cX11_isWithin, 3, (some .boolean))
abbrev mX11_finding : Mth := (yX11_finding, cX11_finding, 2, (some .int))
abbrev mX5_addNode : Mth := (yX5_addNode, cX5_addNode, 2, (some .int))
abbrev mX11_line : Mth := (yX11_line, cX11_line, 7, (some .int))
abbrev mX5_areTwoNodes : Mth := (yX5_areTwoNodes, cX5_areTwoNodes, 3, (some .boolean))
abbrev mX5_hasNode : Mth := (yX5_hasNode, cX5_hasNode, 2, (some .boolean))
abbrev mX5_addLine : Mth := (yX5_addLine, cX5_addLine, 7, (some .int))
abbrev mX11_up : Mth := (yX11_up, cX11_up, 3, (some .int))
abbrev mX5_hasLine : Mth := (yX5_hasLine, cX5_hasLine, 2, (some .boolean))
abbrev mX5_setUp : Mth := (yX5_setUp, cX5_setUp, 4, (some .boolean))
abbrev mX5_isUp : Mth := (yX5_isUp, cX5_isUp, 2, (some .boolean))
abbrev mX11_ways : Mth := (yX11_ways, cX11_ways, 3, (some .int))
abbrev mX5_waysBetween : Mth := (yX5_waysBetween, cX5_waysBetween, 3, (some (.object "SliceSeller$Ways")))
abbrev mX10_find : Mth := (yX10_find, cX10_find, 4, none)
abbrev mX10_extend : Mth := (yX10_extend, cX10_extend, 9, none)
abbrev mX10_insert : Mth := (yX10_insert, cX10_insert, 3, none)
abbrev mX5_lineAt : Mth := (yX5_lineAt, cX5_lineAt, 2, (some (.object "SliceSeller$Line")))
abbrev mX4_otherEnd : Mth := (yX4_otherEnd, cX4_otherEnd, 2, (some .int))
abbrev mX11_has : Mth := (yX11_has, cX11_has, 2, (some .boolean))
abbrev mX10_longer : Mth := (yX10_longer, cX10_longer, 5, (some .int))
abbrev mX11_way : Mth := (yX11_way, cX11_way, 7, (some .int))
abbrev mX10_keyAt : Mth := (yX10_keyAt, cX10_keyAt, 2, (some .int))
abbrev mX10_lateOf : Mth := (yX10_lateOf, cX10_lateOf, 1, (some .int))
abbrev mX10_lineAt : Mth := (yX10_lineAt, cX10_lineAt, 3, (some .int))
abbrev mX10_countOf : Mth := (yX10_countOf, cX10_countOf, 1, (some .int))
abbrev mX11_flow : Mth := (yX11_flow, cX11_flow, 4, (some .int))
abbrev mX11_isTick : Mth := (yX11_isTick, cX11_isTick, 1, (some .boolean))
abbrev mX1_find : Mth := (yX1_find, cX1_find, 7, none)
abbrev mX0_freeAt : Mth := (yX0_freeAt, cX0_freeAt, 4, (some .int))
abbrev mX0_loadAt : Mth := (yX0_loadAt, cX0_loadAt, 3, (some .int))
abbrev mX0_fallAt : Mth := (yX0_fallAt, cX0_fallAt, 3, (some .int))
abbrev mX1_roomOutOf : Mth := (yX1_roomOutOf, cX1_roomOutOf, 5, (some .int))
abbrev mX1_weigh : Mth := (yX1_weigh, cX1_weigh, 4, none)
abbrev mJ6_bitCount_0f7a4 : Mth := (yJ6_bitCount_0f7a4, cJ6_bitCount_0f7a4, 1, (some .int))
abbrev mX11_cut : Mth := (yX11_cut, cX11_cut, 4, (some .int))
abbrev mX11_slice : Mth := (yX11_slice, cX11_slice, 7, (some .int))
abbrev mX11_isKind : Mth := (yX11_isKind, cX11_isKind, 1, (some .boolean))
abbrev mX9_add : Mth := (yX9_add, cX9_add, 7, (some .int))
abbrev mX8_setSpan : Mth := (yX8_setSpan, cX8_setSpan, 5, none)
abbrev mX11_terms : Mth := (yX11_terms, cX11_terms, 7, (some .int))
abbrev mX9_hasSlice : Mth := (yX9_hasSlice, cX9_hasSlice, 2, (some .boolean))
abbrev mX9_at : Mth := (yX9_at, cX9_at, 2, (some (.object "SliceSeller$Slice")))
abbrev mX8_isIn : Mth := (yX8_isIn, cX8_isIn, 1, (some .boolean))
abbrev mX8_setTerms : Mth := (yX8_setTerms, cX8_setTerms, 4, none)
abbrev mX11_span : Mth := (yX11_span, cX11_span, 7, (some .int))
abbrev mX11_as : Mth := (yX11_as, cX11_as, 3, (some .int))
abbrev mX8_isOf : Mth := (yX8_isOf, cX8_isOf, 4, (some .boolean))
abbrev mX11_of : Mth := (yX11_of, cX11_of, 4, (some .int))
abbrev mX8_askedFor : Mth := (yX8_askedFor, cX8_askedFor, 2, (some .int))
abbrev mX8_becameOf : Mth := (yX8_becameOf, cX8_becameOf, 2, (some .int))
abbrev mX8_needed : Mth := (yX8_needed, cX8_needed, 1, (some .int))
abbrev mX11_places : Mth := (yX11_places, cX11_places, 2, (some .int))
abbrev mX9_placesOf : Mth := (yX9_placesOf, cX9_placesOf, 4, (some (.object "SliceSeller$Places")))
abbrev mX6_find : Mth := (yX6_find, cX6_find, 4, none)
abbrev mX6_gather : Mth := (yX6_gather, cX6_gather, 7, none)
abbrev mX10_linesIn : Mth := (yX10_linesIn, cX10_linesIn, 4, (some .int))
abbrev mX6_gatherSpares : Mth := (yX6_gatherSpares, cX6_gatherSpares, 8, none)
abbrev mX5_nodesOn : Mth := (yX5_nodesOn, cX5_nodesOn, 4, (some .int))
abbrev mX6_gatherHosts : Mth := (yX6_gatherHosts, cX6_gatherHosts, 6, none)
abbrev mX11_placeOn : Mth := (yX11_placeOn, cX11_placeOn, 3, (some .int))
abbrev mX11_letIn : Mth := (yX11_letIn, cX11_letIn, 6, (some .int))
abbrev mX6_placeAt : Mth := (yX6_placeAt, cX6_placeAt, 2, (some .int))
abbrev mX11_linesOf : Mth := (yX11_linesOf, cX11_linesOf, 1, (some .int))
abbrev mX11_wayIn : Mth := (yX11_wayIn, cX11_wayIn, 1, (some .int))
abbrev mX11_spareOf : Mth := (yX11_spareOf, cX11_spareOf, 1, (some .int))
abbrev mX0_linesHold : Mth := (yX0_linesHold, cX0_linesHold, 7, (some .boolean))
abbrev mX0_linesHoldAt : Mth := (yX0_linesHoldAt, cX0_linesHoldAt, 9, (some .boolean))
abbrev mX0_fallWith : Mth := (yX0_fallWith, cX0_fallWith, 8, (some .int))
abbrev mJ9_max_7cf53 : Mth := (yJ9_max_7cf53, cJ9_max_7cf53, 2, (some .int))
abbrev mX0_hostHolds : Mth := (yX0_hostHolds, cX0_hostHolds, 8, (some .boolean))
abbrev mX11_hostOf : Mth := (yX11_hostOf, cX11_hostOf, 1, (some .int))
abbrev mX5_workroomOf : Mth := (yX5_workroomOf, cX5_workroomOf, 2, (some .int))
abbrev mX0_worksAt : Mth := (yX0_worksAt, cX0_worksAt, 3, (some .int))
abbrev mX11_comeIn : Mth := (yX11_comeIn, cX11_comeIn, 3, none)
abbrev mX0_enter : Mth := (yX0_enter, cX0_enter, 9, none)
abbrev mX0_enterLines : Mth := (yX0_enterLines, cX0_enterLines, 8, none)
abbrev mX0_enterFalls : Mth := (yX0_enterFalls, cX0_enterFalls, 8, none)
abbrev mX11_why : Mth := (yX11_why, cX11_why, 4, (some .int))
abbrev mX6_keepUp : Mth := (yX6_keepUp, cX6_keepUp, 3, none)
abbrev mX11_whyNoRoom : Mth := (yX11_whyNoRoom, cX11_whyNoRoom, 6, (some .int))
abbrev mX6_upAt : Mth := (yX6_upAt, cX6_upAt, 2, (some .int))
abbrev mX11_out : Mth := (yX11_out, cX11_out, 3, (some .int))
abbrev mX11_goOut : Mth := (yX11_goOut, cX11_goOut, 2, none)
abbrev mX11_wayOf : Mth := (yX11_wayOf, cX11_wayOf, 5, (some .int))
abbrev mX5_lineAlong : Mth := (yX5_lineAlong, cX5_lineAlong, 8, (some .int))
abbrev mX5_lineFrom : Mth := (yX5_lineFrom, cX5_lineFrom, 4, (some .int))
abbrev mX11_host : Mth := (yX11_host, cX11_host, 3, (some .int))
abbrev mX11_load : Mth := (yX11_load, cX11_load, 3, (some .int))
abbrev mX11_fallRoom : Mth := (yX11_fallRoom, cX11_fallRoom, 3, (some .int))
abbrev mX11_work : Mth := (yX11_work, cX11_work, 3, (some .int))
abbrev mX11_spare : Mth := (yX11_spare, cX11_spare, 4, (some .int))
abbrev mJ9_min_7cf53 : Mth := (yJ9_min_7cf53, cJ9_min_7cf53, 2, (some .int))
abbrev mX11_took : Mth := (yX11_took, cX11_took, 6, (some .int))
abbrev mX8_takenWay : Mth := (yX8_takenWay, cX8_takenWay, 2, (some .int))
abbrev mX11_lay : Mth := (yX11_lay, cX11_lay, 3, (some .int))
abbrev mX9_haveAll : Mth := (yX9_haveAll, cX9_haveAll, 2, (some .boolean))
abbrev mX3_begin : Mth := (yX3_begin, cX3_begin, 2, none)
abbrev mX3_findUnlikeTicks : Mth := (yX3_findUnlikeTicks, cX3_findUnlikeTicks, 3, none)
abbrev mX3_countingAt : Mth := (yX3_countingAt, cX3_countingAt, 4, (some .int))
abbrev mX3_isKnown : Mth := (yX3_isKnown, cX3_isKnown, 3, (some .boolean))
abbrev mX3_note : Mth := (yX3_note, cX3_note, 4, none)
abbrev mX3_laid : Mth := (yX3_laid, cX3_laid, 5, (some .boolean))
abbrev mX3_gatherMembers : Mth := (yX3_gatherMembers, cX3_gatherMembers, 3, none)
abbrev mX3_nextPlace : Mth := (yX3_nextPlace, cX3_nextPlace, 6, (some .int))
abbrev mX3_put : Mth := (yX3_put, cX3_put, 3, none)
abbrev mX3_takeBack : Mth := (yX3_takeBack, cX3_takeBack, 3, none)
abbrev mX11_takeOver : Mth := (yX11_takeOver, cX11_takeOver, 6, (some .int))
abbrev mX3_placeGot : Mth := (yX3_placeGot, cX3_placeGot, 2, (some .int))
abbrev mX11_can : Mth := (yX11_can, cX11_can, 3, (some .int))
abbrev mX11_best : Mth := (yX11_best, cX11_best, 2, (some .int))
abbrev mX3_dearest : Mth := (yX3_dearest, cX3_dearest, 4, (some .int))
abbrev mX3_orderSets : Mth := (yX3_orderSets, cX3_orderSets, 3, (some .int))
abbrev mX3_mergeShifted : Mth := (yX3_mergeShifted, cX3_mergeShifted, 7, none)
abbrev mX11_tries : Mth := (yX11_tries, cX11_tries, 1, (some .int))
abbrev mX11_offer : Mth := (yX11_offer, cX11_offer, 4, (some .int))
abbrev mX11_run : Mth := (yX11_run, cX11_run, 4, (some .int))
abbrev mX2_doTick : Mth := (yX2_doTick, cX2_doTick, 1, none)
abbrev mX2_forgetLatest : Mth := (yX2_forgetLatest, cX2_forgetLatest, 2, none)
abbrev mX2_passNeeds : Mth := (yX2_passNeeds, cX2_passNeeds, 4, none)
abbrev mX2_wayNow : Mth := (yX2_wayNow, cX2_wayNow, 2, (some .int))
abbrev mX2_leftOn : Mth := (yX2_leftOn, cX2_leftOn, 4, (some .int))
abbrev mX4_leftNow : Mth := (yX4_leftNow, cX4_leftNow, 1, (some .int))
abbrev mX2_pass : Mth := (yX2_pass, cX2_pass, 6, none)
abbrev mX4_pass : Mth := (yX4_pass, cX4_pass, 2, none)
abbrev mX2_lend : Mth := (yX2_lend, cX2_lend, 5, none)
abbrev mX2_canBorrow : Mth := (yX2_canBorrow, cX2_canBorrow, 3, (some .boolean))
abbrev mX11_about : Mth := (yX11_about, cX11_about, 3, (some .int))
abbrev mX4_tell : Mth := (yX4_tell, cX4_tell, 2, (some .int))
abbrev mX11_sheet : Mth := (yX11_sheet, cX11_sheet, 4, (some .int))
abbrev mX11_isSheet : Mth := (yX11_isSheet, cX11_isSheet, 1, (some .boolean))
abbrev mX7_begin : Mth := (yX7_begin, cX7_begin, 4, (some .int))
abbrev mX11_write : Mth := (yX11_write, cX11_write, 4, (some .int))
abbrev mX7_isMissing : Mth := (yX7_isMissing, cX7_isMissing, 1, (some .boolean))
abbrev mX7_put : Mth := (yX7_put, cX7_put, 4, (some .int))
abbrev mX7_lowest : Mth := (yX7_lowest, cX7_lowest, 2, (some .int))
abbrev mX11_copy : Mth := (yX11_copy, cX11_copy, 6, (some .int))
abbrev mX7_hasRun : Mth := (yX7_hasRun, cX7_hasRun, 3, (some .boolean))
abbrev mX11_read : Mth := (yX11_read, cX11_read, 3, (some .int))
abbrev mX7_hasAbove : Mth := (yX7_hasAbove, cX7_hasAbove, 3, (some .boolean))
abbrev mX9_wouldOverflow : Mth := (yX9_wouldOverflow, cX9_wouldOverflow, 3, (some .boolean))
abbrev mX7_unitsAt : Mth := (yX7_unitsAt, cX7_unitsAt, 2, (some .int))
abbrev mX9_offerAll : Mth := (yX9_offerAll, cX9_offerAll, 4, (some .int))
abbrev mX11_told : Mth := (yX11_told, cX11_told, 2, (some .int))
abbrev mX9_countIn : Mth := (yX9_countIn, cX9_countIn, 3, (some .int))
abbrev mX12_init : Mth := (yX12_init, cX12_init, 1, none)
abbrev mX12_node : Mth := (yX12_node, cX12_node, 2, (some .int))
abbrev mX12_in : Mth := (yX12_in, cX12_in, 3, (some .boolean))
abbrev mX12_finds : Mth := (yX12_finds, cX12_finds, 2, (some .int))
abbrev mX12_line : Mth := (yX12_line, cX12_line, 6, (some .int))
abbrev mX12_isNode : Mth := (yX12_isNode, cX12_isNode, 2, (some .boolean))
abbrev mX12_up : Mth := (yX12_up, cX12_up, 4, (some .int))
abbrev mX12_isLine : Mth := (yX12_isLine, cX12_isLine, 2, (some .boolean))
abbrev mX12_ways : Mth := (yX12_ways, cX12_ways, 3, (some .int))
abbrev mX12_areNodes : Mth := (yX12_areNodes, cX12_areNodes, 3, (some .boolean))
abbrev mX12_gather : Mth := (yX12_gather, cX12_gather, 8, none)
abbrev mX12_has : Mth := (yX12_has, cX12_has, 2, (some .boolean))
abbrev mX12_record : Mth := (yX12_record, cX12_record, 8, none)
abbrev mX12_isAhead : Mth := (yX12_isAhead, cX12_isAhead, 5, (some .boolean))
abbrev mX12_way : Mth := (yX12_way, cX12_way, 6, (some .int))
abbrev mX12_digit : Mth := (yX12_digit, cX12_digit, 5, (some .int))
abbrev mX12_slice : Mth := (yX12_slice, cX12_slice, 6, (some .int))
abbrev mX12_terms : Mth := (yX12_terms, cX12_terms, 5, (some .int))
abbrev mX12_isSlice : Mth := (yX12_isSlice, cX12_isSlice, 2, (some .boolean))
abbrev mX12_span : Mth := (yX12_span, cX12_span, 5, (some .int))
abbrev mX12_isTick : Mth := (yX12_isTick, cX12_isTick, 1, (some .boolean))
abbrev mX12_as : Mth := (yX12_as, cX12_as, 5, (some .int))
abbrev mX12_of : Mth := (yX12_of, cX12_of, 3, (some .int))
abbrev mX12_need : Mth := (yX12_need, cX12_need, 2, (some .int))
abbrev mX12_load : Mth := (yX12_load, cX12_load, 3, (some .int))
abbrev mX12_countingAt : Mth := (yX12_countingAt, cX12_countingAt, 4, (some .int))
abbrev mX12_does : Mth := (yX12_does, cX12_does, 3, (some .boolean))
abbrev mX12_loadOf : Mth := (yX12_loadOf, cX12_loadOf, 5, (some .int))
abbrev mX12_fallRoom : Mth := (yX12_fallRoom, cX12_fallRoom, 3, (some .int))
abbrev mX12_fallOf : Mth := (yX12_fallOf, cX12_fallOf, 7, (some .int))
abbrev mX12_work : Mth := (yX12_work, cX12_work, 3, (some .int))
abbrev mX12_workOf : Mth := (yX12_workOf, cX12_workOf, 5, (some .int))
abbrev mX12_spare : Mth := (yX12_spare, cX12_spare, 4, (some .int))
abbrev mX12_leftOf : Mth := (yX12_leftOf, cX12_leftOf, 4, (some .int))
abbrev mX12_flow : Mth := (yX12_flow, cX12_flow, 4, (some .int))
abbrev mX12_findCut : Mth := (yX12_findCut, cX12_findCut, 7, none)
abbrev mX12_ones : Mth := (yX12_ones, cX12_ones, 3, (some .int))
abbrev mX12_cut : Mth := (yX12_cut, cX12_cut, 4, (some .int))
abbrev mX12_places : Mth := (yX12_places, cX12_places, 3, (some .int))
abbrev mX12_start : Mth := (yX12_start, cX12_start, 2, none)
abbrev mX12_advance : Mth := (yX12_advance, cX12_advance, 7, (some .boolean))
abbrev mX12_letIn : Mth := (yX12_letIn, cX12_letIn, 2, (some .int))
abbrev mX12_puts : Mth := (yX12_puts, cX12_puts, 5, (some .boolean))
abbrev mX12_areUp : Mth := (yX12_areUp, cX12_areUp, 3, (some .boolean))
abbrev mX12_holds : Mth := (yX12_holds, cX12_holds, 6, (some .boolean))
abbrev mX12_linesHold : Mth := (yX12_linesHold, cX12_linesHold, 3, (some .boolean))
abbrev mX12_why : Mth := (yX12_why, cX12_why, 7, (some .int))
abbrev mX12_out : Mth := (yX12_out, cX12_out, 2, (some .int))
abbrev mX12_wayOf : Mth := (yX12_wayOf, cX12_wayOf, 4, (some .int))
abbrev mX12_host : Mth := (yX12_host, cX12_host, 2, (some .int))
abbrev mX12_took : Mth := (yX12_took, cX12_took, 4, (some .int))
abbrev mX12_takes : Mth := (yX12_takes, cX12_takes, 4, (some .int))
abbrev mX12_lay : Mth := (yX12_lay, cX12_lay, 6, (some .int))
abbrev mX12_isOfThem : Mth := (yX12_isOfThem, cX12_isOfThem, 2, (some .boolean))
abbrev mX12_keeps : Mth := (yX12_keeps, cX12_keeps, 2, none)
abbrev mX12_lays : Mth := (yX12_lays, cX12_lays, 4, (some .int))
abbrev mX12_after : Mth := (yX12_after, cX12_after, 4, (some .int))
abbrev mX12_comesIn : Mth := (yX12_comesIn, cX12_comesIn, 2, (some .int))
abbrev mX12_before : Mth := (yX12_before, cX12_before, 4, (some .int))
abbrev mX12_backTo : Mth := (yX12_backTo, cX12_backTo, 2, none)
abbrev mX12_can : Mth := (yX12_can, cX12_can, 3, (some .int))
abbrev mX12_best : Mth := (yX12_best, cX12_best, 3, (some .int))
abbrev mX12_worthOf : Mth := (yX12_worthOf, cX12_worthOf, 4, (some .int))
abbrev mX12_tries : Mth := (yX12_tries, cX12_tries, 1, (some .int))
abbrev mX12_offer : Mth := (yX12_offer, cX12_offer, 3, (some .int))
abbrev mX12_run : Mth := (yX12_run, cX12_run, 4, (some .int))
abbrev mX12_oneTick : Mth := (yX12_oneTick, cX12_oneTick, 5, none)
abbrev mX12_leftIn : Mth := (yX12_leftIn, cX12_leftIn, 4, (some .int))
abbrev mX12_passes : Mth := (yX12_passes, cX12_passes, 6, none)
abbrev mX12_about : Mth := (yX12_about, cX12_about, 3, (some .int))
abbrev mX12_sheet : Mth := (yX12_sheet, cX12_sheet, 5, (some .int))
abbrev mX12_isSheet : Mth := (yX12_isSheet, cX12_isSheet, 1, (some .boolean))
abbrev mX12_write : Mth := (yX12_write, cX12_write, 5, (some .int))
abbrev mX12_copy : Mth := (yX12_copy, cX12_copy, 7, (some .int))
abbrev mX12_read : Mth := (yX12_read, cX12_read, 5, (some .int))
abbrev mX12_told : Mth := (yX12_told, cX12_told, 2, (some .int))
abbrev mX12_countIn : Mth := (yX12_countIn, cX12_countIn, 3, (some .int))
end
section
theorem kX11_init : yOK mX11_init 0 := ⟨(TBg_mem (List.mem_of_getElem? (i := 91) (by decide +kernel)) (by decide +kernel)), (TBg_mem (List.mem_of_getElem? (i := 71) (by decide +kernel)) (by decide +kernel)), ⟨by decide +kernel, by decide +kernel, by decide +kernel⟩, by decide⟩
theorem vX11_init : iMeth mX11_init := ⟨rfl, (TBg_mem (List.mem_of_getElem? (i := 90) (by decide +kernel)) (by decide +kernel))⟩
theorem kX5_init : yOK mX5_init 0 := ⟨(TBg_mem (List.mem_of_getElem? (i := 99) (by decide +kernel)) (by decide +kernel)), (TBg_mem (List.mem_of_getElem? (i := 72) (by decide +kernel)) (by decide +kernel)), ⟨by decide +kernel, by decide +kernel, by decide +kernel⟩, by decide⟩
theorem vX5_init : iMeth mX5_init := ⟨rfl, (TBg_mem (List.mem_of_getElem? (i := 98) (by decide +kernel)) (by decide +kernel))⟩
theorem kX10_init : yOK mX10_init 0 := ⟨(TBg_mem (List.mem_of_getElem? (i := 107) (by decide +kernel)) (by decide +kernel)), (TBg_mem (List.mem_of_getElem? (i := 73) (by decide +kernel)) (by decide +kernel)), ⟨by decide +kernel, by decide +kernel, by decide +kernel⟩, by decide⟩
theorem vX10_init : iMeth mX10_init := ⟨rfl, (TBg_mem (List.mem_of_getElem? (i := 106) (by decide +kernel)) (by decide +kernel))⟩
theorem kX4_init : yOK mX4_init 0 := ⟨(TBg_mem (List.mem_of_getElem? (i := 131) (by decide +kernel)) (by decide +kernel)), (TBg_mem (List.mem_of_getElem? (i := 74) (by decide +kernel)) (by decide +kernel)), ⟨by decide +kernel, by decide +kernel, by decide +kernel⟩, by decide⟩
theorem vX4_init : iMeth mX4_init := ⟨rfl, (TBg_mem (List.mem_of_getElem? (i := 130) (by decide +kernel)) (by decide +kernel))⟩
theorem kX9_init : yOK mX9_init 0 := ⟨(TBg_mem (List.mem_of_getElem? (i := 203) (by decide +kernel)) (by decide +kernel)), (TBg_mem (List.mem_of_getElem? (i := 75) (by decide +kernel)) (by decide +kernel)), ⟨by decide +kernel, by decide +kernel, by decide +kernel⟩, by decide⟩
theorem vX9_init : iMeth mX9_init := ⟨rfl, (TBg_mem (List.mem_of_getElem? (i := 202) (by decide +kernel)) (by decide +kernel))⟩
theorem kX8_init : yOK mX8_init 0 := ⟨(TBg_mem (List.mem_of_getElem? (i := 210) (by decide +kernel)) (by decide +kernel)), (TBg_mem (List.mem_of_getElem? (i := 76) (by decide +kernel)) (by decide +kernel)), ⟨by decide +kernel, by decide +kernel, by decide +kernel⟩, by decide⟩
theorem vX8_init : iMeth mX8_init := ⟨rfl, (TBg_mem (List.mem_of_getElem? (i := 209) (by decide +kernel)) (by decide +kernel))⟩
theorem kX6_init : yOK mX6_init 0 := ⟨(TBg_mem (List.mem_of_getElem? (i := 216) (by decide +kernel)) (by decide +kernel)), (TBg_mem (List.mem_of_getElem? (i := 77) (by decide +kernel)) (by decide +kernel)), ⟨by decide +kernel, by decide +kernel, by decide +kernel⟩, by decide⟩
theorem vX6_init : iMeth mX6_init := ⟨rfl, (TBg_mem (List.mem_of_getElem? (i := 215) (by decide +kernel)) (by decide +kernel))⟩
theorem kX0_init : yOK mX0_init 0 := ⟨(TBg_mem (List.mem_of_getElem? (i := 335) (by decide +kernel)) (by decide +kernel)), (TBg_mem (List.mem_of_getElem? (i := 78) (by decide +kernel)) (by decide +kernel)), ⟨by decide +kernel, by decide +kernel, by decide +kernel⟩, by decide⟩
theorem vX0_init : iMeth mX0_init := ⟨rfl, (TBg_mem (List.mem_of_getElem? (i := 334) (by decide +kernel)) (by decide +kernel))⟩
theorem kX1_init : yOK mX1_init 0 := ⟨(TBg_mem (List.mem_of_getElem? (i := 358) (by decide +kernel)) (by decide +kernel)), (TBg_mem (List.mem_of_getElem? (i := 79) (by decide +kernel)) (by decide +kernel)), ⟨by decide +kernel, by decide +kernel, by decide +kernel⟩, by decide⟩
theorem vX1_init : iMeth mX1_init := ⟨rfl, (TBg_mem (List.mem_of_getElem? (i := 357) (by decide +kernel)) (by decide +kernel))⟩
theorem kX3_init : yOK mX3_init 2 := ⟨(TBg_mem (List.mem_of_getElem? (i := 376) (by decide +kernel)) (by decide +kernel)), (TBg_mem (List.mem_of_getElem? (i := 80) (by decide +kernel)) (by decide +kernel)), ⟨by decide +kernel, by decide +kernel, by decide +kernel⟩, by decide⟩
theorem vX3_init : iMeth mX3_init := ⟨rfl, (TBg_mem (List.mem_of_getElem? (i := 375) (by decide +kernel)) (by decide +kernel))⟩
theorem kX2_init : yOK mX2_init 2 := ⟨(TBg_mem (List.mem_of_getElem? (i := 426) (by decide +kernel)) (by decide +kernel)), (TBg_mem (List.mem_of_getElem? (i := 81) (by decide +kernel)) (by decide +kernel)), ⟨by decide +kernel, by decide +kernel, by decide +kernel⟩, by decide⟩
theorem vX2_init : iMeth mX2_init := ⟨rfl, (TBg_mem (List.mem_of_getElem? (i := 425) (by decide +kernel)) (by decide +kernel))⟩
theorem kX7_init : yOK mX7_init 0 := ⟨(TBg_mem (List.mem_of_getElem? (i := 455) (by decide +kernel)) (by decide +kernel)), (TBg_mem (List.mem_of_getElem? (i := 82) (by decide +kernel)) (by decide +kernel)), ⟨by decide +kernel, by decide +kernel, by decide +kernel⟩, by decide⟩
theorem vX7_init : iMeth mX7_init := ⟨rfl, (TBg_mem (List.mem_of_getElem? (i := 454) (by decide +kernel)) (by decide +kernel))⟩
theorem kX11_node : yOK mX11_node 1 := ⟨(TBg_mem (List.mem_of_getElem? (i := 499) (by decide +kernel)) (by decide +kernel)), (TBg_mem (List.mem_of_getElem? (i := 71) (by decide +kernel)) (by decide +kernel)), ⟨by decide +kernel, by decide +kernel, by decide +kernel⟩, by decide⟩
theorem vX11_node : vMeth mX11_node := ⟨(TBg_mem (List.mem_of_getElem? (i := 497) (by decide +kernel)) (by decide +kernel)), (TBg_mem (List.mem_of_getElem? (i := 498) (by decide +kernel)) (by decide +kernel))⟩
theorem kX11_isWithin : yOK mX11_isWithin 3 := ⟨(TBg_mem (List.mem_of_getElem? (i := 502) (by decide +kernel)) (by decide +kernel)), (TBg_mem (List.mem_of_getElem? (i := 71) (by decide +kernel)) (by decide +kernel)), ⟨by decide +kernel, by decide +kernel, by decide +kernel⟩, by decide⟩
theorem vX11_isWithin : sMeth mX11_isWithin := (TBg_mem (List.mem_of_getElem? (i := 501) (by decide +kernel)) (by decide +kernel))
theorem kX11_finding : yOK mX11_finding 1 := ⟨(TBg_mem (List.mem_of_getElem? (i := 507) (by decide +kernel)) (by decide +kernel)), (TBg_mem (List.mem_of_getElem? (i := 71) (by decide +kernel)) (by decide +kernel)), ⟨by decide +kernel, by decide +kernel, by decide +kernel⟩, by decide⟩
theorem vX11_finding : vMeth mX11_finding := ⟨(TBg_mem (List.mem_of_getElem? (i := 506) (by decide +kernel)) (by decide +kernel)), (TBg_mem (List.mem_of_getElem? (i := 0) (by decide +kernel)) (by decide +kernel))⟩
theorem kX5_addNode : yOK mX5_addNode 1 := ⟨(TBg_mem (List.mem_of_getElem? (i := 512) (by decide +kernel)) (by decide +kernel)), (TBg_mem (List.mem_of_getElem? (i := 72) (by decide +kernel)) (by decide +kernel)), ⟨by decide +kernel, by decide +kernel, by decide +kernel⟩, by decide⟩
theorem vX5_addNode : vMeth mX5_addNode := ⟨(TBg_mem (List.mem_of_getElem? (i := 510) (by decide +kernel)) (by decide +kernel)), (TBg_mem (List.mem_of_getElem? (i := 511) (by decide +kernel)) (by decide +kernel))⟩
theorem kX11_line : yOK mX11_line 5 := ⟨(TBg_mem (List.mem_of_getElem? (i := 516) (by decide +kernel)) (by decide +kernel)), (TBg_mem (List.mem_of_getElem? (i := 71) (by decide +kernel)) (by decide +kernel)), ⟨by decide +kernel, by decide +kernel, by decide +kernel⟩, by decide⟩
theorem vX11_line : vMeth mX11_line := ⟨(TBg_mem (List.mem_of_getElem? (i := 514) (by decide +kernel)) (by decide +kernel)), (TBg_mem (List.mem_of_getElem? (i := 515) (by decide +kernel)) (by decide +kernel))⟩
theorem kX5_areTwoNodes : yOK mX5_areTwoNodes 2 := ⟨(TBg_mem (List.mem_of_getElem? (i := 520) (by decide +kernel)) (by decide +kernel)), (TBg_mem (List.mem_of_getElem? (i := 72) (by decide +kernel)) (by decide +kernel)), ⟨by decide +kernel, by decide +kernel, by decide +kernel⟩, by decide⟩
theorem vX5_areTwoNodes : vMeth mX5_areTwoNodes := ⟨(TBg_mem (List.mem_of_getElem? (i := 518) (by decide +kernel)) (by decide +kernel)), (TBg_mem (List.mem_of_getElem? (i := 519) (by decide +kernel)) (by decide +kernel))⟩
theorem kX5_hasNode : yOK mX5_hasNode 1 := ⟨(TBg_mem (List.mem_of_getElem? (i := 524) (by decide +kernel)) (by decide +kernel)), (TBg_mem (List.mem_of_getElem? (i := 72) (by decide +kernel)) (by decide +kernel)), ⟨by decide +kernel, by decide +kernel, by decide +kernel⟩, by decide⟩
theorem vX5_hasNode : vMeth mX5_hasNode := ⟨(TBg_mem (List.mem_of_getElem? (i := 522) (by decide +kernel)) (by decide +kernel)), (TBg_mem (List.mem_of_getElem? (i := 523) (by decide +kernel)) (by decide +kernel))⟩
theorem kX5_addLine : yOK mX5_addLine 5 := ⟨(TBg_mem (List.mem_of_getElem? (i := 528) (by decide +kernel)) (by decide +kernel)), (TBg_mem (List.mem_of_getElem? (i := 72) (by decide +kernel)) (by decide +kernel)), ⟨by decide +kernel, by decide +kernel, by decide +kernel⟩, by decide⟩
theorem vX5_addLine : vMeth mX5_addLine := ⟨(TBg_mem (List.mem_of_getElem? (i := 526) (by decide +kernel)) (by decide +kernel)), (TBg_mem (List.mem_of_getElem? (i := 527) (by decide +kernel)) (by decide +kernel))⟩
theorem kX11_up : yOK mX11_up 2 := ⟨(TBg_mem (List.mem_of_getElem? (i := 532) (by decide +kernel)) (by decide +kernel)), (TBg_mem (List.mem_of_getElem? (i := 71) (by decide +kernel)) (by decide +kernel)), ⟨by decide +kernel, by decide +kernel, by decide +kernel⟩, by decide⟩
theorem vX11_up : vMeth mX11_up := ⟨(TBg_mem (List.mem_of_getElem? (i := 530) (by decide +kernel)) (by decide +kernel)), (TBg_mem (List.mem_of_getElem? (i := 531) (by decide +kernel)) (by decide +kernel))⟩
theorem kX5_hasLine : yOK mX5_hasLine 1 := ⟨(TBg_mem (List.mem_of_getElem? (i := 536) (by decide +kernel)) (by decide +kernel)), (TBg_mem (List.mem_of_getElem? (i := 72) (by decide +kernel)) (by decide +kernel)), ⟨by decide +kernel, by decide +kernel, by decide +kernel⟩, by decide⟩
theorem vX5_hasLine : vMeth mX5_hasLine := ⟨(TBg_mem (List.mem_of_getElem? (i := 534) (by decide +kernel)) (by decide +kernel)), (TBg_mem (List.mem_of_getElem? (i := 535) (by decide +kernel)) (by decide +kernel))⟩
theorem kX5_setUp : yOK mX5_setUp 2 := ⟨(TBg_mem (List.mem_of_getElem? (i := 540) (by decide +kernel)) (by decide +kernel)), (TBg_mem (List.mem_of_getElem? (i := 72) (by decide +kernel)) (by decide +kernel)), ⟨by decide +kernel, by decide +kernel, by decide +kernel⟩, by decide⟩
theorem vX5_setUp : vMeth mX5_setUp := ⟨(TBg_mem (List.mem_of_getElem? (i := 538) (by decide +kernel)) (by decide +kernel)), (TBg_mem (List.mem_of_getElem? (i := 539) (by decide +kernel)) (by decide +kernel))⟩
theorem kX5_isUp : yOK mX5_isUp 1 := ⟨(TBg_mem (List.mem_of_getElem? (i := 544) (by decide +kernel)) (by decide +kernel)), (TBg_mem (List.mem_of_getElem? (i := 72) (by decide +kernel)) (by decide +kernel)), ⟨by decide +kernel, by decide +kernel, by decide +kernel⟩, by decide⟩
theorem vX5_isUp : vMeth mX5_isUp := ⟨(TBg_mem (List.mem_of_getElem? (i := 542) (by decide +kernel)) (by decide +kernel)), (TBg_mem (List.mem_of_getElem? (i := 543) (by decide +kernel)) (by decide +kernel))⟩
theorem kX11_ways : yOK mX11_ways 2 := ⟨(TBg_mem (List.mem_of_getElem? (i := 548) (by decide +kernel)) (by decide +kernel)), (TBg_mem (List.mem_of_getElem? (i := 71) (by decide +kernel)) (by decide +kernel)), ⟨by decide +kernel, by decide +kernel, by decide +kernel⟩, by decide⟩
theorem vX11_ways : vMeth mX11_ways := ⟨(TBg_mem (List.mem_of_getElem? (i := 546) (by decide +kernel)) (by decide +kernel)), (TBg_mem (List.mem_of_getElem? (i := 547) (by decide +kernel)) (by decide +kernel))⟩
theorem kX5_waysBetween : yOK mX5_waysBetween 2 := ⟨(TBg_mem (List.mem_of_getElem? (i := 552) (by decide +kernel)) (by decide +kernel)), (TBg_mem (List.mem_of_getElem? (i := 72) (by decide +kernel)) (by decide +kernel)), ⟨by decide +kernel, by decide +kernel, by decide +kernel⟩, by decide⟩
theorem vX5_waysBetween : vMeth mX5_waysBetween := ⟨(TBg_mem (List.mem_of_getElem? (i := 550) (by decide +kernel)) (by decide +kernel)), (TBg_mem (List.mem_of_getElem? (i := 551) (by decide +kernel)) (by decide +kernel))⟩
theorem kX10_find : yOK mX10_find 3 := ⟨(TBg_mem (List.mem_of_getElem? (i := 556) (by decide +kernel)) (by decide +kernel)), (TBg_mem (List.mem_of_getElem? (i := 73) (by decide +kernel)) (by decide +kernel)), ⟨by decide +kernel, by decide +kernel, by decide +kernel⟩, by decide⟩
theorem vX10_find : vMeth mX10_find := ⟨(TBg_mem (List.mem_of_getElem? (i := 554) (by decide +kernel)) (by decide +kernel)), (TBg_mem (List.mem_of_getElem? (i := 555) (by decide +kernel)) (by decide +kernel))⟩
theorem kX10_extend : yOK mX10_extend 5 := ⟨(TBg_mem (List.mem_of_getElem? (i := 560) (by decide +kernel)) (by decide +kernel)), (TBg_mem (List.mem_of_getElem? (i := 73) (by decide +kernel)) (by decide +kernel)), ⟨by decide +kernel, by decide +kernel, by decide +kernel⟩, by decide⟩
theorem vX10_extend : vMeth mX10_extend := ⟨(TBg_mem (List.mem_of_getElem? (i := 559) (by decide +kernel)) (by decide +kernel)), (TBg_mem (List.mem_of_getElem? (i := 1) (by decide +kernel)) (by decide +kernel))⟩
theorem kX10_insert : yOK mX10_insert 1 := ⟨(TBg_mem (List.mem_of_getElem? (i := 564) (by decide +kernel)) (by decide +kernel)), (TBg_mem (List.mem_of_getElem? (i := 73) (by decide +kernel)) (by decide +kernel)), ⟨by decide +kernel, by decide +kernel, by decide +kernel⟩, by decide⟩
theorem vX10_insert : vMeth mX10_insert := ⟨(TBg_mem (List.mem_of_getElem? (i := 563) (by decide +kernel)) (by decide +kernel)), (TBg_mem (List.mem_of_getElem? (i := 2) (by decide +kernel)) (by decide +kernel))⟩
theorem kX5_lineAt : yOK mX5_lineAt 1 := ⟨(TBg_mem (List.mem_of_getElem? (i := 568) (by decide +kernel)) (by decide +kernel)), (TBg_mem (List.mem_of_getElem? (i := 72) (by decide +kernel)) (by decide +kernel)), ⟨by decide +kernel, by decide +kernel, by decide +kernel⟩, by decide⟩
theorem vX5_lineAt : vMeth mX5_lineAt := ⟨(TBg_mem (List.mem_of_getElem? (i := 566) (by decide +kernel)) (by decide +kernel)), (TBg_mem (List.mem_of_getElem? (i := 567) (by decide +kernel)) (by decide +kernel))⟩
theorem kX4_otherEnd : yOK mX4_otherEnd 1 := ⟨(TBg_mem (List.mem_of_getElem? (i := 572) (by decide +kernel)) (by decide +kernel)), (TBg_mem (List.mem_of_getElem? (i := 74) (by decide +kernel)) (by decide +kernel)), ⟨by decide +kernel, by decide +kernel, by decide +kernel⟩, by decide⟩
theorem vX4_otherEnd : vMeth mX4_otherEnd := ⟨(TBg_mem (List.mem_of_getElem? (i := 570) (by decide +kernel)) (by decide +kernel)), (TBg_mem (List.mem_of_getElem? (i := 571) (by decide +kernel)) (by decide +kernel))⟩
theorem kX11_has : yOK mX11_has 2 := ⟨(TBg_mem (List.mem_of_getElem? (i := 575) (by decide +kernel)) (by decide +kernel)), (TBg_mem (List.mem_of_getElem? (i := 71) (by decide +kernel)) (by decide +kernel)), ⟨by decide +kernel, by decide +kernel, by decide +kernel⟩, by decide⟩
theorem vX11_has : sMeth mX11_has := (TBg_mem (List.mem_of_getElem? (i := 574) (by decide +kernel)) (by decide +kernel))
theorem kX10_longer : yOK mX10_longer 3 := ⟨(TBg_mem (List.mem_of_getElem? (i := 578) (by decide +kernel)) (by decide +kernel)), (TBg_mem (List.mem_of_getElem? (i := 73) (by decide +kernel)) (by decide +kernel)), ⟨by decide +kernel, by decide +kernel, by decide +kernel⟩, by decide⟩
theorem vX10_longer : sMeth mX10_longer := (TBg_mem (List.mem_of_getElem? (i := 577) (by decide +kernel)) (by decide +kernel))
theorem kX11_way : yOK mX11_way 4 := ⟨(TBg_mem (List.mem_of_getElem? (i := 584) (by decide +kernel)) (by decide +kernel)), (TBg_mem (List.mem_of_getElem? (i := 71) (by decide +kernel)) (by decide +kernel)), ⟨by decide +kernel, by decide +kernel, by decide +kernel⟩, by decide⟩
theorem vX11_way : vMeth mX11_way := ⟨(TBg_mem (List.mem_of_getElem? (i := 582) (by decide +kernel)) (by decide +kernel)), (TBg_mem (List.mem_of_getElem? (i := 583) (by decide +kernel)) (by decide +kernel))⟩
theorem kX10_keyAt : yOK mX10_keyAt 1 := ⟨(TBg_mem (List.mem_of_getElem? (i := 589) (by decide +kernel)) (by decide +kernel)), (TBg_mem (List.mem_of_getElem? (i := 73) (by decide +kernel)) (by decide +kernel)), ⟨by decide +kernel, by decide +kernel, by decide +kernel⟩, by decide⟩
theorem vX10_keyAt : vMeth mX10_keyAt := ⟨(TBg_mem (List.mem_of_getElem? (i := 587) (by decide +kernel)) (by decide +kernel)), (TBg_mem (List.mem_of_getElem? (i := 588) (by decide +kernel)) (by decide +kernel))⟩
theorem kX10_lateOf : yOK mX10_lateOf 1 := ⟨(TBg_mem (List.mem_of_getElem? (i := 592) (by decide +kernel)) (by decide +kernel)), (TBg_mem (List.mem_of_getElem? (i := 73) (by decide +kernel)) (by decide +kernel)), ⟨by decide +kernel, by decide +kernel, by decide +kernel⟩, by decide⟩
theorem vX10_lateOf : sMeth mX10_lateOf := (TBg_mem (List.mem_of_getElem? (i := 591) (by decide +kernel)) (by decide +kernel))
theorem kX10_lineAt : yOK mX10_lineAt 2 := ⟨(TBg_mem (List.mem_of_getElem? (i := 595) (by decide +kernel)) (by decide +kernel)), (TBg_mem (List.mem_of_getElem? (i := 73) (by decide +kernel)) (by decide +kernel)), ⟨by decide +kernel, by decide +kernel, by decide +kernel⟩, by decide⟩
theorem vX10_lineAt : sMeth mX10_lineAt := (TBg_mem (List.mem_of_getElem? (i := 594) (by decide +kernel)) (by decide +kernel))
theorem kX10_countOf : yOK mX10_countOf 1 := ⟨(TBg_mem (List.mem_of_getElem? (i := 598) (by decide +kernel)) (by decide +kernel)), (TBg_mem (List.mem_of_getElem? (i := 73) (by decide +kernel)) (by decide +kernel)), ⟨by decide +kernel, by decide +kernel, by decide +kernel⟩, by decide⟩
theorem vX10_countOf : sMeth mX10_countOf := (TBg_mem (List.mem_of_getElem? (i := 597) (by decide +kernel)) (by decide +kernel))
theorem kX11_flow : yOK mX11_flow 3 := ⟨(TBg_mem (List.mem_of_getElem? (i := 602) (by decide +kernel)) (by decide +kernel)), (TBg_mem (List.mem_of_getElem? (i := 71) (by decide +kernel)) (by decide +kernel)), ⟨by decide +kernel, by decide +kernel, by decide +kernel⟩, by decide⟩
theorem vX11_flow : vMeth mX11_flow := ⟨(TBg_mem (List.mem_of_getElem? (i := 600) (by decide +kernel)) (by decide +kernel)), (TBg_mem (List.mem_of_getElem? (i := 601) (by decide +kernel)) (by decide +kernel))⟩
theorem kX11_isTick : yOK mX11_isTick 1 := ⟨(TBg_mem (List.mem_of_getElem? (i := 605) (by decide +kernel)) (by decide +kernel)), (TBg_mem (List.mem_of_getElem? (i := 71) (by decide +kernel)) (by decide +kernel)), ⟨by decide +kernel, by decide +kernel, by decide +kernel⟩, by decide⟩
theorem vX11_isTick : sMeth mX11_isTick := (TBg_mem (List.mem_of_getElem? (i := 604) (by decide +kernel)) (by decide +kernel))
theorem kX1_find : yOK mX1_find 5 := ⟨(TBg_mem (List.mem_of_getElem? (i := 609) (by decide +kernel)) (by decide +kernel)), (TBg_mem (List.mem_of_getElem? (i := 79) (by decide +kernel)) (by decide +kernel)), ⟨by decide +kernel, by decide +kernel, by decide +kernel⟩, by decide⟩
theorem vX1_find : vMeth mX1_find := ⟨(TBg_mem (List.mem_of_getElem? (i := 607) (by decide +kernel)) (by decide +kernel)), (TBg_mem (List.mem_of_getElem? (i := 608) (by decide +kernel)) (by decide +kernel))⟩
theorem kX0_freeAt : yOK mX0_freeAt 3 := ⟨(TBg_mem (List.mem_of_getElem? (i := 614) (by decide +kernel)) (by decide +kernel)), (TBg_mem (List.mem_of_getElem? (i := 78) (by decide +kernel)) (by decide +kernel)), ⟨by decide +kernel, by decide +kernel, by decide +kernel⟩, by decide⟩
theorem vX0_freeAt : vMeth mX0_freeAt := ⟨(TBg_mem (List.mem_of_getElem? (i := 612) (by decide +kernel)) (by decide +kernel)), (TBg_mem (List.mem_of_getElem? (i := 613) (by decide +kernel)) (by decide +kernel))⟩
theorem kX0_loadAt : yOK mX0_loadAt 2 := ⟨(TBg_mem (List.mem_of_getElem? (i := 619) (by decide +kernel)) (by decide +kernel)), (TBg_mem (List.mem_of_getElem? (i := 78) (by decide +kernel)) (by decide +kernel)), ⟨by decide +kernel, by decide +kernel, by decide +kernel⟩, by decide⟩
theorem vX0_loadAt : vMeth mX0_loadAt := ⟨(TBg_mem (List.mem_of_getElem? (i := 617) (by decide +kernel)) (by decide +kernel)), (TBg_mem (List.mem_of_getElem? (i := 618) (by decide +kernel)) (by decide +kernel))⟩
theorem kX0_fallAt : yOK mX0_fallAt 2 := ⟨(TBg_mem (List.mem_of_getElem? (i := 623) (by decide +kernel)) (by decide +kernel)), (TBg_mem (List.mem_of_getElem? (i := 78) (by decide +kernel)) (by decide +kernel)), ⟨by decide +kernel, by decide +kernel, by decide +kernel⟩, by decide⟩
theorem vX0_fallAt : vMeth mX0_fallAt := ⟨(TBg_mem (List.mem_of_getElem? (i := 621) (by decide +kernel)) (by decide +kernel)), (TBg_mem (List.mem_of_getElem? (i := 622) (by decide +kernel)) (by decide +kernel))⟩
theorem kX1_roomOutOf : yOK mX1_roomOutOf 2 := ⟨(TBg_mem (List.mem_of_getElem? (i := 628) (by decide +kernel)) (by decide +kernel)), (TBg_mem (List.mem_of_getElem? (i := 79) (by decide +kernel)) (by decide +kernel)), ⟨by decide +kernel, by decide +kernel, by decide +kernel⟩, by decide⟩
theorem vX1_roomOutOf : vMeth mX1_roomOutOf := ⟨(TBg_mem (List.mem_of_getElem? (i := 627) (by decide +kernel)) (by decide +kernel)), (TBg_mem (List.mem_of_getElem? (i := 3) (by decide +kernel)) (by decide +kernel))⟩
theorem kX1_weigh : yOK mX1_weigh 2 := ⟨(TBg_mem (List.mem_of_getElem? (i := 633) (by decide +kernel)) (by decide +kernel)), (TBg_mem (List.mem_of_getElem? (i := 79) (by decide +kernel)) (by decide +kernel)), ⟨by decide +kernel, by decide +kernel, by decide +kernel⟩, by decide⟩
theorem vX1_weigh : vMeth mX1_weigh := ⟨(TBg_mem (List.mem_of_getElem? (i := 632) (by decide +kernel)) (by decide +kernel)), (TBg_mem (List.mem_of_getElem? (i := 4) (by decide +kernel)) (by decide +kernel))⟩
theorem kJ6_bitCount_0f7a4 : yOK mJ6_bitCount_0f7a4 1 := ⟨(TBg_mem (List.mem_of_getElem? (i := 636) (by decide +kernel)) (by decide +kernel)), (TBg_mem (List.mem_of_getElem? (i := 84) (by decide +kernel)) (by decide +kernel)), ⟨by decide +kernel, by decide +kernel, by decide +kernel⟩, by decide⟩
theorem vJ6_bitCount_0f7a4 : sMeth mJ6_bitCount_0f7a4 := (TBg_mem (List.mem_of_getElem? (i := 635) (by decide +kernel)) (by decide +kernel))
theorem kX11_cut : yOK mX11_cut 3 := ⟨(TBg_mem (List.mem_of_getElem? (i := 643) (by decide +kernel)) (by decide +kernel)), (TBg_mem (List.mem_of_getElem? (i := 71) (by decide +kernel)) (by decide +kernel)), ⟨by decide +kernel, by decide +kernel, by decide +kernel⟩, by decide⟩
theorem vX11_cut : vMeth mX11_cut := ⟨(TBg_mem (List.mem_of_getElem? (i := 641) (by decide +kernel)) (by decide +kernel)), (TBg_mem (List.mem_of_getElem? (i := 642) (by decide +kernel)) (by decide +kernel))⟩
theorem kX11_slice : yOK mX11_slice 5 := ⟨(TBg_mem (List.mem_of_getElem? (i := 647) (by decide +kernel)) (by decide +kernel)), (TBg_mem (List.mem_of_getElem? (i := 71) (by decide +kernel)) (by decide +kernel)), ⟨by decide +kernel, by decide +kernel, by decide +kernel⟩, by decide⟩
theorem vX11_slice : vMeth mX11_slice := ⟨(TBg_mem (List.mem_of_getElem? (i := 645) (by decide +kernel)) (by decide +kernel)), (TBg_mem (List.mem_of_getElem? (i := 646) (by decide +kernel)) (by decide +kernel))⟩
theorem kX11_isKind : yOK mX11_isKind 1 := ⟨(TBg_mem (List.mem_of_getElem? (i := 650) (by decide +kernel)) (by decide +kernel)), (TBg_mem (List.mem_of_getElem? (i := 71) (by decide +kernel)) (by decide +kernel)), ⟨by decide +kernel, by decide +kernel, by decide +kernel⟩, by decide⟩
theorem vX11_isKind : sMeth mX11_isKind := (TBg_mem (List.mem_of_getElem? (i := 649) (by decide +kernel)) (by decide +kernel))
theorem kX9_add : yOK mX9_add 5 := ⟨(TBg_mem (List.mem_of_getElem? (i := 654) (by decide +kernel)) (by decide +kernel)), (TBg_mem (List.mem_of_getElem? (i := 75) (by decide +kernel)) (by decide +kernel)), ⟨by decide +kernel, by decide +kernel, by decide +kernel⟩, by decide⟩
theorem vX9_add : vMeth mX9_add := ⟨(TBg_mem (List.mem_of_getElem? (i := 652) (by decide +kernel)) (by decide +kernel)), (TBg_mem (List.mem_of_getElem? (i := 653) (by decide +kernel)) (by decide +kernel))⟩
theorem kX8_setSpan : yOK mX8_setSpan 3 := ⟨(TBg_mem (List.mem_of_getElem? (i := 658) (by decide +kernel)) (by decide +kernel)), (TBg_mem (List.mem_of_getElem? (i := 76) (by decide +kernel)) (by decide +kernel)), ⟨by decide +kernel, by decide +kernel, by decide +kernel⟩, by decide⟩
theorem vX8_setSpan : vMeth mX8_setSpan := ⟨(TBg_mem (List.mem_of_getElem? (i := 656) (by decide +kernel)) (by decide +kernel)), (TBg_mem (List.mem_of_getElem? (i := 657) (by decide +kernel)) (by decide +kernel))⟩
theorem kX11_terms : yOK mX11_terms 4 := ⟨(TBg_mem (List.mem_of_getElem? (i := 663) (by decide +kernel)) (by decide +kernel)), (TBg_mem (List.mem_of_getElem? (i := 71) (by decide +kernel)) (by decide +kernel)), ⟨by decide +kernel, by decide +kernel, by decide +kernel⟩, by decide⟩
theorem vX11_terms : vMeth mX11_terms := ⟨(TBg_mem (List.mem_of_getElem? (i := 661) (by decide +kernel)) (by decide +kernel)), (TBg_mem (List.mem_of_getElem? (i := 662) (by decide +kernel)) (by decide +kernel))⟩
theorem kX9_hasSlice : yOK mX9_hasSlice 1 := ⟨(TBg_mem (List.mem_of_getElem? (i := 667) (by decide +kernel)) (by decide +kernel)), (TBg_mem (List.mem_of_getElem? (i := 75) (by decide +kernel)) (by decide +kernel)), ⟨by decide +kernel, by decide +kernel, by decide +kernel⟩, by decide⟩
theorem vX9_hasSlice : vMeth mX9_hasSlice := ⟨(TBg_mem (List.mem_of_getElem? (i := 665) (by decide +kernel)) (by decide +kernel)), (TBg_mem (List.mem_of_getElem? (i := 666) (by decide +kernel)) (by decide +kernel))⟩
theorem kX9_at : yOK mX9_at 1 := ⟨(TBg_mem (List.mem_of_getElem? (i := 671) (by decide +kernel)) (by decide +kernel)), (TBg_mem (List.mem_of_getElem? (i := 75) (by decide +kernel)) (by decide +kernel)), ⟨by decide +kernel, by decide +kernel, by decide +kernel⟩, by decide⟩
theorem vX9_at : vMeth mX9_at := ⟨(TBg_mem (List.mem_of_getElem? (i := 669) (by decide +kernel)) (by decide +kernel)), (TBg_mem (List.mem_of_getElem? (i := 670) (by decide +kernel)) (by decide +kernel))⟩
theorem kX8_isIn : yOK mX8_isIn 0 := ⟨(TBg_mem (List.mem_of_getElem? (i := 675) (by decide +kernel)) (by decide +kernel)), (TBg_mem (List.mem_of_getElem? (i := 76) (by decide +kernel)) (by decide +kernel)), ⟨by decide +kernel, by decide +kernel, by decide +kernel⟩, by decide⟩
theorem vX8_isIn : vMeth mX8_isIn := ⟨(TBg_mem (List.mem_of_getElem? (i := 673) (by decide +kernel)) (by decide +kernel)), (TBg_mem (List.mem_of_getElem? (i := 674) (by decide +kernel)) (by decide +kernel))⟩
theorem kX8_setTerms : yOK mX8_setTerms 3 := ⟨(TBg_mem (List.mem_of_getElem? (i := 680) (by decide +kernel)) (by decide +kernel)), (TBg_mem (List.mem_of_getElem? (i := 76) (by decide +kernel)) (by decide +kernel)), ⟨by decide +kernel, by decide +kernel, by decide +kernel⟩, by decide⟩
theorem vX8_setTerms : vMeth mX8_setTerms := ⟨(TBg_mem (List.mem_of_getElem? (i := 678) (by decide +kernel)) (by decide +kernel)), (TBg_mem (List.mem_of_getElem? (i := 679) (by decide +kernel)) (by decide +kernel))⟩
theorem kX11_span : yOK mX11_span 4 := ⟨(TBg_mem (List.mem_of_getElem? (i := 684) (by decide +kernel)) (by decide +kernel)), (TBg_mem (List.mem_of_getElem? (i := 71) (by decide +kernel)) (by decide +kernel)), ⟨by decide +kernel, by decide +kernel, by decide +kernel⟩, by decide⟩
theorem vX11_span : vMeth mX11_span := ⟨(TBg_mem (List.mem_of_getElem? (i := 682) (by decide +kernel)) (by decide +kernel)), (TBg_mem (List.mem_of_getElem? (i := 683) (by decide +kernel)) (by decide +kernel))⟩
theorem kX11_as : yOK mX11_as 2 := ⟨(TBg_mem (List.mem_of_getElem? (i := 689) (by decide +kernel)) (by decide +kernel)), (TBg_mem (List.mem_of_getElem? (i := 71) (by decide +kernel)) (by decide +kernel)), ⟨by decide +kernel, by decide +kernel, by decide +kernel⟩, by decide⟩
theorem vX11_as : vMeth mX11_as := ⟨(TBg_mem (List.mem_of_getElem? (i := 687) (by decide +kernel)) (by decide +kernel)), (TBg_mem (List.mem_of_getElem? (i := 688) (by decide +kernel)) (by decide +kernel))⟩
theorem kX8_isOf : yOK mX8_isOf 1 := ⟨(TBg_mem (List.mem_of_getElem? (i := 693) (by decide +kernel)) (by decide +kernel)), (TBg_mem (List.mem_of_getElem? (i := 76) (by decide +kernel)) (by decide +kernel)), ⟨by decide +kernel, by decide +kernel, by decide +kernel⟩, by decide⟩
theorem vX8_isOf : vMeth mX8_isOf := ⟨(TBg_mem (List.mem_of_getElem? (i := 691) (by decide +kernel)) (by decide +kernel)), (TBg_mem (List.mem_of_getElem? (i := 692) (by decide +kernel)) (by decide +kernel))⟩
theorem kX11_of : yOK mX11_of 2 := ⟨(TBg_mem (List.mem_of_getElem? (i := 700) (by decide +kernel)) (by decide +kernel)), (TBg_mem (List.mem_of_getElem? (i := 71) (by decide +kernel)) (by decide +kernel)), ⟨by decide +kernel, by decide +kernel, by decide +kernel⟩, by decide⟩
theorem vX11_of : vMeth mX11_of := ⟨(TBg_mem (List.mem_of_getElem? (i := 698) (by decide +kernel)) (by decide +kernel)), (TBg_mem (List.mem_of_getElem? (i := 699) (by decide +kernel)) (by decide +kernel))⟩
theorem kX8_askedFor : yOK mX8_askedFor 1 := ⟨(TBg_mem (List.mem_of_getElem? (i := 704) (by decide +kernel)) (by decide +kernel)), (TBg_mem (List.mem_of_getElem? (i := 76) (by decide +kernel)) (by decide +kernel)), ⟨by decide +kernel, by decide +kernel, by decide +kernel⟩, by decide⟩
theorem vX8_askedFor : vMeth mX8_askedFor := ⟨(TBg_mem (List.mem_of_getElem? (i := 702) (by decide +kernel)) (by decide +kernel)), (TBg_mem (List.mem_of_getElem? (i := 703) (by decide +kernel)) (by decide +kernel))⟩
theorem kX8_becameOf : yOK mX8_becameOf 1 := ⟨(TBg_mem (List.mem_of_getElem? (i := 708) (by decide +kernel)) (by decide +kernel)), (TBg_mem (List.mem_of_getElem? (i := 76) (by decide +kernel)) (by decide +kernel)), ⟨by decide +kernel, by decide +kernel, by decide +kernel⟩, by decide⟩
theorem vX8_becameOf : vMeth mX8_becameOf := ⟨(TBg_mem (List.mem_of_getElem? (i := 706) (by decide +kernel)) (by decide +kernel)), (TBg_mem (List.mem_of_getElem? (i := 707) (by decide +kernel)) (by decide +kernel))⟩
theorem kX8_needed : yOK mX8_needed 0 := ⟨(TBg_mem (List.mem_of_getElem? (i := 713) (by decide +kernel)) (by decide +kernel)), (TBg_mem (List.mem_of_getElem? (i := 76) (by decide +kernel)) (by decide +kernel)), ⟨by decide +kernel, by decide +kernel, by decide +kernel⟩, by decide⟩
theorem vX8_needed : vMeth mX8_needed := ⟨(TBg_mem (List.mem_of_getElem? (i := 711) (by decide +kernel)) (by decide +kernel)), (TBg_mem (List.mem_of_getElem? (i := 712) (by decide +kernel)) (by decide +kernel))⟩
theorem kX11_places : yOK mX11_places 1 := ⟨(TBg_mem (List.mem_of_getElem? (i := 717) (by decide +kernel)) (by decide +kernel)), (TBg_mem (List.mem_of_getElem? (i := 71) (by decide +kernel)) (by decide +kernel)), ⟨by decide +kernel, by decide +kernel, by decide +kernel⟩, by decide⟩
theorem vX11_places : vMeth mX11_places := ⟨(TBg_mem (List.mem_of_getElem? (i := 715) (by decide +kernel)) (by decide +kernel)), (TBg_mem (List.mem_of_getElem? (i := 716) (by decide +kernel)) (by decide +kernel))⟩
theorem kX9_placesOf : yOK mX9_placesOf 2 := ⟨(TBg_mem (List.mem_of_getElem? (i := 721) (by decide +kernel)) (by decide +kernel)), (TBg_mem (List.mem_of_getElem? (i := 75) (by decide +kernel)) (by decide +kernel)), ⟨by decide +kernel, by decide +kernel, by decide +kernel⟩, by decide⟩
theorem vX9_placesOf : vMeth mX9_placesOf := ⟨(TBg_mem (List.mem_of_getElem? (i := 719) (by decide +kernel)) (by decide +kernel)), (TBg_mem (List.mem_of_getElem? (i := 720) (by decide +kernel)) (by decide +kernel))⟩
theorem kX6_find : yOK mX6_find 2 := ⟨(TBg_mem (List.mem_of_getElem? (i := 725) (by decide +kernel)) (by decide +kernel)), (TBg_mem (List.mem_of_getElem? (i := 77) (by decide +kernel)) (by decide +kernel)), ⟨by decide +kernel, by decide +kernel, by decide +kernel⟩, by decide⟩
theorem vX6_find : vMeth mX6_find := ⟨(TBg_mem (List.mem_of_getElem? (i := 723) (by decide +kernel)) (by decide +kernel)), (TBg_mem (List.mem_of_getElem? (i := 724) (by decide +kernel)) (by decide +kernel))⟩
theorem kX6_gather : yOK mX6_gather 3 := ⟨(TBg_mem (List.mem_of_getElem? (i := 730) (by decide +kernel)) (by decide +kernel)), (TBg_mem (List.mem_of_getElem? (i := 77) (by decide +kernel)) (by decide +kernel)), ⟨by decide +kernel, by decide +kernel, by decide +kernel⟩, by decide⟩
theorem vX6_gather : vMeth mX6_gather := ⟨(TBg_mem (List.mem_of_getElem? (i := 729) (by decide +kernel)) (by decide +kernel)), (TBg_mem (List.mem_of_getElem? (i := 5) (by decide +kernel)) (by decide +kernel))⟩
theorem kX10_linesIn : yOK mX10_linesIn 1 := ⟨(TBg_mem (List.mem_of_getElem? (i := 735) (by decide +kernel)) (by decide +kernel)), (TBg_mem (List.mem_of_getElem? (i := 73) (by decide +kernel)) (by decide +kernel)), ⟨by decide +kernel, by decide +kernel, by decide +kernel⟩, by decide⟩
theorem vX10_linesIn : sMeth mX10_linesIn := (TBg_mem (List.mem_of_getElem? (i := 734) (by decide +kernel)) (by decide +kernel))
theorem kX6_gatherSpares : yOK mX6_gatherSpares 4 := ⟨(TBg_mem (List.mem_of_getElem? (i := 740) (by decide +kernel)) (by decide +kernel)), (TBg_mem (List.mem_of_getElem? (i := 77) (by decide +kernel)) (by decide +kernel)), ⟨by decide +kernel, by decide +kernel, by decide +kernel⟩, by decide⟩
theorem vX6_gatherSpares : vMeth mX6_gatherSpares := ⟨(TBg_mem (List.mem_of_getElem? (i := 739) (by decide +kernel)) (by decide +kernel)), (TBg_mem (List.mem_of_getElem? (i := 6) (by decide +kernel)) (by decide +kernel))⟩
theorem kX5_nodesOn : yOK mX5_nodesOn 1 := ⟨(TBg_mem (List.mem_of_getElem? (i := 744) (by decide +kernel)) (by decide +kernel)), (TBg_mem (List.mem_of_getElem? (i := 72) (by decide +kernel)) (by decide +kernel)), ⟨by decide +kernel, by decide +kernel, by decide +kernel⟩, by decide⟩
theorem vX5_nodesOn : vMeth mX5_nodesOn := ⟨(TBg_mem (List.mem_of_getElem? (i := 742) (by decide +kernel)) (by decide +kernel)), (TBg_mem (List.mem_of_getElem? (i := 743) (by decide +kernel)) (by decide +kernel))⟩
theorem kX6_gatherHosts : yOK mX6_gatherHosts 4 := ⟨(TBg_mem (List.mem_of_getElem? (i := 749) (by decide +kernel)) (by decide +kernel)), (TBg_mem (List.mem_of_getElem? (i := 77) (by decide +kernel)) (by decide +kernel)), ⟨by decide +kernel, by decide +kernel, by decide +kernel⟩, by decide⟩
theorem vX6_gatherHosts : vMeth mX6_gatherHosts := ⟨(TBg_mem (List.mem_of_getElem? (i := 748) (by decide +kernel)) (by decide +kernel)), (TBg_mem (List.mem_of_getElem? (i := 7) (by decide +kernel)) (by decide +kernel))⟩
theorem kX11_placeOn : yOK mX11_placeOn 3 := ⟨(TBg_mem (List.mem_of_getElem? (i := 753) (by decide +kernel)) (by decide +kernel)), (TBg_mem (List.mem_of_getElem? (i := 71) (by decide +kernel)) (by decide +kernel)), ⟨by decide +kernel, by decide +kernel, by decide +kernel⟩, by decide⟩
theorem vX11_placeOn : sMeth mX11_placeOn := (TBg_mem (List.mem_of_getElem? (i := 752) (by decide +kernel)) (by decide +kernel))
theorem kX11_letIn : yOK mX11_letIn 1 := ⟨(TBg_mem (List.mem_of_getElem? (i := 757) (by decide +kernel)) (by decide +kernel)), (TBg_mem (List.mem_of_getElem? (i := 71) (by decide +kernel)) (by decide +kernel)), ⟨by decide +kernel, by decide +kernel, by decide +kernel⟩, by decide⟩
theorem vX11_letIn : vMeth mX11_letIn := ⟨(TBg_mem (List.mem_of_getElem? (i := 755) (by decide +kernel)) (by decide +kernel)), (TBg_mem (List.mem_of_getElem? (i := 756) (by decide +kernel)) (by decide +kernel))⟩
theorem kX6_placeAt : yOK mX6_placeAt 1 := ⟨(TBg_mem (List.mem_of_getElem? (i := 761) (by decide +kernel)) (by decide +kernel)), (TBg_mem (List.mem_of_getElem? (i := 77) (by decide +kernel)) (by decide +kernel)), ⟨by decide +kernel, by decide +kernel, by decide +kernel⟩, by decide⟩
theorem vX6_placeAt : vMeth mX6_placeAt := ⟨(TBg_mem (List.mem_of_getElem? (i := 759) (by decide +kernel)) (by decide +kernel)), (TBg_mem (List.mem_of_getElem? (i := 760) (by decide +kernel)) (by decide +kernel))⟩
theorem kX11_linesOf : yOK mX11_linesOf 1 := ⟨(TBg_mem (List.mem_of_getElem? (i := 764) (by decide +kernel)) (by decide +kernel)), (TBg_mem (List.mem_of_getElem? (i := 71) (by decide +kernel)) (by decide +kernel)), ⟨by decide +kernel, by decide +kernel, by decide +kernel⟩, by decide⟩
theorem vX11_linesOf : sMeth mX11_linesOf := (TBg_mem (List.mem_of_getElem? (i := 763) (by decide +kernel)) (by decide +kernel))
theorem kX11_wayIn : yOK mX11_wayIn 1 := ⟨(TBg_mem (List.mem_of_getElem? (i := 767) (by decide +kernel)) (by decide +kernel)), (TBg_mem (List.mem_of_getElem? (i := 71) (by decide +kernel)) (by decide +kernel)), ⟨by decide +kernel, by decide +kernel, by decide +kernel⟩, by decide⟩
theorem vX11_wayIn : sMeth mX11_wayIn := (TBg_mem (List.mem_of_getElem? (i := 766) (by decide +kernel)) (by decide +kernel))
theorem kX11_spareOf : yOK mX11_spareOf 1 := ⟨(TBg_mem (List.mem_of_getElem? (i := 770) (by decide +kernel)) (by decide +kernel)), (TBg_mem (List.mem_of_getElem? (i := 71) (by decide +kernel)) (by decide +kernel)), ⟨by decide +kernel, by decide +kernel, by decide +kernel⟩, by decide⟩
theorem vX11_spareOf : sMeth mX11_spareOf := (TBg_mem (List.mem_of_getElem? (i := 769) (by decide +kernel)) (by decide +kernel))
theorem kX0_linesHold : yOK mX0_linesHold 4 := ⟨(TBg_mem (List.mem_of_getElem? (i := 775) (by decide +kernel)) (by decide +kernel)), (TBg_mem (List.mem_of_getElem? (i := 78) (by decide +kernel)) (by decide +kernel)), ⟨by decide +kernel, by decide +kernel, by decide +kernel⟩, by decide⟩
theorem vX0_linesHold : vMeth mX0_linesHold := ⟨(TBg_mem (List.mem_of_getElem? (i := 773) (by decide +kernel)) (by decide +kernel)), (TBg_mem (List.mem_of_getElem? (i := 774) (by decide +kernel)) (by decide +kernel))⟩
theorem kX0_linesHoldAt : yOK mX0_linesHoldAt 4 := ⟨(TBg_mem (List.mem_of_getElem? (i := 781) (by decide +kernel)) (by decide +kernel)), (TBg_mem (List.mem_of_getElem? (i := 78) (by decide +kernel)) (by decide +kernel)), ⟨by decide +kernel, by decide +kernel, by decide +kernel⟩, by decide⟩
theorem vX0_linesHoldAt : vMeth mX0_linesHoldAt := ⟨(TBg_mem (List.mem_of_getElem? (i := 780) (by decide +kernel)) (by decide +kernel)), (TBg_mem (List.mem_of_getElem? (i := 8) (by decide +kernel)) (by decide +kernel))⟩
theorem kX0_fallWith : yOK mX0_fallWith 4 := ⟨(TBg_mem (List.mem_of_getElem? (i := 787) (by decide +kernel)) (by decide +kernel)), (TBg_mem (List.mem_of_getElem? (i := 78) (by decide +kernel)) (by decide +kernel)), ⟨by decide +kernel, by decide +kernel, by decide +kernel⟩, by decide⟩
theorem vX0_fallWith : vMeth mX0_fallWith := ⟨(TBg_mem (List.mem_of_getElem? (i := 786) (by decide +kernel)) (by decide +kernel)), (TBg_mem (List.mem_of_getElem? (i := 9) (by decide +kernel)) (by decide +kernel))⟩
theorem kJ9_max_7cf53 : yOK mJ9_max_7cf53 2 := ⟨(TBg_mem (List.mem_of_getElem? (i := 790) (by decide +kernel)) (by decide +kernel)), (TBg_mem (List.mem_of_getElem? (i := 85) (by decide +kernel)) (by decide +kernel)), ⟨by decide +kernel, by decide +kernel, by decide +kernel⟩, by decide⟩
theorem vJ9_max_7cf53 : sMeth mJ9_max_7cf53 := (TBg_mem (List.mem_of_getElem? (i := 789) (by decide +kernel)) (by decide +kernel))
theorem kX0_hostHolds : yOK mX0_hostHolds 4 := ⟨(TBg_mem (List.mem_of_getElem? (i := 794) (by decide +kernel)) (by decide +kernel)), (TBg_mem (List.mem_of_getElem? (i := 78) (by decide +kernel)) (by decide +kernel)), ⟨by decide +kernel, by decide +kernel, by decide +kernel⟩, by decide⟩
theorem vX0_hostHolds : vMeth mX0_hostHolds := ⟨(TBg_mem (List.mem_of_getElem? (i := 792) (by decide +kernel)) (by decide +kernel)), (TBg_mem (List.mem_of_getElem? (i := 793) (by decide +kernel)) (by decide +kernel))⟩
theorem kX11_hostOf : yOK mX11_hostOf 1 := ⟨(TBg_mem (List.mem_of_getElem? (i := 797) (by decide +kernel)) (by decide +kernel)), (TBg_mem (List.mem_of_getElem? (i := 71) (by decide +kernel)) (by decide +kernel)), ⟨by decide +kernel, by decide +kernel, by decide +kernel⟩, by decide⟩
theorem vX11_hostOf : sMeth mX11_hostOf := (TBg_mem (List.mem_of_getElem? (i := 796) (by decide +kernel)) (by decide +kernel))
theorem kX5_workroomOf : yOK mX5_workroomOf 1 := ⟨(TBg_mem (List.mem_of_getElem? (i := 801) (by decide +kernel)) (by decide +kernel)), (TBg_mem (List.mem_of_getElem? (i := 72) (by decide +kernel)) (by decide +kernel)), ⟨by decide +kernel, by decide +kernel, by decide +kernel⟩, by decide⟩
theorem vX5_workroomOf : vMeth mX5_workroomOf := ⟨(TBg_mem (List.mem_of_getElem? (i := 799) (by decide +kernel)) (by decide +kernel)), (TBg_mem (List.mem_of_getElem? (i := 800) (by decide +kernel)) (by decide +kernel))⟩
theorem kX0_worksAt : yOK mX0_worksAt 2 := ⟨(TBg_mem (List.mem_of_getElem? (i := 805) (by decide +kernel)) (by decide +kernel)), (TBg_mem (List.mem_of_getElem? (i := 78) (by decide +kernel)) (by decide +kernel)), ⟨by decide +kernel, by decide +kernel, by decide +kernel⟩, by decide⟩
theorem vX0_worksAt : vMeth mX0_worksAt := ⟨(TBg_mem (List.mem_of_getElem? (i := 803) (by decide +kernel)) (by decide +kernel)), (TBg_mem (List.mem_of_getElem? (i := 804) (by decide +kernel)) (by decide +kernel))⟩
theorem kX11_comeIn : yOK mX11_comeIn 2 := ⟨(TBg_mem (List.mem_of_getElem? (i := 809) (by decide +kernel)) (by decide +kernel)), (TBg_mem (List.mem_of_getElem? (i := 71) (by decide +kernel)) (by decide +kernel)), ⟨by decide +kernel, by decide +kernel, by decide +kernel⟩, by decide⟩
theorem vX11_comeIn : vMeth mX11_comeIn := ⟨(TBg_mem (List.mem_of_getElem? (i := 808) (by decide +kernel)) (by decide +kernel)), (TBg_mem (List.mem_of_getElem? (i := 10) (by decide +kernel)) (by decide +kernel))⟩
theorem kX0_enter : yOK mX0_enter 5 := ⟨(TBg_mem (List.mem_of_getElem? (i := 813) (by decide +kernel)) (by decide +kernel)), (TBg_mem (List.mem_of_getElem? (i := 78) (by decide +kernel)) (by decide +kernel)), ⟨by decide +kernel, by decide +kernel, by decide +kernel⟩, by decide⟩
theorem vX0_enter : vMeth mX0_enter := ⟨(TBg_mem (List.mem_of_getElem? (i := 811) (by decide +kernel)) (by decide +kernel)), (TBg_mem (List.mem_of_getElem? (i := 812) (by decide +kernel)) (by decide +kernel))⟩
theorem kX0_enterLines : yOK mX0_enterLines 4 := ⟨(TBg_mem (List.mem_of_getElem? (i := 817) (by decide +kernel)) (by decide +kernel)), (TBg_mem (List.mem_of_getElem? (i := 78) (by decide +kernel)) (by decide +kernel)), ⟨by decide +kernel, by decide +kernel, by decide +kernel⟩, by decide⟩
theorem vX0_enterLines : vMeth mX0_enterLines := ⟨(TBg_mem (List.mem_of_getElem? (i := 816) (by decide +kernel)) (by decide +kernel)), (TBg_mem (List.mem_of_getElem? (i := 11) (by decide +kernel)) (by decide +kernel))⟩
theorem kX0_enterFalls : yOK mX0_enterFalls 4 := ⟨(TBg_mem (List.mem_of_getElem? (i := 821) (by decide +kernel)) (by decide +kernel)), (TBg_mem (List.mem_of_getElem? (i := 78) (by decide +kernel)) (by decide +kernel)), ⟨by decide +kernel, by decide +kernel, by decide +kernel⟩, by decide⟩
theorem vX0_enterFalls : vMeth mX0_enterFalls := ⟨(TBg_mem (List.mem_of_getElem? (i := 820) (by decide +kernel)) (by decide +kernel)), (TBg_mem (List.mem_of_getElem? (i := 12) (by decide +kernel)) (by decide +kernel))⟩
theorem kX11_why : yOK mX11_why 1 := ⟨(TBg_mem (List.mem_of_getElem? (i := 825) (by decide +kernel)) (by decide +kernel)), (TBg_mem (List.mem_of_getElem? (i := 71) (by decide +kernel)) (by decide +kernel)), ⟨by decide +kernel, by decide +kernel, by decide +kernel⟩, by decide⟩
theorem vX11_why : vMeth mX11_why := ⟨(TBg_mem (List.mem_of_getElem? (i := 823) (by decide +kernel)) (by decide +kernel)), (TBg_mem (List.mem_of_getElem? (i := 824) (by decide +kernel)) (by decide +kernel))⟩
theorem kX6_keepUp : yOK mX6_keepUp 1 := ⟨(TBg_mem (List.mem_of_getElem? (i := 829) (by decide +kernel)) (by decide +kernel)), (TBg_mem (List.mem_of_getElem? (i := 77) (by decide +kernel)) (by decide +kernel)), ⟨by decide +kernel, by decide +kernel, by decide +kernel⟩, by decide⟩
theorem vX6_keepUp : vMeth mX6_keepUp := ⟨(TBg_mem (List.mem_of_getElem? (i := 827) (by decide +kernel)) (by decide +kernel)), (TBg_mem (List.mem_of_getElem? (i := 828) (by decide +kernel)) (by decide +kernel))⟩
theorem kX11_whyNoRoom : yOK mX11_whyNoRoom 2 := ⟨(TBg_mem (List.mem_of_getElem? (i := 835) (by decide +kernel)) (by decide +kernel)), (TBg_mem (List.mem_of_getElem? (i := 71) (by decide +kernel)) (by decide +kernel)), ⟨by decide +kernel, by decide +kernel, by decide +kernel⟩, by decide⟩
theorem vX11_whyNoRoom : vMeth mX11_whyNoRoom := ⟨(TBg_mem (List.mem_of_getElem? (i := 834) (by decide +kernel)) (by decide +kernel)), (TBg_mem (List.mem_of_getElem? (i := 13) (by decide +kernel)) (by decide +kernel))⟩
theorem kX6_upAt : yOK mX6_upAt 1 := ⟨(TBg_mem (List.mem_of_getElem? (i := 839) (by decide +kernel)) (by decide +kernel)), (TBg_mem (List.mem_of_getElem? (i := 77) (by decide +kernel)) (by decide +kernel)), ⟨by decide +kernel, by decide +kernel, by decide +kernel⟩, by decide⟩
theorem vX6_upAt : vMeth mX6_upAt := ⟨(TBg_mem (List.mem_of_getElem? (i := 837) (by decide +kernel)) (by decide +kernel)), (TBg_mem (List.mem_of_getElem? (i := 838) (by decide +kernel)) (by decide +kernel))⟩
theorem kX11_out : yOK mX11_out 1 := ⟨(TBg_mem (List.mem_of_getElem? (i := 843) (by decide +kernel)) (by decide +kernel)), (TBg_mem (List.mem_of_getElem? (i := 71) (by decide +kernel)) (by decide +kernel)), ⟨by decide +kernel, by decide +kernel, by decide +kernel⟩, by decide⟩
theorem vX11_out : vMeth mX11_out := ⟨(TBg_mem (List.mem_of_getElem? (i := 841) (by decide +kernel)) (by decide +kernel)), (TBg_mem (List.mem_of_getElem? (i := 842) (by decide +kernel)) (by decide +kernel))⟩
theorem kX11_goOut : yOK mX11_goOut 1 := ⟨(TBg_mem (List.mem_of_getElem? (i := 847) (by decide +kernel)) (by decide +kernel)), (TBg_mem (List.mem_of_getElem? (i := 71) (by decide +kernel)) (by decide +kernel)), ⟨by decide +kernel, by decide +kernel, by decide +kernel⟩, by decide⟩
theorem vX11_goOut : vMeth mX11_goOut := ⟨(TBg_mem (List.mem_of_getElem? (i := 846) (by decide +kernel)) (by decide +kernel)), (TBg_mem (List.mem_of_getElem? (i := 14) (by decide +kernel)) (by decide +kernel))⟩
theorem kX11_wayOf : yOK mX11_wayOf 3 := ⟨(TBg_mem (List.mem_of_getElem? (i := 851) (by decide +kernel)) (by decide +kernel)), (TBg_mem (List.mem_of_getElem? (i := 71) (by decide +kernel)) (by decide +kernel)), ⟨by decide +kernel, by decide +kernel, by decide +kernel⟩, by decide⟩
theorem vX11_wayOf : vMeth mX11_wayOf := ⟨(TBg_mem (List.mem_of_getElem? (i := 849) (by decide +kernel)) (by decide +kernel)), (TBg_mem (List.mem_of_getElem? (i := 850) (by decide +kernel)) (by decide +kernel))⟩
theorem kX5_lineAlong : yOK mX5_lineAlong 3 := ⟨(TBg_mem (List.mem_of_getElem? (i := 855) (by decide +kernel)) (by decide +kernel)), (TBg_mem (List.mem_of_getElem? (i := 72) (by decide +kernel)) (by decide +kernel)), ⟨by decide +kernel, by decide +kernel, by decide +kernel⟩, by decide⟩
theorem vX5_lineAlong : vMeth mX5_lineAlong := ⟨(TBg_mem (List.mem_of_getElem? (i := 853) (by decide +kernel)) (by decide +kernel)), (TBg_mem (List.mem_of_getElem? (i := 854) (by decide +kernel)) (by decide +kernel))⟩
theorem kX5_lineFrom : yOK mX5_lineFrom 2 := ⟨(TBg_mem (List.mem_of_getElem? (i := 859) (by decide +kernel)) (by decide +kernel)), (TBg_mem (List.mem_of_getElem? (i := 72) (by decide +kernel)) (by decide +kernel)), ⟨by decide +kernel, by decide +kernel, by decide +kernel⟩, by decide⟩
theorem vX5_lineFrom : vMeth mX5_lineFrom := ⟨(TBg_mem (List.mem_of_getElem? (i := 858) (by decide +kernel)) (by decide +kernel)), (TBg_mem (List.mem_of_getElem? (i := 15) (by decide +kernel)) (by decide +kernel))⟩
theorem kX11_host : yOK mX11_host 1 := ⟨(TBg_mem (List.mem_of_getElem? (i := 864) (by decide +kernel)) (by decide +kernel)), (TBg_mem (List.mem_of_getElem? (i := 71) (by decide +kernel)) (by decide +kernel)), ⟨by decide +kernel, by decide +kernel, by decide +kernel⟩, by decide⟩
theorem vX11_host : vMeth mX11_host := ⟨(TBg_mem (List.mem_of_getElem? (i := 862) (by decide +kernel)) (by decide +kernel)), (TBg_mem (List.mem_of_getElem? (i := 863) (by decide +kernel)) (by decide +kernel))⟩
theorem kX11_load : yOK mX11_load 2 := ⟨(TBg_mem (List.mem_of_getElem? (i := 869) (by decide +kernel)) (by decide +kernel)), (TBg_mem (List.mem_of_getElem? (i := 71) (by decide +kernel)) (by decide +kernel)), ⟨by decide +kernel, by decide +kernel, by decide +kernel⟩, by decide⟩
theorem vX11_load : vMeth mX11_load := ⟨(TBg_mem (List.mem_of_getElem? (i := 867) (by decide +kernel)) (by decide +kernel)), (TBg_mem (List.mem_of_getElem? (i := 868) (by decide +kernel)) (by decide +kernel))⟩
theorem kX11_fallRoom : yOK mX11_fallRoom 2 := ⟨(TBg_mem (List.mem_of_getElem? (i := 874) (by decide +kernel)) (by decide +kernel)), (TBg_mem (List.mem_of_getElem? (i := 71) (by decide +kernel)) (by decide +kernel)), ⟨by decide +kernel, by decide +kernel, by decide +kernel⟩, by decide⟩
theorem vX11_fallRoom : vMeth mX11_fallRoom := ⟨(TBg_mem (List.mem_of_getElem? (i := 872) (by decide +kernel)) (by decide +kernel)), (TBg_mem (List.mem_of_getElem? (i := 873) (by decide +kernel)) (by decide +kernel))⟩
theorem kX11_work : yOK mX11_work 2 := ⟨(TBg_mem (List.mem_of_getElem? (i := 879) (by decide +kernel)) (by decide +kernel)), (TBg_mem (List.mem_of_getElem? (i := 71) (by decide +kernel)) (by decide +kernel)), ⟨by decide +kernel, by decide +kernel, by decide +kernel⟩, by decide⟩
theorem vX11_work : vMeth mX11_work := ⟨(TBg_mem (List.mem_of_getElem? (i := 877) (by decide +kernel)) (by decide +kernel)), (TBg_mem (List.mem_of_getElem? (i := 878) (by decide +kernel)) (by decide +kernel))⟩
theorem kX11_spare : yOK mX11_spare 1 := ⟨(TBg_mem (List.mem_of_getElem? (i := 885) (by decide +kernel)) (by decide +kernel)), (TBg_mem (List.mem_of_getElem? (i := 71) (by decide +kernel)) (by decide +kernel)), ⟨by decide +kernel, by decide +kernel, by decide +kernel⟩, by decide⟩
theorem vX11_spare : vMeth mX11_spare := ⟨(TBg_mem (List.mem_of_getElem? (i := 883) (by decide +kernel)) (by decide +kernel)), (TBg_mem (List.mem_of_getElem? (i := 884) (by decide +kernel)) (by decide +kernel))⟩
theorem kJ9_min_7cf53 : yOK mJ9_min_7cf53 2 := ⟨(TBg_mem (List.mem_of_getElem? (i := 889) (by decide +kernel)) (by decide +kernel)), (TBg_mem (List.mem_of_getElem? (i := 85) (by decide +kernel)) (by decide +kernel)), ⟨by decide +kernel, by decide +kernel, by decide +kernel⟩, by decide⟩
theorem vJ9_min_7cf53 : sMeth mJ9_min_7cf53 := (TBg_mem (List.mem_of_getElem? (i := 888) (by decide +kernel)) (by decide +kernel))
theorem kX11_took : yOK mX11_took 1 := ⟨(TBg_mem (List.mem_of_getElem? (i := 893) (by decide +kernel)) (by decide +kernel)), (TBg_mem (List.mem_of_getElem? (i := 71) (by decide +kernel)) (by decide +kernel)), ⟨by decide +kernel, by decide +kernel, by decide +kernel⟩, by decide⟩
theorem vX11_took : vMeth mX11_took := ⟨(TBg_mem (List.mem_of_getElem? (i := 891) (by decide +kernel)) (by decide +kernel)), (TBg_mem (List.mem_of_getElem? (i := 892) (by decide +kernel)) (by decide +kernel))⟩
theorem kX8_takenWay : yOK mX8_takenWay 1 := ⟨(TBg_mem (List.mem_of_getElem? (i := 897) (by decide +kernel)) (by decide +kernel)), (TBg_mem (List.mem_of_getElem? (i := 76) (by decide +kernel)) (by decide +kernel)), ⟨by decide +kernel, by decide +kernel, by decide +kernel⟩, by decide⟩
theorem vX8_takenWay : vMeth mX8_takenWay := ⟨(TBg_mem (List.mem_of_getElem? (i := 895) (by decide +kernel)) (by decide +kernel)), (TBg_mem (List.mem_of_getElem? (i := 896) (by decide +kernel)) (by decide +kernel))⟩
theorem kX11_lay : yOK mX11_lay 1 := ⟨(TBg_mem (List.mem_of_getElem? (i := 903) (by decide +kernel)) (by decide +kernel)), (TBg_mem (List.mem_of_getElem? (i := 71) (by decide +kernel)) (by decide +kernel)), ⟨by decide +kernel, by decide +kernel, by decide +kernel⟩, by decide⟩
theorem vX11_lay : vMeth mX11_lay := ⟨(TBg_mem (List.mem_of_getElem? (i := 901) (by decide +kernel)) (by decide +kernel)), (TBg_mem (List.mem_of_getElem? (i := 902) (by decide +kernel)) (by decide +kernel))⟩
theorem kX9_haveAll : yOK mX9_haveAll 1 := ⟨(TBg_mem (List.mem_of_getElem? (i := 907) (by decide +kernel)) (by decide +kernel)), (TBg_mem (List.mem_of_getElem? (i := 75) (by decide +kernel)) (by decide +kernel)), ⟨by decide +kernel, by decide +kernel, by decide +kernel⟩, by decide⟩
theorem vX9_haveAll : vMeth mX9_haveAll := ⟨(TBg_mem (List.mem_of_getElem? (i := 905) (by decide +kernel)) (by decide +kernel)), (TBg_mem (List.mem_of_getElem? (i := 906) (by decide +kernel)) (by decide +kernel))⟩
theorem kX3_begin : yOK mX3_begin 0 := ⟨(TBg_mem (List.mem_of_getElem? (i := 911) (by decide +kernel)) (by decide +kernel)), (TBg_mem (List.mem_of_getElem? (i := 80) (by decide +kernel)) (by decide +kernel)), ⟨by decide +kernel, by decide +kernel, by decide +kernel⟩, by decide⟩
theorem vX3_begin : vMeth mX3_begin := ⟨(TBg_mem (List.mem_of_getElem? (i := 909) (by decide +kernel)) (by decide +kernel)), (TBg_mem (List.mem_of_getElem? (i := 910) (by decide +kernel)) (by decide +kernel))⟩
end
section
theorem kX3_findUnlikeTicks : yOK mX3_findUnlikeTicks 0 := ⟨(TBg_mem (List.mem_of_getElem? (i := 917) (by decide +kernel)) (by decide +kernel)), (TBg_mem (List.mem_of_getElem? (i := 80) (by decide +kernel)) (by decide +kernel)), ⟨by decide +kernel, by decide +kernel, by decide +kernel⟩, by decide⟩
theorem vX3_findUnlikeTicks : vMeth mX3_findUnlikeTicks := ⟨(TBg_mem (List.mem_of_getElem? (i := 916) (by decide +kernel)) (by decide +kernel)), (TBg_mem (List.mem_of_getElem? (i := 16) (by decide +kernel)) (by decide +kernel))⟩
theorem kX3_countingAt : yOK mX3_countingAt 1 := ⟨(TBg_mem (List.mem_of_getElem? (i := 921) (by decide +kernel)) (by decide +kernel)), (TBg_mem (List.mem_of_getElem? (i := 80) (by decide +kernel)) (by decide +kernel)), ⟨by decide +kernel, by decide +kernel, by decide +kernel⟩, by decide⟩
theorem vX3_countingAt : vMeth mX3_countingAt := ⟨(TBg_mem (List.mem_of_getElem? (i := 920) (by decide +kernel)) (by decide +kernel)), (TBg_mem (List.mem_of_getElem? (i := 17) (by decide +kernel)) (by decide +kernel))⟩
theorem kX3_isKnown : yOK mX3_isKnown 1 := ⟨(TBg_mem (List.mem_of_getElem? (i := 927) (by decide +kernel)) (by decide +kernel)), (TBg_mem (List.mem_of_getElem? (i := 80) (by decide +kernel)) (by decide +kernel)), ⟨by decide +kernel, by decide +kernel, by decide +kernel⟩, by decide⟩
theorem vX3_isKnown : vMeth mX3_isKnown := ⟨(TBg_mem (List.mem_of_getElem? (i := 926) (by decide +kernel)) (by decide +kernel)), (TBg_mem (List.mem_of_getElem? (i := 18) (by decide +kernel)) (by decide +kernel))⟩
theorem kX3_note : yOK mX3_note 1 := ⟨(TBg_mem (List.mem_of_getElem? (i := 931) (by decide +kernel)) (by decide +kernel)), (TBg_mem (List.mem_of_getElem? (i := 80) (by decide +kernel)) (by decide +kernel)), ⟨by decide +kernel, by decide +kernel, by decide +kernel⟩, by decide⟩
theorem vX3_note : vMeth mX3_note := ⟨(TBg_mem (List.mem_of_getElem? (i := 930) (by decide +kernel)) (by decide +kernel)), (TBg_mem (List.mem_of_getElem? (i := 19) (by decide +kernel)) (by decide +kernel))⟩
theorem kX3_laid : yOK mX3_laid 1 := ⟨(TBg_mem (List.mem_of_getElem? (i := 935) (by decide +kernel)) (by decide +kernel)), (TBg_mem (List.mem_of_getElem? (i := 80) (by decide +kernel)) (by decide +kernel)), ⟨by decide +kernel, by decide +kernel, by decide +kernel⟩, by decide⟩
theorem vX3_laid : vMeth mX3_laid := ⟨(TBg_mem (List.mem_of_getElem? (i := 933) (by decide +kernel)) (by decide +kernel)), (TBg_mem (List.mem_of_getElem? (i := 934) (by decide +kernel)) (by decide +kernel))⟩
theorem kX3_gatherMembers : yOK mX3_gatherMembers 1 := ⟨(TBg_mem (List.mem_of_getElem? (i := 939) (by decide +kernel)) (by decide +kernel)), (TBg_mem (List.mem_of_getElem? (i := 80) (by decide +kernel)) (by decide +kernel)), ⟨by decide +kernel, by decide +kernel, by decide +kernel⟩, by decide⟩
theorem vX3_gatherMembers : vMeth mX3_gatherMembers := ⟨(TBg_mem (List.mem_of_getElem? (i := 938) (by decide +kernel)) (by decide +kernel)), (TBg_mem (List.mem_of_getElem? (i := 20) (by decide +kernel)) (by decide +kernel))⟩
theorem kX3_nextPlace : yOK mX3_nextPlace 2 := ⟨(TBg_mem (List.mem_of_getElem? (i := 943) (by decide +kernel)) (by decide +kernel)), (TBg_mem (List.mem_of_getElem? (i := 80) (by decide +kernel)) (by decide +kernel)), ⟨by decide +kernel, by decide +kernel, by decide +kernel⟩, by decide⟩
theorem vX3_nextPlace : vMeth mX3_nextPlace := ⟨(TBg_mem (List.mem_of_getElem? (i := 942) (by decide +kernel)) (by decide +kernel)), (TBg_mem (List.mem_of_getElem? (i := 21) (by decide +kernel)) (by decide +kernel))⟩
theorem kX3_put : yOK mX3_put 2 := ⟨(TBg_mem (List.mem_of_getElem? (i := 950) (by decide +kernel)) (by decide +kernel)), (TBg_mem (List.mem_of_getElem? (i := 80) (by decide +kernel)) (by decide +kernel)), ⟨by decide +kernel, by decide +kernel, by decide +kernel⟩, by decide⟩
theorem vX3_put : vMeth mX3_put := ⟨(TBg_mem (List.mem_of_getElem? (i := 949) (by decide +kernel)) (by decide +kernel)), (TBg_mem (List.mem_of_getElem? (i := 22) (by decide +kernel)) (by decide +kernel))⟩
theorem kX3_takeBack : yOK mX3_takeBack 1 := ⟨(TBg_mem (List.mem_of_getElem? (i := 955) (by decide +kernel)) (by decide +kernel)), (TBg_mem (List.mem_of_getElem? (i := 80) (by decide +kernel)) (by decide +kernel)), ⟨by decide +kernel, by decide +kernel, by decide +kernel⟩, by decide⟩
theorem vX3_takeBack : vMeth mX3_takeBack := ⟨(TBg_mem (List.mem_of_getElem? (i := 954) (by decide +kernel)) (by decide +kernel)), (TBg_mem (List.mem_of_getElem? (i := 23) (by decide +kernel)) (by decide +kernel))⟩
theorem kX11_takeOver : yOK mX11_takeOver 1 := ⟨(TBg_mem (List.mem_of_getElem? (i := 960) (by decide +kernel)) (by decide +kernel)), (TBg_mem (List.mem_of_getElem? (i := 71) (by decide +kernel)) (by decide +kernel)), ⟨by decide +kernel, by decide +kernel, by decide +kernel⟩, by decide⟩
theorem vX11_takeOver : vMeth mX11_takeOver := ⟨(TBg_mem (List.mem_of_getElem? (i := 959) (by decide +kernel)) (by decide +kernel)), (TBg_mem (List.mem_of_getElem? (i := 24) (by decide +kernel)) (by decide +kernel))⟩
theorem kX3_placeGot : yOK mX3_placeGot 1 := ⟨(TBg_mem (List.mem_of_getElem? (i := 965) (by decide +kernel)) (by decide +kernel)), (TBg_mem (List.mem_of_getElem? (i := 80) (by decide +kernel)) (by decide +kernel)), ⟨by decide +kernel, by decide +kernel, by decide +kernel⟩, by decide⟩
theorem vX3_placeGot : vMeth mX3_placeGot := ⟨(TBg_mem (List.mem_of_getElem? (i := 963) (by decide +kernel)) (by decide +kernel)), (TBg_mem (List.mem_of_getElem? (i := 964) (by decide +kernel)) (by decide +kernel))⟩
theorem kX11_can : yOK mX11_can 1 := ⟨(TBg_mem (List.mem_of_getElem? (i := 969) (by decide +kernel)) (by decide +kernel)), (TBg_mem (List.mem_of_getElem? (i := 71) (by decide +kernel)) (by decide +kernel)), ⟨by decide +kernel, by decide +kernel, by decide +kernel⟩, by decide⟩
theorem vX11_can : vMeth mX11_can := ⟨(TBg_mem (List.mem_of_getElem? (i := 967) (by decide +kernel)) (by decide +kernel)), (TBg_mem (List.mem_of_getElem? (i := 968) (by decide +kernel)) (by decide +kernel))⟩
theorem kX11_best : yOK mX11_best 0 := ⟨(TBg_mem (List.mem_of_getElem? (i := 973) (by decide +kernel)) (by decide +kernel)), (TBg_mem (List.mem_of_getElem? (i := 71) (by decide +kernel)) (by decide +kernel)), ⟨by decide +kernel, by decide +kernel, by decide +kernel⟩, by decide⟩
theorem vX11_best : vMeth mX11_best := ⟨(TBg_mem (List.mem_of_getElem? (i := 971) (by decide +kernel)) (by decide +kernel)), (TBg_mem (List.mem_of_getElem? (i := 972) (by decide +kernel)) (by decide +kernel))⟩
theorem kX3_dearest : yOK mX3_dearest 0 := ⟨(TBg_mem (List.mem_of_getElem? (i := 977) (by decide +kernel)) (by decide +kernel)), (TBg_mem (List.mem_of_getElem? (i := 80) (by decide +kernel)) (by decide +kernel)), ⟨by decide +kernel, by decide +kernel, by decide +kernel⟩, by decide⟩
theorem vX3_dearest : vMeth mX3_dearest := ⟨(TBg_mem (List.mem_of_getElem? (i := 975) (by decide +kernel)) (by decide +kernel)), (TBg_mem (List.mem_of_getElem? (i := 976) (by decide +kernel)) (by decide +kernel))⟩
theorem kX3_orderSets : yOK mX3_orderSets 0 := ⟨(TBg_mem (List.mem_of_getElem? (i := 981) (by decide +kernel)) (by decide +kernel)), (TBg_mem (List.mem_of_getElem? (i := 80) (by decide +kernel)) (by decide +kernel)), ⟨by decide +kernel, by decide +kernel, by decide +kernel⟩, by decide⟩
theorem vX3_orderSets : vMeth mX3_orderSets := ⟨(TBg_mem (List.mem_of_getElem? (i := 980) (by decide +kernel)) (by decide +kernel)), (TBg_mem (List.mem_of_getElem? (i := 25) (by decide +kernel)) (by decide +kernel))⟩
theorem kX3_mergeShifted : yOK mX3_mergeShifted 2 := ⟨(TBg_mem (List.mem_of_getElem? (i := 986) (by decide +kernel)) (by decide +kernel)), (TBg_mem (List.mem_of_getElem? (i := 80) (by decide +kernel)) (by decide +kernel)), ⟨by decide +kernel, by decide +kernel, by decide +kernel⟩, by decide⟩
theorem vX3_mergeShifted : vMeth mX3_mergeShifted := ⟨(TBg_mem (List.mem_of_getElem? (i := 985) (by decide +kernel)) (by decide +kernel)), (TBg_mem (List.mem_of_getElem? (i := 26) (by decide +kernel)) (by decide +kernel))⟩
theorem kX11_tries : yOK mX11_tries 0 := ⟨(TBg_mem (List.mem_of_getElem? (i := 991) (by decide +kernel)) (by decide +kernel)), (TBg_mem (List.mem_of_getElem? (i := 71) (by decide +kernel)) (by decide +kernel)), ⟨by decide +kernel, by decide +kernel, by decide +kernel⟩, by decide⟩
theorem vX11_tries : vMeth mX11_tries := ⟨(TBg_mem (List.mem_of_getElem? (i := 989) (by decide +kernel)) (by decide +kernel)), (TBg_mem (List.mem_of_getElem? (i := 990) (by decide +kernel)) (by decide +kernel))⟩
theorem kX11_offer : yOK mX11_offer 2 := ⟨(TBg_mem (List.mem_of_getElem? (i := 995) (by decide +kernel)) (by decide +kernel)), (TBg_mem (List.mem_of_getElem? (i := 71) (by decide +kernel)) (by decide +kernel)), ⟨by decide +kernel, by decide +kernel, by decide +kernel⟩, by decide⟩
theorem vX11_offer : vMeth mX11_offer := ⟨(TBg_mem (List.mem_of_getElem? (i := 993) (by decide +kernel)) (by decide +kernel)), (TBg_mem (List.mem_of_getElem? (i := 994) (by decide +kernel)) (by decide +kernel))⟩
theorem kX11_run : yOK mX11_run 1 := ⟨(TBg_mem (List.mem_of_getElem? (i := 999) (by decide +kernel)) (by decide +kernel)), (TBg_mem (List.mem_of_getElem? (i := 71) (by decide +kernel)) (by decide +kernel)), ⟨by decide +kernel, by decide +kernel, by decide +kernel⟩, by decide⟩
theorem vX11_run : vMeth mX11_run := ⟨(TBg_mem (List.mem_of_getElem? (i := 997) (by decide +kernel)) (by decide +kernel)), (TBg_mem (List.mem_of_getElem? (i := 998) (by decide +kernel)) (by decide +kernel))⟩
theorem kX2_doTick : yOK mX2_doTick 0 := ⟨(TBg_mem (List.mem_of_getElem? (i := 1003) (by decide +kernel)) (by decide +kernel)), (TBg_mem (List.mem_of_getElem? (i := 81) (by decide +kernel)) (by decide +kernel)), ⟨by decide +kernel, by decide +kernel, by decide +kernel⟩, by decide⟩
theorem vX2_doTick : vMeth mX2_doTick := ⟨(TBg_mem (List.mem_of_getElem? (i := 1001) (by decide +kernel)) (by decide +kernel)), (TBg_mem (List.mem_of_getElem? (i := 1002) (by decide +kernel)) (by decide +kernel))⟩
theorem kX2_forgetLatest : yOK mX2_forgetLatest 0 := ⟨(TBg_mem (List.mem_of_getElem? (i := 1007) (by decide +kernel)) (by decide +kernel)), (TBg_mem (List.mem_of_getElem? (i := 81) (by decide +kernel)) (by decide +kernel)), ⟨by decide +kernel, by decide +kernel, by decide +kernel⟩, by decide⟩
theorem vX2_forgetLatest : vMeth mX2_forgetLatest := ⟨(TBg_mem (List.mem_of_getElem? (i := 1006) (by decide +kernel)) (by decide +kernel)), (TBg_mem (List.mem_of_getElem? (i := 27) (by decide +kernel)) (by decide +kernel))⟩
theorem kX2_passNeeds : yOK mX2_passNeeds 0 := ⟨(TBg_mem (List.mem_of_getElem? (i := 1013) (by decide +kernel)) (by decide +kernel)), (TBg_mem (List.mem_of_getElem? (i := 81) (by decide +kernel)) (by decide +kernel)), ⟨by decide +kernel, by decide +kernel, by decide +kernel⟩, by decide⟩
theorem vX2_passNeeds : vMeth mX2_passNeeds := ⟨(TBg_mem (List.mem_of_getElem? (i := 1012) (by decide +kernel)) (by decide +kernel)), (TBg_mem (List.mem_of_getElem? (i := 28) (by decide +kernel)) (by decide +kernel))⟩
theorem kX2_wayNow : yOK mX2_wayNow 1 := ⟨(TBg_mem (List.mem_of_getElem? (i := 1017) (by decide +kernel)) (by decide +kernel)), (TBg_mem (List.mem_of_getElem? (i := 81) (by decide +kernel)) (by decide +kernel)), ⟨by decide +kernel, by decide +kernel, by decide +kernel⟩, by decide⟩
theorem vX2_wayNow : vMeth mX2_wayNow := ⟨(TBg_mem (List.mem_of_getElem? (i := 1016) (by decide +kernel)) (by decide +kernel)), (TBg_mem (List.mem_of_getElem? (i := 29) (by decide +kernel)) (by decide +kernel))⟩
theorem kX2_leftOn : yOK mX2_leftOn 1 := ⟨(TBg_mem (List.mem_of_getElem? (i := 1026) (by decide +kernel)) (by decide +kernel)), (TBg_mem (List.mem_of_getElem? (i := 81) (by decide +kernel)) (by decide +kernel)), ⟨by decide +kernel, by decide +kernel, by decide +kernel⟩, by decide⟩
theorem vX2_leftOn : vMeth mX2_leftOn := ⟨(TBg_mem (List.mem_of_getElem? (i := 1025) (by decide +kernel)) (by decide +kernel)), (TBg_mem (List.mem_of_getElem? (i := 30) (by decide +kernel)) (by decide +kernel))⟩
theorem kX4_leftNow : yOK mX4_leftNow 0 := ⟨(TBg_mem (List.mem_of_getElem? (i := 1030) (by decide +kernel)) (by decide +kernel)), (TBg_mem (List.mem_of_getElem? (i := 74) (by decide +kernel)) (by decide +kernel)), ⟨by decide +kernel, by decide +kernel, by decide +kernel⟩, by decide⟩
theorem vX4_leftNow : vMeth mX4_leftNow := ⟨(TBg_mem (List.mem_of_getElem? (i := 1028) (by decide +kernel)) (by decide +kernel)), (TBg_mem (List.mem_of_getElem? (i := 1029) (by decide +kernel)) (by decide +kernel))⟩
theorem kX2_pass : yOK mX2_pass 3 := ⟨(TBg_mem (List.mem_of_getElem? (i := 1034) (by decide +kernel)) (by decide +kernel)), (TBg_mem (List.mem_of_getElem? (i := 81) (by decide +kernel)) (by decide +kernel)), ⟨by decide +kernel, by decide +kernel, by decide +kernel⟩, by decide⟩
theorem vX2_pass : vMeth mX2_pass := ⟨(TBg_mem (List.mem_of_getElem? (i := 1033) (by decide +kernel)) (by decide +kernel)), (TBg_mem (List.mem_of_getElem? (i := 31) (by decide +kernel)) (by decide +kernel))⟩
theorem kX4_pass : yOK mX4_pass 1 := ⟨(TBg_mem (List.mem_of_getElem? (i := 1038) (by decide +kernel)) (by decide +kernel)), (TBg_mem (List.mem_of_getElem? (i := 74) (by decide +kernel)) (by decide +kernel)), ⟨by decide +kernel, by decide +kernel, by decide +kernel⟩, by decide⟩
theorem vX4_pass : vMeth mX4_pass := ⟨(TBg_mem (List.mem_of_getElem? (i := 1036) (by decide +kernel)) (by decide +kernel)), (TBg_mem (List.mem_of_getElem? (i := 1037) (by decide +kernel)) (by decide +kernel))⟩
theorem kX2_lend : yOK mX2_lend 0 := ⟨(TBg_mem (List.mem_of_getElem? (i := 1042) (by decide +kernel)) (by decide +kernel)), (TBg_mem (List.mem_of_getElem? (i := 81) (by decide +kernel)) (by decide +kernel)), ⟨by decide +kernel, by decide +kernel, by decide +kernel⟩, by decide⟩
theorem vX2_lend : vMeth mX2_lend := ⟨(TBg_mem (List.mem_of_getElem? (i := 1041) (by decide +kernel)) (by decide +kernel)), (TBg_mem (List.mem_of_getElem? (i := 32) (by decide +kernel)) (by decide +kernel))⟩
theorem kX2_canBorrow : yOK mX2_canBorrow 1 := ⟨(TBg_mem (List.mem_of_getElem? (i := 1046) (by decide +kernel)) (by decide +kernel)), (TBg_mem (List.mem_of_getElem? (i := 81) (by decide +kernel)) (by decide +kernel)), ⟨by decide +kernel, by decide +kernel, by decide +kernel⟩, by decide⟩
theorem vX2_canBorrow : vMeth mX2_canBorrow := ⟨(TBg_mem (List.mem_of_getElem? (i := 1045) (by decide +kernel)) (by decide +kernel)), (TBg_mem (List.mem_of_getElem? (i := 33) (by decide +kernel)) (by decide +kernel))⟩
theorem kX11_about : yOK mX11_about 2 := ⟨(TBg_mem (List.mem_of_getElem? (i := 1051) (by decide +kernel)) (by decide +kernel)), (TBg_mem (List.mem_of_getElem? (i := 71) (by decide +kernel)) (by decide +kernel)), ⟨by decide +kernel, by decide +kernel, by decide +kernel⟩, by decide⟩
theorem vX11_about : vMeth mX11_about := ⟨(TBg_mem (List.mem_of_getElem? (i := 1049) (by decide +kernel)) (by decide +kernel)), (TBg_mem (List.mem_of_getElem? (i := 1050) (by decide +kernel)) (by decide +kernel))⟩
theorem kX4_tell : yOK mX4_tell 1 := ⟨(TBg_mem (List.mem_of_getElem? (i := 1056) (by decide +kernel)) (by decide +kernel)), (TBg_mem (List.mem_of_getElem? (i := 74) (by decide +kernel)) (by decide +kernel)), ⟨by decide +kernel, by decide +kernel, by decide +kernel⟩, by decide⟩
theorem vX4_tell : vMeth mX4_tell := ⟨(TBg_mem (List.mem_of_getElem? (i := 1054) (by decide +kernel)) (by decide +kernel)), (TBg_mem (List.mem_of_getElem? (i := 1055) (by decide +kernel)) (by decide +kernel))⟩
theorem kX11_sheet : yOK mX11_sheet 3 := ⟨(TBg_mem (List.mem_of_getElem? (i := 1060) (by decide +kernel)) (by decide +kernel)), (TBg_mem (List.mem_of_getElem? (i := 71) (by decide +kernel)) (by decide +kernel)), ⟨by decide +kernel, by decide +kernel, by decide +kernel⟩, by decide⟩
theorem vX11_sheet : vMeth mX11_sheet := ⟨(TBg_mem (List.mem_of_getElem? (i := 1058) (by decide +kernel)) (by decide +kernel)), (TBg_mem (List.mem_of_getElem? (i := 1059) (by decide +kernel)) (by decide +kernel))⟩
theorem kX11_isSheet : yOK mX11_isSheet 1 := ⟨(TBg_mem (List.mem_of_getElem? (i := 1063) (by decide +kernel)) (by decide +kernel)), (TBg_mem (List.mem_of_getElem? (i := 71) (by decide +kernel)) (by decide +kernel)), ⟨by decide +kernel, by decide +kernel, by decide +kernel⟩, by decide⟩
theorem vX11_isSheet : sMeth mX11_isSheet := (TBg_mem (List.mem_of_getElem? (i := 1062) (by decide +kernel)) (by decide +kernel))
theorem kX7_begin : yOK mX7_begin 2 := ⟨(TBg_mem (List.mem_of_getElem? (i := 1068) (by decide +kernel)) (by decide +kernel)), (TBg_mem (List.mem_of_getElem? (i := 82) (by decide +kernel)) (by decide +kernel)), ⟨by decide +kernel, by decide +kernel, by decide +kernel⟩, by decide⟩
theorem vX7_begin : vMeth mX7_begin := ⟨(TBg_mem (List.mem_of_getElem? (i := 1066) (by decide +kernel)) (by decide +kernel)), (TBg_mem (List.mem_of_getElem? (i := 1067) (by decide +kernel)) (by decide +kernel))⟩
theorem kX11_write : yOK mX11_write 3 := ⟨(TBg_mem (List.mem_of_getElem? (i := 1072) (by decide +kernel)) (by decide +kernel)), (TBg_mem (List.mem_of_getElem? (i := 71) (by decide +kernel)) (by decide +kernel)), ⟨by decide +kernel, by decide +kernel, by decide +kernel⟩, by decide⟩
theorem vX11_write : vMeth mX11_write := ⟨(TBg_mem (List.mem_of_getElem? (i := 1070) (by decide +kernel)) (by decide +kernel)), (TBg_mem (List.mem_of_getElem? (i := 1071) (by decide +kernel)) (by decide +kernel))⟩
theorem kX7_isMissing : yOK mX7_isMissing 0 := ⟨(TBg_mem (List.mem_of_getElem? (i := 1076) (by decide +kernel)) (by decide +kernel)), (TBg_mem (List.mem_of_getElem? (i := 82) (by decide +kernel)) (by decide +kernel)), ⟨by decide +kernel, by decide +kernel, by decide +kernel⟩, by decide⟩
theorem vX7_isMissing : vMeth mX7_isMissing := ⟨(TBg_mem (List.mem_of_getElem? (i := 1074) (by decide +kernel)) (by decide +kernel)), (TBg_mem (List.mem_of_getElem? (i := 1075) (by decide +kernel)) (by decide +kernel))⟩
theorem kX7_put : yOK mX7_put 2 := ⟨(TBg_mem (List.mem_of_getElem? (i := 1081) (by decide +kernel)) (by decide +kernel)), (TBg_mem (List.mem_of_getElem? (i := 82) (by decide +kernel)) (by decide +kernel)), ⟨by decide +kernel, by decide +kernel, by decide +kernel⟩, by decide⟩
theorem vX7_put : vMeth mX7_put := ⟨(TBg_mem (List.mem_of_getElem? (i := 1079) (by decide +kernel)) (by decide +kernel)), (TBg_mem (List.mem_of_getElem? (i := 1080) (by decide +kernel)) (by decide +kernel))⟩
theorem kX7_lowest : yOK mX7_lowest 1 := ⟨(TBg_mem (List.mem_of_getElem? (i := 1085) (by decide +kernel)) (by decide +kernel)), (TBg_mem (List.mem_of_getElem? (i := 82) (by decide +kernel)) (by decide +kernel)), ⟨by decide +kernel, by decide +kernel, by decide +kernel⟩, by decide⟩
theorem vX7_lowest : vMeth mX7_lowest := ⟨(TBg_mem (List.mem_of_getElem? (i := 1084) (by decide +kernel)) (by decide +kernel)), (TBg_mem (List.mem_of_getElem? (i := 34) (by decide +kernel)) (by decide +kernel))⟩
theorem kX11_copy : yOK mX11_copy 5 := ⟨(TBg_mem (List.mem_of_getElem? (i := 1089) (by decide +kernel)) (by decide +kernel)), (TBg_mem (List.mem_of_getElem? (i := 71) (by decide +kernel)) (by decide +kernel)), ⟨by decide +kernel, by decide +kernel, by decide +kernel⟩, by decide⟩
theorem vX11_copy : vMeth mX11_copy := ⟨(TBg_mem (List.mem_of_getElem? (i := 1087) (by decide +kernel)) (by decide +kernel)), (TBg_mem (List.mem_of_getElem? (i := 1088) (by decide +kernel)) (by decide +kernel))⟩
theorem kX7_hasRun : yOK mX7_hasRun 2 := ⟨(TBg_mem (List.mem_of_getElem? (i := 1093) (by decide +kernel)) (by decide +kernel)), (TBg_mem (List.mem_of_getElem? (i := 82) (by decide +kernel)) (by decide +kernel)), ⟨by decide +kernel, by decide +kernel, by decide +kernel⟩, by decide⟩
theorem vX7_hasRun : vMeth mX7_hasRun := ⟨(TBg_mem (List.mem_of_getElem? (i := 1091) (by decide +kernel)) (by decide +kernel)), (TBg_mem (List.mem_of_getElem? (i := 1092) (by decide +kernel)) (by decide +kernel))⟩
theorem kX11_read : yOK mX11_read 1 := ⟨(TBg_mem (List.mem_of_getElem? (i := 1100) (by decide +kernel)) (by decide +kernel)), (TBg_mem (List.mem_of_getElem? (i := 71) (by decide +kernel)) (by decide +kernel)), ⟨by decide +kernel, by decide +kernel, by decide +kernel⟩, by decide⟩
theorem vX11_read : vMeth mX11_read := ⟨(TBg_mem (List.mem_of_getElem? (i := 1098) (by decide +kernel)) (by decide +kernel)), (TBg_mem (List.mem_of_getElem? (i := 1099) (by decide +kernel)) (by decide +kernel))⟩
theorem kX7_hasAbove : yOK mX7_hasAbove 1 := ⟨(TBg_mem (List.mem_of_getElem? (i := 1104) (by decide +kernel)) (by decide +kernel)), (TBg_mem (List.mem_of_getElem? (i := 82) (by decide +kernel)) (by decide +kernel)), ⟨by decide +kernel, by decide +kernel, by decide +kernel⟩, by decide⟩
theorem vX7_hasAbove : vMeth mX7_hasAbove := ⟨(TBg_mem (List.mem_of_getElem? (i := 1102) (by decide +kernel)) (by decide +kernel)), (TBg_mem (List.mem_of_getElem? (i := 1103) (by decide +kernel)) (by decide +kernel))⟩
theorem kX9_wouldOverflow : yOK mX9_wouldOverflow 1 := ⟨(TBg_mem (List.mem_of_getElem? (i := 1108) (by decide +kernel)) (by decide +kernel)), (TBg_mem (List.mem_of_getElem? (i := 75) (by decide +kernel)) (by decide +kernel)), ⟨by decide +kernel, by decide +kernel, by decide +kernel⟩, by decide⟩
theorem vX9_wouldOverflow : vMeth mX9_wouldOverflow := ⟨(TBg_mem (List.mem_of_getElem? (i := 1106) (by decide +kernel)) (by decide +kernel)), (TBg_mem (List.mem_of_getElem? (i := 1107) (by decide +kernel)) (by decide +kernel))⟩
theorem kX7_unitsAt : yOK mX7_unitsAt 1 := ⟨(TBg_mem (List.mem_of_getElem? (i := 1112) (by decide +kernel)) (by decide +kernel)), (TBg_mem (List.mem_of_getElem? (i := 82) (by decide +kernel)) (by decide +kernel)), ⟨by decide +kernel, by decide +kernel, by decide +kernel⟩, by decide⟩
theorem vX7_unitsAt : vMeth mX7_unitsAt := ⟨(TBg_mem (List.mem_of_getElem? (i := 1110) (by decide +kernel)) (by decide +kernel)), (TBg_mem (List.mem_of_getElem? (i := 1111) (by decide +kernel)) (by decide +kernel))⟩
theorem kX9_offerAll : yOK mX9_offerAll 1 := ⟨(TBg_mem (List.mem_of_getElem? (i := 1117) (by decide +kernel)) (by decide +kernel)), (TBg_mem (List.mem_of_getElem? (i := 75) (by decide +kernel)) (by decide +kernel)), ⟨by decide +kernel, by decide +kernel, by decide +kernel⟩, by decide⟩
theorem vX9_offerAll : vMeth mX9_offerAll := ⟨(TBg_mem (List.mem_of_getElem? (i := 1115) (by decide +kernel)) (by decide +kernel)), (TBg_mem (List.mem_of_getElem? (i := 1116) (by decide +kernel)) (by decide +kernel))⟩
theorem kX11_told : yOK mX11_told 1 := ⟨(TBg_mem (List.mem_of_getElem? (i := 1121) (by decide +kernel)) (by decide +kernel)), (TBg_mem (List.mem_of_getElem? (i := 71) (by decide +kernel)) (by decide +kernel)), ⟨by decide +kernel, by decide +kernel, by decide +kernel⟩, by decide⟩
theorem vX11_told : vMeth mX11_told := ⟨(TBg_mem (List.mem_of_getElem? (i := 1119) (by decide +kernel)) (by decide +kernel)), (TBg_mem (List.mem_of_getElem? (i := 1120) (by decide +kernel)) (by decide +kernel))⟩
theorem kX9_countIn : yOK mX9_countIn 0 := ⟨(TBg_mem (List.mem_of_getElem? (i := 1125) (by decide +kernel)) (by decide +kernel)), (TBg_mem (List.mem_of_getElem? (i := 75) (by decide +kernel)) (by decide +kernel)), ⟨by decide +kernel, by decide +kernel, by decide +kernel⟩, by decide⟩
theorem vX9_countIn : vMeth mX9_countIn := ⟨(TBg_mem (List.mem_of_getElem? (i := 1123) (by decide +kernel)) (by decide +kernel)), (TBg_mem (List.mem_of_getElem? (i := 1124) (by decide +kernel)) (by decide +kernel))⟩
theorem kX12_init : yOK mX12_init 0 := ⟨(TBg_mem (List.mem_of_getElem? (i := 1131) (by decide +kernel)) (by decide +kernel)), (TBg_mem (List.mem_of_getElem? (i := 83) (by decide +kernel)) (by decide +kernel)), ⟨by decide +kernel, by decide +kernel, by decide +kernel⟩, by decide⟩
theorem vX12_init : iMeth mX12_init := ⟨rfl, (TBg_mem (List.mem_of_getElem? (i := 1130) (by decide +kernel)) (by decide +kernel))⟩
theorem kX12_node : yOK mX12_node 1 := ⟨(TBg_mem (List.mem_of_getElem? (i := 1339) (by decide +kernel)) (by decide +kernel)), (TBg_mem (List.mem_of_getElem? (i := 83) (by decide +kernel)) (by decide +kernel)), ⟨by decide +kernel, by decide +kernel, by decide +kernel⟩, by decide⟩
theorem vX12_node : vMeth mX12_node := ⟨(TBg_mem (List.mem_of_getElem? (i := 1337) (by decide +kernel)) (by decide +kernel)), (TBg_mem (List.mem_of_getElem? (i := 1338) (by decide +kernel)) (by decide +kernel))⟩
theorem kX12_in : yOK mX12_in 3 := ⟨(TBg_mem (List.mem_of_getElem? (i := 1342) (by decide +kernel)) (by decide +kernel)), (TBg_mem (List.mem_of_getElem? (i := 83) (by decide +kernel)) (by decide +kernel)), ⟨by decide +kernel, by decide +kernel, by decide +kernel⟩, by decide⟩
theorem vX12_in : sMeth mX12_in := (TBg_mem (List.mem_of_getElem? (i := 1341) (by decide +kernel)) (by decide +kernel))
theorem kX12_finds : yOK mX12_finds 1 := ⟨(TBg_mem (List.mem_of_getElem? (i := 1347) (by decide +kernel)) (by decide +kernel)), (TBg_mem (List.mem_of_getElem? (i := 83) (by decide +kernel)) (by decide +kernel)), ⟨by decide +kernel, by decide +kernel, by decide +kernel⟩, by decide⟩
theorem vX12_finds : vMeth mX12_finds := ⟨(TBg_mem (List.mem_of_getElem? (i := 1346) (by decide +kernel)) (by decide +kernel)), (TBg_mem (List.mem_of_getElem? (i := 35) (by decide +kernel)) (by decide +kernel))⟩
theorem kX12_line : yOK mX12_line 5 := ⟨(TBg_mem (List.mem_of_getElem? (i := 1352) (by decide +kernel)) (by decide +kernel)), (TBg_mem (List.mem_of_getElem? (i := 83) (by decide +kernel)) (by decide +kernel)), ⟨by decide +kernel, by decide +kernel, by decide +kernel⟩, by decide⟩
theorem vX12_line : vMeth mX12_line := ⟨(TBg_mem (List.mem_of_getElem? (i := 1350) (by decide +kernel)) (by decide +kernel)), (TBg_mem (List.mem_of_getElem? (i := 1351) (by decide +kernel)) (by decide +kernel))⟩
theorem kX12_isNode : yOK mX12_isNode 1 := ⟨(TBg_mem (List.mem_of_getElem? (i := 1356) (by decide +kernel)) (by decide +kernel)), (TBg_mem (List.mem_of_getElem? (i := 83) (by decide +kernel)) (by decide +kernel)), ⟨by decide +kernel, by decide +kernel, by decide +kernel⟩, by decide⟩
theorem vX12_isNode : vMeth mX12_isNode := ⟨(TBg_mem (List.mem_of_getElem? (i := 1355) (by decide +kernel)) (by decide +kernel)), (TBg_mem (List.mem_of_getElem? (i := 36) (by decide +kernel)) (by decide +kernel))⟩
theorem kX12_up : yOK mX12_up 2 := ⟨(TBg_mem (List.mem_of_getElem? (i := 1360) (by decide +kernel)) (by decide +kernel)), (TBg_mem (List.mem_of_getElem? (i := 83) (by decide +kernel)) (by decide +kernel)), ⟨by decide +kernel, by decide +kernel, by decide +kernel⟩, by decide⟩
theorem vX12_up : vMeth mX12_up := ⟨(TBg_mem (List.mem_of_getElem? (i := 1358) (by decide +kernel)) (by decide +kernel)), (TBg_mem (List.mem_of_getElem? (i := 1359) (by decide +kernel)) (by decide +kernel))⟩
theorem kX12_isLine : yOK mX12_isLine 1 := ⟨(TBg_mem (List.mem_of_getElem? (i := 1364) (by decide +kernel)) (by decide +kernel)), (TBg_mem (List.mem_of_getElem? (i := 83) (by decide +kernel)) (by decide +kernel)), ⟨by decide +kernel, by decide +kernel, by decide +kernel⟩, by decide⟩
theorem vX12_isLine : vMeth mX12_isLine := ⟨(TBg_mem (List.mem_of_getElem? (i := 1363) (by decide +kernel)) (by decide +kernel)), (TBg_mem (List.mem_of_getElem? (i := 37) (by decide +kernel)) (by decide +kernel))⟩
theorem kX12_ways : yOK mX12_ways 2 := ⟨(TBg_mem (List.mem_of_getElem? (i := 1368) (by decide +kernel)) (by decide +kernel)), (TBg_mem (List.mem_of_getElem? (i := 83) (by decide +kernel)) (by decide +kernel)), ⟨by decide +kernel, by decide +kernel, by decide +kernel⟩, by decide⟩
theorem vX12_ways : vMeth mX12_ways := ⟨(TBg_mem (List.mem_of_getElem? (i := 1366) (by decide +kernel)) (by decide +kernel)), (TBg_mem (List.mem_of_getElem? (i := 1367) (by decide +kernel)) (by decide +kernel))⟩
theorem kX12_areNodes : yOK mX12_areNodes 2 := ⟨(TBg_mem (List.mem_of_getElem? (i := 1372) (by decide +kernel)) (by decide +kernel)), (TBg_mem (List.mem_of_getElem? (i := 83) (by decide +kernel)) (by decide +kernel)), ⟨by decide +kernel, by decide +kernel, by decide +kernel⟩, by decide⟩
theorem vX12_areNodes : vMeth mX12_areNodes := ⟨(TBg_mem (List.mem_of_getElem? (i := 1371) (by decide +kernel)) (by decide +kernel)), (TBg_mem (List.mem_of_getElem? (i := 38) (by decide +kernel)) (by decide +kernel))⟩
theorem kX12_gather : yOK mX12_gather 3 := ⟨(TBg_mem (List.mem_of_getElem? (i := 1376) (by decide +kernel)) (by decide +kernel)), (TBg_mem (List.mem_of_getElem? (i := 83) (by decide +kernel)) (by decide +kernel)), ⟨by decide +kernel, by decide +kernel, by decide +kernel⟩, by decide⟩
theorem vX12_gather : vMeth mX12_gather := ⟨(TBg_mem (List.mem_of_getElem? (i := 1375) (by decide +kernel)) (by decide +kernel)), (TBg_mem (List.mem_of_getElem? (i := 39) (by decide +kernel)) (by decide +kernel))⟩
theorem kX12_has : yOK mX12_has 2 := ⟨(TBg_mem (List.mem_of_getElem? (i := 1379) (by decide +kernel)) (by decide +kernel)), (TBg_mem (List.mem_of_getElem? (i := 83) (by decide +kernel)) (by decide +kernel)), ⟨by decide +kernel, by decide +kernel, by decide +kernel⟩, by decide⟩
theorem vX12_has : sMeth mX12_has := (TBg_mem (List.mem_of_getElem? (i := 1378) (by decide +kernel)) (by decide +kernel))
theorem kX12_record : yOK mX12_record 3 := ⟨(TBg_mem (List.mem_of_getElem? (i := 1383) (by decide +kernel)) (by decide +kernel)), (TBg_mem (List.mem_of_getElem? (i := 83) (by decide +kernel)) (by decide +kernel)), ⟨by decide +kernel, by decide +kernel, by decide +kernel⟩, by decide⟩
theorem vX12_record : vMeth mX12_record := ⟨(TBg_mem (List.mem_of_getElem? (i := 1382) (by decide +kernel)) (by decide +kernel)), (TBg_mem (List.mem_of_getElem? (i := 40) (by decide +kernel)) (by decide +kernel))⟩
theorem kX12_isAhead : yOK mX12_isAhead 4 := ⟨(TBg_mem (List.mem_of_getElem? (i := 1387) (by decide +kernel)) (by decide +kernel)), (TBg_mem (List.mem_of_getElem? (i := 83) (by decide +kernel)) (by decide +kernel)), ⟨by decide +kernel, by decide +kernel, by decide +kernel⟩, by decide⟩
theorem vX12_isAhead : vMeth mX12_isAhead := ⟨(TBg_mem (List.mem_of_getElem? (i := 1386) (by decide +kernel)) (by decide +kernel)), (TBg_mem (List.mem_of_getElem? (i := 41) (by decide +kernel)) (by decide +kernel))⟩
theorem kX12_way : yOK mX12_way 4 := ⟨(TBg_mem (List.mem_of_getElem? (i := 1391) (by decide +kernel)) (by decide +kernel)), (TBg_mem (List.mem_of_getElem? (i := 83) (by decide +kernel)) (by decide +kernel)), ⟨by decide +kernel, by decide +kernel, by decide +kernel⟩, by decide⟩
theorem vX12_way : vMeth mX12_way := ⟨(TBg_mem (List.mem_of_getElem? (i := 1389) (by decide +kernel)) (by decide +kernel)), (TBg_mem (List.mem_of_getElem? (i := 1390) (by decide +kernel)) (by decide +kernel))⟩
theorem kX12_digit : yOK mX12_digit 3 := ⟨(TBg_mem (List.mem_of_getElem? (i := 1395) (by decide +kernel)) (by decide +kernel)), (TBg_mem (List.mem_of_getElem? (i := 83) (by decide +kernel)) (by decide +kernel)), ⟨by decide +kernel, by decide +kernel, by decide +kernel⟩, by decide⟩
theorem vX12_digit : sMeth mX12_digit := (TBg_mem (List.mem_of_getElem? (i := 1394) (by decide +kernel)) (by decide +kernel))
theorem kX12_slice : yOK mX12_slice 5 := ⟨(TBg_mem (List.mem_of_getElem? (i := 1399) (by decide +kernel)) (by decide +kernel)), (TBg_mem (List.mem_of_getElem? (i := 83) (by decide +kernel)) (by decide +kernel)), ⟨by decide +kernel, by decide +kernel, by decide +kernel⟩, by decide⟩
theorem vX12_slice : vMeth mX12_slice := ⟨(TBg_mem (List.mem_of_getElem? (i := 1397) (by decide +kernel)) (by decide +kernel)), (TBg_mem (List.mem_of_getElem? (i := 1398) (by decide +kernel)) (by decide +kernel))⟩
theorem kX12_terms : yOK mX12_terms 4 := ⟨(TBg_mem (List.mem_of_getElem? (i := 1403) (by decide +kernel)) (by decide +kernel)), (TBg_mem (List.mem_of_getElem? (i := 83) (by decide +kernel)) (by decide +kernel)), ⟨by decide +kernel, by decide +kernel, by decide +kernel⟩, by decide⟩
theorem vX12_terms : vMeth mX12_terms := ⟨(TBg_mem (List.mem_of_getElem? (i := 1401) (by decide +kernel)) (by decide +kernel)), (TBg_mem (List.mem_of_getElem? (i := 1402) (by decide +kernel)) (by decide +kernel))⟩
theorem kX12_isSlice : yOK mX12_isSlice 1 := ⟨(TBg_mem (List.mem_of_getElem? (i := 1407) (by decide +kernel)) (by decide +kernel)), (TBg_mem (List.mem_of_getElem? (i := 83) (by decide +kernel)) (by decide +kernel)), ⟨by decide +kernel, by decide +kernel, by decide +kernel⟩, by decide⟩
theorem vX12_isSlice : vMeth mX12_isSlice := ⟨(TBg_mem (List.mem_of_getElem? (i := 1406) (by decide +kernel)) (by decide +kernel)), (TBg_mem (List.mem_of_getElem? (i := 42) (by decide +kernel)) (by decide +kernel))⟩
theorem kX12_span : yOK mX12_span 4 := ⟨(TBg_mem (List.mem_of_getElem? (i := 1412) (by decide +kernel)) (by decide +kernel)), (TBg_mem (List.mem_of_getElem? (i := 83) (by decide +kernel)) (by decide +kernel)), ⟨by decide +kernel, by decide +kernel, by decide +kernel⟩, by decide⟩
theorem vX12_span : vMeth mX12_span := ⟨(TBg_mem (List.mem_of_getElem? (i := 1410) (by decide +kernel)) (by decide +kernel)), (TBg_mem (List.mem_of_getElem? (i := 1411) (by decide +kernel)) (by decide +kernel))⟩
theorem kX12_isTick : yOK mX12_isTick 1 := ⟨(TBg_mem (List.mem_of_getElem? (i := 1415) (by decide +kernel)) (by decide +kernel)), (TBg_mem (List.mem_of_getElem? (i := 83) (by decide +kernel)) (by decide +kernel)), ⟨by decide +kernel, by decide +kernel, by decide +kernel⟩, by decide⟩
theorem vX12_isTick : sMeth mX12_isTick := (TBg_mem (List.mem_of_getElem? (i := 1414) (by decide +kernel)) (by decide +kernel))
theorem kX12_as : yOK mX12_as 2 := ⟨(TBg_mem (List.mem_of_getElem? (i := 1419) (by decide +kernel)) (by decide +kernel)), (TBg_mem (List.mem_of_getElem? (i := 83) (by decide +kernel)) (by decide +kernel)), ⟨by decide +kernel, by decide +kernel, by decide +kernel⟩, by decide⟩
theorem vX12_as : vMeth mX12_as := ⟨(TBg_mem (List.mem_of_getElem? (i := 1417) (by decide +kernel)) (by decide +kernel)), (TBg_mem (List.mem_of_getElem? (i := 1418) (by decide +kernel)) (by decide +kernel))⟩
theorem kX12_of : yOK mX12_of 2 := ⟨(TBg_mem (List.mem_of_getElem? (i := 1424) (by decide +kernel)) (by decide +kernel)), (TBg_mem (List.mem_of_getElem? (i := 83) (by decide +kernel)) (by decide +kernel)), ⟨by decide +kernel, by decide +kernel, by decide +kernel⟩, by decide⟩
theorem vX12_of : vMeth mX12_of := ⟨(TBg_mem (List.mem_of_getElem? (i := 1422) (by decide +kernel)) (by decide +kernel)), (TBg_mem (List.mem_of_getElem? (i := 1423) (by decide +kernel)) (by decide +kernel))⟩
theorem kX12_need : yOK mX12_need 1 := ⟨(TBg_mem (List.mem_of_getElem? (i := 1428) (by decide +kernel)) (by decide +kernel)), (TBg_mem (List.mem_of_getElem? (i := 83) (by decide +kernel)) (by decide +kernel)), ⟨by decide +kernel, by decide +kernel, by decide +kernel⟩, by decide⟩
theorem vX12_need : vMeth mX12_need := ⟨(TBg_mem (List.mem_of_getElem? (i := 1427) (by decide +kernel)) (by decide +kernel)), (TBg_mem (List.mem_of_getElem? (i := 43) (by decide +kernel)) (by decide +kernel))⟩
theorem kX12_load : yOK mX12_load 2 := ⟨(TBg_mem (List.mem_of_getElem? (i := 1432) (by decide +kernel)) (by decide +kernel)), (TBg_mem (List.mem_of_getElem? (i := 83) (by decide +kernel)) (by decide +kernel)), ⟨by decide +kernel, by decide +kernel, by decide +kernel⟩, by decide⟩
theorem vX12_load : vMeth mX12_load := ⟨(TBg_mem (List.mem_of_getElem? (i := 1430) (by decide +kernel)) (by decide +kernel)), (TBg_mem (List.mem_of_getElem? (i := 1431) (by decide +kernel)) (by decide +kernel))⟩
theorem kX12_countingAt : yOK mX12_countingAt 1 := ⟨(TBg_mem (List.mem_of_getElem? (i := 1436) (by decide +kernel)) (by decide +kernel)), (TBg_mem (List.mem_of_getElem? (i := 83) (by decide +kernel)) (by decide +kernel)), ⟨by decide +kernel, by decide +kernel, by decide +kernel⟩, by decide⟩
theorem vX12_countingAt : vMeth mX12_countingAt := ⟨(TBg_mem (List.mem_of_getElem? (i := 1435) (by decide +kernel)) (by decide +kernel)), (TBg_mem (List.mem_of_getElem? (i := 44) (by decide +kernel)) (by decide +kernel))⟩
theorem kX12_does : yOK mX12_does 2 := ⟨(TBg_mem (List.mem_of_getElem? (i := 1440) (by decide +kernel)) (by decide +kernel)), (TBg_mem (List.mem_of_getElem? (i := 83) (by decide +kernel)) (by decide +kernel)), ⟨by decide +kernel, by decide +kernel, by decide +kernel⟩, by decide⟩
theorem vX12_does : vMeth mX12_does := ⟨(TBg_mem (List.mem_of_getElem? (i := 1439) (by decide +kernel)) (by decide +kernel)), (TBg_mem (List.mem_of_getElem? (i := 45) (by decide +kernel)) (by decide +kernel))⟩
theorem kX12_loadOf : yOK mX12_loadOf 2 := ⟨(TBg_mem (List.mem_of_getElem? (i := 1444) (by decide +kernel)) (by decide +kernel)), (TBg_mem (List.mem_of_getElem? (i := 83) (by decide +kernel)) (by decide +kernel)), ⟨by decide +kernel, by decide +kernel, by decide +kernel⟩, by decide⟩
theorem vX12_loadOf : vMeth mX12_loadOf := ⟨(TBg_mem (List.mem_of_getElem? (i := 1443) (by decide +kernel)) (by decide +kernel)), (TBg_mem (List.mem_of_getElem? (i := 46) (by decide +kernel)) (by decide +kernel))⟩
theorem kX12_fallRoom : yOK mX12_fallRoom 2 := ⟨(TBg_mem (List.mem_of_getElem? (i := 1448) (by decide +kernel)) (by decide +kernel)), (TBg_mem (List.mem_of_getElem? (i := 83) (by decide +kernel)) (by decide +kernel)), ⟨by decide +kernel, by decide +kernel, by decide +kernel⟩, by decide⟩
theorem vX12_fallRoom : vMeth mX12_fallRoom := ⟨(TBg_mem (List.mem_of_getElem? (i := 1446) (by decide +kernel)) (by decide +kernel)), (TBg_mem (List.mem_of_getElem? (i := 1447) (by decide +kernel)) (by decide +kernel))⟩
theorem kX12_fallOf : yOK mX12_fallOf 2 := ⟨(TBg_mem (List.mem_of_getElem? (i := 1452) (by decide +kernel)) (by decide +kernel)), (TBg_mem (List.mem_of_getElem? (i := 83) (by decide +kernel)) (by decide +kernel)), ⟨by decide +kernel, by decide +kernel, by decide +kernel⟩, by decide⟩
theorem vX12_fallOf : vMeth mX12_fallOf := ⟨(TBg_mem (List.mem_of_getElem? (i := 1451) (by decide +kernel)) (by decide +kernel)), (TBg_mem (List.mem_of_getElem? (i := 47) (by decide +kernel)) (by decide +kernel))⟩
theorem kX12_work : yOK mX12_work 2 := ⟨(TBg_mem (List.mem_of_getElem? (i := 1456) (by decide +kernel)) (by decide +kernel)), (TBg_mem (List.mem_of_getElem? (i := 83) (by decide +kernel)) (by decide +kernel)), ⟨by decide +kernel, by decide +kernel, by decide +kernel⟩, by decide⟩
theorem vX12_work : vMeth mX12_work := ⟨(TBg_mem (List.mem_of_getElem? (i := 1454) (by decide +kernel)) (by decide +kernel)), (TBg_mem (List.mem_of_getElem? (i := 1455) (by decide +kernel)) (by decide +kernel))⟩
theorem kX12_workOf : yOK mX12_workOf 2 := ⟨(TBg_mem (List.mem_of_getElem? (i := 1460) (by decide +kernel)) (by decide +kernel)), (TBg_mem (List.mem_of_getElem? (i := 83) (by decide +kernel)) (by decide +kernel)), ⟨by decide +kernel, by decide +kernel, by decide +kernel⟩, by decide⟩
theorem vX12_workOf : vMeth mX12_workOf := ⟨(TBg_mem (List.mem_of_getElem? (i := 1459) (by decide +kernel)) (by decide +kernel)), (TBg_mem (List.mem_of_getElem? (i := 48) (by decide +kernel)) (by decide +kernel))⟩
theorem kX12_spare : yOK mX12_spare 1 := ⟨(TBg_mem (List.mem_of_getElem? (i := 1464) (by decide +kernel)) (by decide +kernel)), (TBg_mem (List.mem_of_getElem? (i := 83) (by decide +kernel)) (by decide +kernel)), ⟨by decide +kernel, by decide +kernel, by decide +kernel⟩, by decide⟩
theorem vX12_spare : vMeth mX12_spare := ⟨(TBg_mem (List.mem_of_getElem? (i := 1462) (by decide +kernel)) (by decide +kernel)), (TBg_mem (List.mem_of_getElem? (i := 1463) (by decide +kernel)) (by decide +kernel))⟩
theorem kX12_leftOf : yOK mX12_leftOf 2 := ⟨(TBg_mem (List.mem_of_getElem? (i := 1468) (by decide +kernel)) (by decide +kernel)), (TBg_mem (List.mem_of_getElem? (i := 83) (by decide +kernel)) (by decide +kernel)), ⟨by decide +kernel, by decide +kernel, by decide +kernel⟩, by decide⟩
theorem vX12_leftOf : vMeth mX12_leftOf := ⟨(TBg_mem (List.mem_of_getElem? (i := 1467) (by decide +kernel)) (by decide +kernel)), (TBg_mem (List.mem_of_getElem? (i := 49) (by decide +kernel)) (by decide +kernel))⟩
theorem kX12_flow : yOK mX12_flow 3 := ⟨(TBg_mem (List.mem_of_getElem? (i := 1472) (by decide +kernel)) (by decide +kernel)), (TBg_mem (List.mem_of_getElem? (i := 83) (by decide +kernel)) (by decide +kernel)), ⟨by decide +kernel, by decide +kernel, by decide +kernel⟩, by decide⟩
theorem vX12_flow : vMeth mX12_flow := ⟨(TBg_mem (List.mem_of_getElem? (i := 1470) (by decide +kernel)) (by decide +kernel)), (TBg_mem (List.mem_of_getElem? (i := 1471) (by decide +kernel)) (by decide +kernel))⟩
theorem kX12_findCut : yOK mX12_findCut 3 := ⟨(TBg_mem (List.mem_of_getElem? (i := 1476) (by decide +kernel)) (by decide +kernel)), (TBg_mem (List.mem_of_getElem? (i := 83) (by decide +kernel)) (by decide +kernel)), ⟨by decide +kernel, by decide +kernel, by decide +kernel⟩, by decide⟩
theorem vX12_findCut : vMeth mX12_findCut := ⟨(TBg_mem (List.mem_of_getElem? (i := 1475) (by decide +kernel)) (by decide +kernel)), (TBg_mem (List.mem_of_getElem? (i := 50) (by decide +kernel)) (by decide +kernel))⟩
theorem kX12_ones : yOK mX12_ones 1 := ⟨(TBg_mem (List.mem_of_getElem? (i := 1480) (by decide +kernel)) (by decide +kernel)), (TBg_mem (List.mem_of_getElem? (i := 83) (by decide +kernel)) (by decide +kernel)), ⟨by decide +kernel, by decide +kernel, by decide +kernel⟩, by decide⟩
theorem vX12_ones : sMeth mX12_ones := (TBg_mem (List.mem_of_getElem? (i := 1479) (by decide +kernel)) (by decide +kernel))
theorem kX12_cut : yOK mX12_cut 3 := ⟨(TBg_mem (List.mem_of_getElem? (i := 1484) (by decide +kernel)) (by decide +kernel)), (TBg_mem (List.mem_of_getElem? (i := 83) (by decide +kernel)) (by decide +kernel)), ⟨by decide +kernel, by decide +kernel, by decide +kernel⟩, by decide⟩
theorem vX12_cut : vMeth mX12_cut := ⟨(TBg_mem (List.mem_of_getElem? (i := 1482) (by decide +kernel)) (by decide +kernel)), (TBg_mem (List.mem_of_getElem? (i := 1483) (by decide +kernel)) (by decide +kernel))⟩
theorem kX12_places : yOK mX12_places 1 := ⟨(TBg_mem (List.mem_of_getElem? (i := 1488) (by decide +kernel)) (by decide +kernel)), (TBg_mem (List.mem_of_getElem? (i := 83) (by decide +kernel)) (by decide +kernel)), ⟨by decide +kernel, by decide +kernel, by decide +kernel⟩, by decide⟩
theorem vX12_places : vMeth mX12_places := ⟨(TBg_mem (List.mem_of_getElem? (i := 1486) (by decide +kernel)) (by decide +kernel)), (TBg_mem (List.mem_of_getElem? (i := 1487) (by decide +kernel)) (by decide +kernel))⟩
theorem kX12_start : yOK mX12_start 1 := ⟨(TBg_mem (List.mem_of_getElem? (i := 1492) (by decide +kernel)) (by decide +kernel)), (TBg_mem (List.mem_of_getElem? (i := 83) (by decide +kernel)) (by decide +kernel)), ⟨by decide +kernel, by decide +kernel, by decide +kernel⟩, by decide⟩
theorem vX12_start : vMeth mX12_start := ⟨(TBg_mem (List.mem_of_getElem? (i := 1491) (by decide +kernel)) (by decide +kernel)), (TBg_mem (List.mem_of_getElem? (i := 51) (by decide +kernel)) (by decide +kernel))⟩
theorem kX12_advance : yOK mX12_advance 1 := ⟨(TBg_mem (List.mem_of_getElem? (i := 1496) (by decide +kernel)) (by decide +kernel)), (TBg_mem (List.mem_of_getElem? (i := 83) (by decide +kernel)) (by decide +kernel)), ⟨by decide +kernel, by decide +kernel, by decide +kernel⟩, by decide⟩
theorem vX12_advance : vMeth mX12_advance := ⟨(TBg_mem (List.mem_of_getElem? (i := 1495) (by decide +kernel)) (by decide +kernel)), (TBg_mem (List.mem_of_getElem? (i := 52) (by decide +kernel)) (by decide +kernel))⟩
theorem kX12_letIn : yOK mX12_letIn 1 := ⟨(TBg_mem (List.mem_of_getElem? (i := 1500) (by decide +kernel)) (by decide +kernel)), (TBg_mem (List.mem_of_getElem? (i := 83) (by decide +kernel)) (by decide +kernel)), ⟨by decide +kernel, by decide +kernel, by decide +kernel⟩, by decide⟩
theorem vX12_letIn : vMeth mX12_letIn := ⟨(TBg_mem (List.mem_of_getElem? (i := 1498) (by decide +kernel)) (by decide +kernel)), (TBg_mem (List.mem_of_getElem? (i := 1499) (by decide +kernel)) (by decide +kernel))⟩
theorem kX12_puts : yOK mX12_puts 1 := ⟨(TBg_mem (List.mem_of_getElem? (i := 1504) (by decide +kernel)) (by decide +kernel)), (TBg_mem (List.mem_of_getElem? (i := 83) (by decide +kernel)) (by decide +kernel)), ⟨by decide +kernel, by decide +kernel, by decide +kernel⟩, by decide⟩
theorem vX12_puts : vMeth mX12_puts := ⟨(TBg_mem (List.mem_of_getElem? (i := 1503) (by decide +kernel)) (by decide +kernel)), (TBg_mem (List.mem_of_getElem? (i := 53) (by decide +kernel)) (by decide +kernel))⟩
theorem kX12_areUp : yOK mX12_areUp 1 := ⟨(TBg_mem (List.mem_of_getElem? (i := 1508) (by decide +kernel)) (by decide +kernel)), (TBg_mem (List.mem_of_getElem? (i := 83) (by decide +kernel)) (by decide +kernel)), ⟨by decide +kernel, by decide +kernel, by decide +kernel⟩, by decide⟩
theorem vX12_areUp : vMeth mX12_areUp := ⟨(TBg_mem (List.mem_of_getElem? (i := 1507) (by decide +kernel)) (by decide +kernel)), (TBg_mem (List.mem_of_getElem? (i := 54) (by decide +kernel)) (by decide +kernel))⟩
theorem kX12_holds : yOK mX12_holds 1 := ⟨(TBg_mem (List.mem_of_getElem? (i := 1512) (by decide +kernel)) (by decide +kernel)), (TBg_mem (List.mem_of_getElem? (i := 83) (by decide +kernel)) (by decide +kernel)), ⟨by decide +kernel, by decide +kernel, by decide +kernel⟩, by decide⟩
theorem vX12_holds : vMeth mX12_holds := ⟨(TBg_mem (List.mem_of_getElem? (i := 1511) (by decide +kernel)) (by decide +kernel)), (TBg_mem (List.mem_of_getElem? (i := 55) (by decide +kernel)) (by decide +kernel))⟩
theorem kX12_linesHold : yOK mX12_linesHold 1 := ⟨(TBg_mem (List.mem_of_getElem? (i := 1516) (by decide +kernel)) (by decide +kernel)), (TBg_mem (List.mem_of_getElem? (i := 83) (by decide +kernel)) (by decide +kernel)), ⟨by decide +kernel, by decide +kernel, by decide +kernel⟩, by decide⟩
theorem vX12_linesHold : vMeth mX12_linesHold := ⟨(TBg_mem (List.mem_of_getElem? (i := 1515) (by decide +kernel)) (by decide +kernel)), (TBg_mem (List.mem_of_getElem? (i := 56) (by decide +kernel)) (by decide +kernel))⟩
theorem kX12_why : yOK mX12_why 1 := ⟨(TBg_mem (List.mem_of_getElem? (i := 1520) (by decide +kernel)) (by decide +kernel)), (TBg_mem (List.mem_of_getElem? (i := 83) (by decide +kernel)) (by decide +kernel)), ⟨by decide +kernel, by decide +kernel, by decide +kernel⟩, by decide⟩
theorem vX12_why : vMeth mX12_why := ⟨(TBg_mem (List.mem_of_getElem? (i := 1518) (by decide +kernel)) (by decide +kernel)), (TBg_mem (List.mem_of_getElem? (i := 1519) (by decide +kernel)) (by decide +kernel))⟩
theorem kX12_out : yOK mX12_out 1 := ⟨(TBg_mem (List.mem_of_getElem? (i := 1524) (by decide +kernel)) (by decide +kernel)), (TBg_mem (List.mem_of_getElem? (i := 83) (by decide +kernel)) (by decide +kernel)), ⟨by decide +kernel, by decide +kernel, by decide +kernel⟩, by decide⟩
theorem vX12_out : vMeth mX12_out := ⟨(TBg_mem (List.mem_of_getElem? (i := 1522) (by decide +kernel)) (by decide +kernel)), (TBg_mem (List.mem_of_getElem? (i := 1523) (by decide +kernel)) (by decide +kernel))⟩
theorem kX12_wayOf : yOK mX12_wayOf 3 := ⟨(TBg_mem (List.mem_of_getElem? (i := 1528) (by decide +kernel)) (by decide +kernel)), (TBg_mem (List.mem_of_getElem? (i := 83) (by decide +kernel)) (by decide +kernel)), ⟨by decide +kernel, by decide +kernel, by decide +kernel⟩, by decide⟩
theorem vX12_wayOf : vMeth mX12_wayOf := ⟨(TBg_mem (List.mem_of_getElem? (i := 1526) (by decide +kernel)) (by decide +kernel)), (TBg_mem (List.mem_of_getElem? (i := 1527) (by decide +kernel)) (by decide +kernel))⟩
theorem kX12_host : yOK mX12_host 1 := ⟨(TBg_mem (List.mem_of_getElem? (i := 1532) (by decide +kernel)) (by decide +kernel)), (TBg_mem (List.mem_of_getElem? (i := 83) (by decide +kernel)) (by decide +kernel)), ⟨by decide +kernel, by decide +kernel, by decide +kernel⟩, by decide⟩
theorem vX12_host : vMeth mX12_host := ⟨(TBg_mem (List.mem_of_getElem? (i := 1530) (by decide +kernel)) (by decide +kernel)), (TBg_mem (List.mem_of_getElem? (i := 1531) (by decide +kernel)) (by decide +kernel))⟩
theorem kX12_took : yOK mX12_took 1 := ⟨(TBg_mem (List.mem_of_getElem? (i := 1536) (by decide +kernel)) (by decide +kernel)), (TBg_mem (List.mem_of_getElem? (i := 83) (by decide +kernel)) (by decide +kernel)), ⟨by decide +kernel, by decide +kernel, by decide +kernel⟩, by decide⟩
theorem vX12_took : vMeth mX12_took := ⟨(TBg_mem (List.mem_of_getElem? (i := 1534) (by decide +kernel)) (by decide +kernel)), (TBg_mem (List.mem_of_getElem? (i := 1535) (by decide +kernel)) (by decide +kernel))⟩
theorem kX12_takes : yOK mX12_takes 2 := ⟨(TBg_mem (List.mem_of_getElem? (i := 1540) (by decide +kernel)) (by decide +kernel)), (TBg_mem (List.mem_of_getElem? (i := 83) (by decide +kernel)) (by decide +kernel)), ⟨by decide +kernel, by decide +kernel, by decide +kernel⟩, by decide⟩
theorem vX12_takes : vMeth mX12_takes := ⟨(TBg_mem (List.mem_of_getElem? (i := 1539) (by decide +kernel)) (by decide +kernel)), (TBg_mem (List.mem_of_getElem? (i := 57) (by decide +kernel)) (by decide +kernel))⟩
theorem kX12_lay : yOK mX12_lay 1 := ⟨(TBg_mem (List.mem_of_getElem? (i := 1544) (by decide +kernel)) (by decide +kernel)), (TBg_mem (List.mem_of_getElem? (i := 83) (by decide +kernel)) (by decide +kernel)), ⟨by decide +kernel, by decide +kernel, by decide +kernel⟩, by decide⟩
theorem vX12_lay : vMeth mX12_lay := ⟨(TBg_mem (List.mem_of_getElem? (i := 1542) (by decide +kernel)) (by decide +kernel)), (TBg_mem (List.mem_of_getElem? (i := 1543) (by decide +kernel)) (by decide +kernel))⟩
theorem kX12_isOfThem : yOK mX12_isOfThem 1 := ⟨(TBg_mem (List.mem_of_getElem? (i := 1548) (by decide +kernel)) (by decide +kernel)), (TBg_mem (List.mem_of_getElem? (i := 83) (by decide +kernel)) (by decide +kernel)), ⟨by decide +kernel, by decide +kernel, by decide +kernel⟩, by decide⟩
theorem vX12_isOfThem : vMeth mX12_isOfThem := ⟨(TBg_mem (List.mem_of_getElem? (i := 1547) (by decide +kernel)) (by decide +kernel)), (TBg_mem (List.mem_of_getElem? (i := 58) (by decide +kernel)) (by decide +kernel))⟩
theorem kX12_keeps : yOK mX12_keeps 0 := ⟨(TBg_mem (List.mem_of_getElem? (i := 1552) (by decide +kernel)) (by decide +kernel)), (TBg_mem (List.mem_of_getElem? (i := 83) (by decide +kernel)) (by decide +kernel)), ⟨by decide +kernel, by decide +kernel, by decide +kernel⟩, by decide⟩
theorem vX12_keeps : vMeth mX12_keeps := ⟨(TBg_mem (List.mem_of_getElem? (i := 1551) (by decide +kernel)) (by decide +kernel)), (TBg_mem (List.mem_of_getElem? (i := 59) (by decide +kernel)) (by decide +kernel))⟩
theorem kX12_lays : yOK mX12_lays 1 := ⟨(TBg_mem (List.mem_of_getElem? (i := 1556) (by decide +kernel)) (by decide +kernel)), (TBg_mem (List.mem_of_getElem? (i := 83) (by decide +kernel)) (by decide +kernel)), ⟨by decide +kernel, by decide +kernel, by decide +kernel⟩, by decide⟩
theorem vX12_lays : vMeth mX12_lays := ⟨(TBg_mem (List.mem_of_getElem? (i := 1555) (by decide +kernel)) (by decide +kernel)), (TBg_mem (List.mem_of_getElem? (i := 60) (by decide +kernel)) (by decide +kernel))⟩
theorem kX12_after : yOK mX12_after 2 := ⟨(TBg_mem (List.mem_of_getElem? (i := 1560) (by decide +kernel)) (by decide +kernel)), (TBg_mem (List.mem_of_getElem? (i := 83) (by decide +kernel)) (by decide +kernel)), ⟨by decide +kernel, by decide +kernel, by decide +kernel⟩, by decide⟩
theorem vX12_after : vMeth mX12_after := ⟨(TBg_mem (List.mem_of_getElem? (i := 1559) (by decide +kernel)) (by decide +kernel)), (TBg_mem (List.mem_of_getElem? (i := 61) (by decide +kernel)) (by decide +kernel))⟩
theorem kX12_comesIn : yOK mX12_comesIn 1 := ⟨(TBg_mem (List.mem_of_getElem? (i := 1564) (by decide +kernel)) (by decide +kernel)), (TBg_mem (List.mem_of_getElem? (i := 83) (by decide +kernel)) (by decide +kernel)), ⟨by decide +kernel, by decide +kernel, by decide +kernel⟩, by decide⟩
theorem vX12_comesIn : vMeth mX12_comesIn := ⟨(TBg_mem (List.mem_of_getElem? (i := 1563) (by decide +kernel)) (by decide +kernel)), (TBg_mem (List.mem_of_getElem? (i := 62) (by decide +kernel)) (by decide +kernel))⟩
theorem kX12_before : yOK mX12_before 2 := ⟨(TBg_mem (List.mem_of_getElem? (i := 1569) (by decide +kernel)) (by decide +kernel)), (TBg_mem (List.mem_of_getElem? (i := 83) (by decide +kernel)) (by decide +kernel)), ⟨by decide +kernel, by decide +kernel, by decide +kernel⟩, by decide⟩
theorem vX12_before : vMeth mX12_before := ⟨(TBg_mem (List.mem_of_getElem? (i := 1568) (by decide +kernel)) (by decide +kernel)), (TBg_mem (List.mem_of_getElem? (i := 63) (by decide +kernel)) (by decide +kernel))⟩
theorem kX12_backTo : yOK mX12_backTo 0 := ⟨(TBg_mem (List.mem_of_getElem? (i := 1573) (by decide +kernel)) (by decide +kernel)), (TBg_mem (List.mem_of_getElem? (i := 83) (by decide +kernel)) (by decide +kernel)), ⟨by decide +kernel, by decide +kernel, by decide +kernel⟩, by decide⟩
theorem vX12_backTo : vMeth mX12_backTo := ⟨(TBg_mem (List.mem_of_getElem? (i := 1572) (by decide +kernel)) (by decide +kernel)), (TBg_mem (List.mem_of_getElem? (i := 64) (by decide +kernel)) (by decide +kernel))⟩
theorem kX12_can : yOK mX12_can 1 := ⟨(TBg_mem (List.mem_of_getElem? (i := 1577) (by decide +kernel)) (by decide +kernel)), (TBg_mem (List.mem_of_getElem? (i := 83) (by decide +kernel)) (by decide +kernel)), ⟨by decide +kernel, by decide +kernel, by decide +kernel⟩, by decide⟩
theorem vX12_can : vMeth mX12_can := ⟨(TBg_mem (List.mem_of_getElem? (i := 1575) (by decide +kernel)) (by decide +kernel)), (TBg_mem (List.mem_of_getElem? (i := 1576) (by decide +kernel)) (by decide +kernel))⟩
theorem kX12_best : yOK mX12_best 0 := ⟨(TBg_mem (List.mem_of_getElem? (i := 1581) (by decide +kernel)) (by decide +kernel)), (TBg_mem (List.mem_of_getElem? (i := 83) (by decide +kernel)) (by decide +kernel)), ⟨by decide +kernel, by decide +kernel, by decide +kernel⟩, by decide⟩
theorem vX12_best : vMeth mX12_best := ⟨(TBg_mem (List.mem_of_getElem? (i := 1579) (by decide +kernel)) (by decide +kernel)), (TBg_mem (List.mem_of_getElem? (i := 1580) (by decide +kernel)) (by decide +kernel))⟩
theorem kX12_worthOf : yOK mX12_worthOf 1 := ⟨(TBg_mem (List.mem_of_getElem? (i := 1585) (by decide +kernel)) (by decide +kernel)), (TBg_mem (List.mem_of_getElem? (i := 83) (by decide +kernel)) (by decide +kernel)), ⟨by decide +kernel, by decide +kernel, by decide +kernel⟩, by decide⟩
theorem vX12_worthOf : vMeth mX12_worthOf := ⟨(TBg_mem (List.mem_of_getElem? (i := 1584) (by decide +kernel)) (by decide +kernel)), (TBg_mem (List.mem_of_getElem? (i := 65) (by decide +kernel)) (by decide +kernel))⟩
end
section
theorem kX12_tries : yOK mX12_tries 0 := ⟨(TBg_mem (List.mem_of_getElem? (i := 1589) (by decide +kernel)) (by decide +kernel)), (TBg_mem (List.mem_of_getElem? (i := 83) (by decide +kernel)) (by decide +kernel)), ⟨by decide +kernel, by decide +kernel, by decide +kernel⟩, by decide⟩
theorem vX12_tries : vMeth mX12_tries := ⟨(TBg_mem (List.mem_of_getElem? (i := 1587) (by decide +kernel)) (by decide +kernel)), (TBg_mem (List.mem_of_getElem? (i := 1588) (by decide +kernel)) (by decide +kernel))⟩
theorem kX12_offer : yOK mX12_offer 2 := ⟨(TBg_mem (List.mem_of_getElem? (i := 1593) (by decide +kernel)) (by decide +kernel)), (TBg_mem (List.mem_of_getElem? (i := 83) (by decide +kernel)) (by decide +kernel)), ⟨by decide +kernel, by decide +kernel, by decide +kernel⟩, by decide⟩
theorem vX12_offer : vMeth mX12_offer := ⟨(TBg_mem (List.mem_of_getElem? (i := 1591) (by decide +kernel)) (by decide +kernel)), (TBg_mem (List.mem_of_getElem? (i := 1592) (by decide +kernel)) (by decide +kernel))⟩
theorem kX12_run : yOK mX12_run 1 := ⟨(TBg_mem (List.mem_of_getElem? (i := 1597) (by decide +kernel)) (by decide +kernel)), (TBg_mem (List.mem_of_getElem? (i := 83) (by decide +kernel)) (by decide +kernel)), ⟨by decide +kernel, by decide +kernel, by decide +kernel⟩, by decide⟩
theorem vX12_run : vMeth mX12_run := ⟨(TBg_mem (List.mem_of_getElem? (i := 1595) (by decide +kernel)) (by decide +kernel)), (TBg_mem (List.mem_of_getElem? (i := 1596) (by decide +kernel)) (by decide +kernel))⟩
theorem kX12_oneTick : yOK mX12_oneTick 0 := ⟨(TBg_mem (List.mem_of_getElem? (i := 1601) (by decide +kernel)) (by decide +kernel)), (TBg_mem (List.mem_of_getElem? (i := 83) (by decide +kernel)) (by decide +kernel)), ⟨by decide +kernel, by decide +kernel, by decide +kernel⟩, by decide⟩
theorem vX12_oneTick : vMeth mX12_oneTick := ⟨(TBg_mem (List.mem_of_getElem? (i := 1600) (by decide +kernel)) (by decide +kernel)), (TBg_mem (List.mem_of_getElem? (i := 66) (by decide +kernel)) (by decide +kernel))⟩
theorem kX12_leftIn : yOK mX12_leftIn 1 := ⟨(TBg_mem (List.mem_of_getElem? (i := 1605) (by decide +kernel)) (by decide +kernel)), (TBg_mem (List.mem_of_getElem? (i := 83) (by decide +kernel)) (by decide +kernel)), ⟨by decide +kernel, by decide +kernel, by decide +kernel⟩, by decide⟩
theorem vX12_leftIn : vMeth mX12_leftIn := ⟨(TBg_mem (List.mem_of_getElem? (i := 1604) (by decide +kernel)) (by decide +kernel)), (TBg_mem (List.mem_of_getElem? (i := 67) (by decide +kernel)) (by decide +kernel))⟩
theorem kX12_passes : yOK mX12_passes 3 := ⟨(TBg_mem (List.mem_of_getElem? (i := 1609) (by decide +kernel)) (by decide +kernel)), (TBg_mem (List.mem_of_getElem? (i := 83) (by decide +kernel)) (by decide +kernel)), ⟨by decide +kernel, by decide +kernel, by decide +kernel⟩, by decide⟩
theorem vX12_passes : vMeth mX12_passes := ⟨(TBg_mem (List.mem_of_getElem? (i := 1608) (by decide +kernel)) (by decide +kernel)), (TBg_mem (List.mem_of_getElem? (i := 68) (by decide +kernel)) (by decide +kernel))⟩
theorem kX12_about : yOK mX12_about 2 := ⟨(TBg_mem (List.mem_of_getElem? (i := 1613) (by decide +kernel)) (by decide +kernel)), (TBg_mem (List.mem_of_getElem? (i := 83) (by decide +kernel)) (by decide +kernel)), ⟨by decide +kernel, by decide +kernel, by decide +kernel⟩, by decide⟩
theorem vX12_about : vMeth mX12_about := ⟨(TBg_mem (List.mem_of_getElem? (i := 1611) (by decide +kernel)) (by decide +kernel)), (TBg_mem (List.mem_of_getElem? (i := 1612) (by decide +kernel)) (by decide +kernel))⟩
theorem kX12_sheet : yOK mX12_sheet 3 := ⟨(TBg_mem (List.mem_of_getElem? (i := 1617) (by decide +kernel)) (by decide +kernel)), (TBg_mem (List.mem_of_getElem? (i := 83) (by decide +kernel)) (by decide +kernel)), ⟨by decide +kernel, by decide +kernel, by decide +kernel⟩, by decide⟩
theorem vX12_sheet : vMeth mX12_sheet := ⟨(TBg_mem (List.mem_of_getElem? (i := 1615) (by decide +kernel)) (by decide +kernel)), (TBg_mem (List.mem_of_getElem? (i := 1616) (by decide +kernel)) (by decide +kernel))⟩
theorem kX12_isSheet : yOK mX12_isSheet 1 := ⟨(TBg_mem (List.mem_of_getElem? (i := 1620) (by decide +kernel)) (by decide +kernel)), (TBg_mem (List.mem_of_getElem? (i := 83) (by decide +kernel)) (by decide +kernel)), ⟨by decide +kernel, by decide +kernel, by decide +kernel⟩, by decide⟩
theorem vX12_isSheet : sMeth mX12_isSheet := (TBg_mem (List.mem_of_getElem? (i := 1619) (by decide +kernel)) (by decide +kernel))
theorem kX12_write : yOK mX12_write 3 := ⟨(TBg_mem (List.mem_of_getElem? (i := 1625) (by decide +kernel)) (by decide +kernel)), (TBg_mem (List.mem_of_getElem? (i := 83) (by decide +kernel)) (by decide +kernel)), ⟨by decide +kernel, by decide +kernel, by decide +kernel⟩, by decide⟩
theorem vX12_write : vMeth mX12_write := ⟨(TBg_mem (List.mem_of_getElem? (i := 1623) (by decide +kernel)) (by decide +kernel)), (TBg_mem (List.mem_of_getElem? (i := 1624) (by decide +kernel)) (by decide +kernel))⟩
theorem kX12_copy : yOK mX12_copy 5 := ⟨(TBg_mem (List.mem_of_getElem? (i := 1630) (by decide +kernel)) (by decide +kernel)), (TBg_mem (List.mem_of_getElem? (i := 83) (by decide +kernel)) (by decide +kernel)), ⟨by decide +kernel, by decide +kernel, by decide +kernel⟩, by decide⟩
theorem vX12_copy : vMeth mX12_copy := ⟨(TBg_mem (List.mem_of_getElem? (i := 1628) (by decide +kernel)) (by decide +kernel)), (TBg_mem (List.mem_of_getElem? (i := 1629) (by decide +kernel)) (by decide +kernel))⟩
theorem kX12_read : yOK mX12_read 1 := ⟨(TBg_mem (List.mem_of_getElem? (i := 1634) (by decide +kernel)) (by decide +kernel)), (TBg_mem (List.mem_of_getElem? (i := 83) (by decide +kernel)) (by decide +kernel)), ⟨by decide +kernel, by decide +kernel, by decide +kernel⟩, by decide⟩
theorem vX12_read : vMeth mX12_read := ⟨(TBg_mem (List.mem_of_getElem? (i := 1632) (by decide +kernel)) (by decide +kernel)), (TBg_mem (List.mem_of_getElem? (i := 1633) (by decide +kernel)) (by decide +kernel))⟩
theorem kX12_told : yOK mX12_told 1 := ⟨(TBg_mem (List.mem_of_getElem? (i := 1638) (by decide +kernel)) (by decide +kernel)), (TBg_mem (List.mem_of_getElem? (i := 83) (by decide +kernel)) (by decide +kernel)), ⟨by decide +kernel, by decide +kernel, by decide +kernel⟩, by decide⟩
theorem vX12_told : vMeth mX12_told := ⟨(TBg_mem (List.mem_of_getElem? (i := 1636) (by decide +kernel)) (by decide +kernel)), (TBg_mem (List.mem_of_getElem? (i := 1637) (by decide +kernel)) (by decide +kernel))⟩
theorem kX12_countIn : yOK mX12_countIn 0 := ⟨(TBg_mem (List.mem_of_getElem? (i := 1642) (by decide +kernel)) (by decide +kernel)), (TBg_mem (List.mem_of_getElem? (i := 83) (by decide +kernel)) (by decide +kernel)), ⟨by decide +kernel, by decide +kernel, by decide +kernel⟩, by decide⟩
theorem vX12_countIn : vMeth mX12_countIn := ⟨(TBg_mem (List.mem_of_getElem? (i := 1641) (by decide +kernel)) (by decide +kernel)), (TBg_mem (List.mem_of_getElem? (i := 69) (by decide +kernel)) (by decide +kernel))⟩
theorem clL_7 : cLk RL 7 11 := ⟨_, rfl, (TBg_mem (List.mem_of_getElem? (i := 87) (by decide +kernel)) (by decide +kernel)), (TBg_mem (List.mem_of_getElem? (i := 88) (by decide +kernel)) (by decide +kernel)), (TBg_mem (List.mem_of_getElem? (i := 71) (by decide +kernel)) (by decide +kernel))⟩
theorem caL_7 : Cond.classLink RL 7 "SliceSeller" ∈ TBg := (TBg_mem (List.mem_of_getElem? (i := 87) (by decide +kernel)) (by decide +kernel))
theorem lL_9 : mLk RL 9 yX11_init := Or.inl (TBg_mem (List.mem_of_getElem? (i := 89) (by decide +kernel)) (by decide +kernel))
theorem oiX11_3 : Cond.methodLink RX11 3 Lib.objectInit ∈ TBg := (TBg_mem (List.mem_of_getElem? (i := 92) (by decide +kernel)) (by decide +kernel))
theorem clX11_9 : cLk RX11 9 5 := ⟨_, rfl, (TBg_mem (List.mem_of_getElem? (i := 95) (by decide +kernel)) (by decide +kernel)), (TBg_mem (List.mem_of_getElem? (i := 96) (by decide +kernel)) (by decide +kernel)), (TBg_mem (List.mem_of_getElem? (i := 72) (by decide +kernel)) (by decide +kernel))⟩
theorem caX11_9 : Cond.classLink RX11 9 "SliceSeller$Net" ∈ TBg := (TBg_mem (List.mem_of_getElem? (i := 95) (by decide +kernel)) (by decide +kernel))
theorem lX11_11 : mLk RX11 11 yX5_init := Or.inl (TBg_mem (List.mem_of_getElem? (i := 97) (by decide +kernel)) (by decide +kernel))
theorem oiX5_3 : Cond.methodLink RX5 3 Lib.objectInit ∈ TBg := (TBg_mem (List.mem_of_getElem? (i := 100) (by decide +kernel)) (by decide +kernel))
theorem clX5_15 : cLk RX5 15 4 := ⟨_, rfl, (TBg_mem (List.mem_of_getElem? (i := 101) (by decide +kernel)) (by decide +kernel)), (TBg_mem (List.mem_of_getElem? (i := 128) (by decide +kernel)) (by decide +kernel)), (TBg_mem (List.mem_of_getElem? (i := 74) (by decide +kernel)) (by decide +kernel))⟩
theorem caX5_15 : Cond.classLink RX5 15 "SliceSeller$Line" ∈ TBg := (TBg_mem (List.mem_of_getElem? (i := 101) (by decide +kernel)) (by decide +kernel))
theorem aoX4 : Cond.arrayOver (.object "SliceSeller$Line") ∈ lw_tbl := (List.mem_of_getElem? (i := 102) (by decide +kernel))
theorem clX5_21 : cLk RX5 21 10 := ⟨_, rfl, (TBg_mem (List.mem_of_getElem? (i := 103) (by decide +kernel)) (by decide +kernel)), (TBg_mem (List.mem_of_getElem? (i := 104) (by decide +kernel)) (by decide +kernel)), (TBg_mem (List.mem_of_getElem? (i := 73) (by decide +kernel)) (by decide +kernel))⟩
theorem caX5_21 : Cond.classLink RX5 21 "SliceSeller$Ways" ∈ TBg := (TBg_mem (List.mem_of_getElem? (i := 103) (by decide +kernel)) (by decide +kernel))
theorem lX5_23 : mLk RX5 23 yX10_init := Or.inr ⟨"SliceSeller", (List.mem_of_getElem? (i := 105) (by decide +kernel))⟩
theorem oiX10_5 : Cond.methodLink RX10 5 Lib.objectInit ∈ TBg := (TBg_mem (List.mem_of_getElem? (i := 108) (by decide +kernel)) (by decide +kernel))
theorem fX10_11 : fLk RX10 11 10 0 true (.array .int) := ⟨_, rfl, by decide, (TBg_mem (List.mem_of_getElem? (i := 109) (by decide +kernel)) (by decide +kernel)), rfl, by decide +kernel, fun h => by first | rfl | cases h⟩
theorem fX10_15 : fLk RX10 15 10 1 false .int := ⟨_, rfl, by decide, (TBg_mem (List.mem_of_getElem? (i := 110) (by decide +kernel)) (by decide +kernel)), rfl, by decide +kernel, fun h => by first | rfl | cases h⟩
theorem fX10_19 : fLk RX10 19 10 2 false .int := ⟨_, rfl, by decide, (TBg_mem (List.mem_of_getElem? (i := 111) (by decide +kernel)) (by decide +kernel)), rfl, by decide +kernel, fun h => by first | rfl | cases h⟩
theorem fX10_22 : fLk RX10 22 10 3 false .int := ⟨_, rfl, by decide, (TBg_mem (List.mem_of_getElem? (i := 112) (by decide +kernel)) (by decide +kernel)), rfl, by decide +kernel, fun h => by first | rfl | cases h⟩
theorem fX11_100 : fLk RX11 100 10 4 false .int := ⟨_, rfl, by decide, (TBg_mem (List.mem_of_getElem? (i := 113) (by decide +kernel)) (by decide +kernel)), rfl, by decide +kernel, fun h => by first | rfl | cases h⟩
theorem fX6_57 : fLk RX6 57 10 4 false .int := ⟨_, rfl, by decide, (TBg_mem (List.mem_of_getElem? (i := 114) (by decide +kernel)) (by decide +kernel)), rfl, by decide +kernel, fun h => by first | rfl | cases h⟩
theorem fX10_36 : fLk RX10 36 10 4 false .int := ⟨_, rfl, by decide, (TBg_mem (List.mem_of_getElem? (i := 115) (by decide +kernel)) (by decide +kernel)), rfl, by decide +kernel, fun h => by first | rfl | cases h⟩
theorem arc_int : Cond.arrayClass .int ∈ TBg := (TBg_mem (List.mem_of_getElem? (i := 127) (by decide +kernel)) (by decide +kernel))
theorem lX5_28 : mLk RX5 28 yX4_init := Or.inr ⟨"SliceSeller", (List.mem_of_getElem? (i := 129) (by decide +kernel))⟩
theorem oiX4_1 : Cond.methodLink RX4 1 Lib.objectInit ∈ TBg := (TBg_mem (List.mem_of_getElem? (i := 132) (by decide +kernel)) (by decide +kernel))
theorem fX4_7 : fLk RX4 7 4 0 false .int := ⟨_, rfl, by decide, (TBg_mem (List.mem_of_getElem? (i := 133) (by decide +kernel)) (by decide +kernel)), rfl, by decide +kernel, fun h => by first | rfl | cases h⟩
theorem fX1_53 : fLk RX1 53 4 0 false .int := ⟨_, rfl, by decide, (TBg_mem (List.mem_of_getElem? (i := 134) (by decide +kernel)) (by decide +kernel)), rfl, by decide +kernel, fun h => by first | rfl | cases h⟩
theorem fX5_40 : fLk RX5 40 4 0 false .int := ⟨_, rfl, by decide, (TBg_mem (List.mem_of_getElem? (i := 135) (by decide +kernel)) (by decide +kernel)), rfl, by decide +kernel, fun h => by first | rfl | cases h⟩
theorem fX4_13 : fLk RX4 13 4 1 false .int := ⟨_, rfl, by decide, (TBg_mem (List.mem_of_getElem? (i := 136) (by decide +kernel)) (by decide +kernel)), rfl, by decide +kernel, fun h => by first | rfl | cases h⟩
theorem fX1_58 : fLk RX1 58 4 1 false .int := ⟨_, rfl, by decide, (TBg_mem (List.mem_of_getElem? (i := 137) (by decide +kernel)) (by decide +kernel)), rfl, by decide +kernel, fun h => by first | rfl | cases h⟩
theorem fX5_43 : fLk RX5 43 4 1 false .int := ⟨_, rfl, by decide, (TBg_mem (List.mem_of_getElem? (i := 138) (by decide +kernel)) (by decide +kernel)), rfl, by decide +kernel, fun h => by first | rfl | cases h⟩
theorem fX4_16 : fLk RX4 16 4 2 false .int := ⟨_, rfl, by decide, (TBg_mem (List.mem_of_getElem? (i := 139) (by decide +kernel)) (by decide +kernel)), rfl, by decide +kernel, fun h => by first | rfl | cases h⟩
theorem fX0_34 : fLk RX0 34 4 2 false .int := ⟨_, rfl, by decide, (TBg_mem (List.mem_of_getElem? (i := 140) (by decide +kernel)) (by decide +kernel)), rfl, by decide +kernel, fun h => by first | rfl | cases h⟩
theorem fX5_46 : fLk RX5 46 4 2 false .int := ⟨_, rfl, by decide, (TBg_mem (List.mem_of_getElem? (i := 141) (by decide +kernel)) (by decide +kernel)), rfl, by decide +kernel, fun h => by first | rfl | cases h⟩
theorem fX4_31 : fLk RX4 31 4 3 false .int := ⟨_, rfl, by decide, (TBg_mem (List.mem_of_getElem? (i := 142) (by decide +kernel)) (by decide +kernel)), rfl, by decide +kernel, fun h => by first | rfl | cases h⟩
theorem fX5_49 : fLk RX5 49 4 3 false .int := ⟨_, rfl, by decide, (TBg_mem (List.mem_of_getElem? (i := 143) (by decide +kernel)) (by decide +kernel)), rfl, by decide +kernel, fun h => by first | rfl | cases h⟩
theorem fX10_60 : fLk RX10 60 4 3 false .int := ⟨_, rfl, by decide, (TBg_mem (List.mem_of_getElem? (i := 144) (by decide +kernel)) (by decide +kernel)), rfl, by decide +kernel, fun h => by first | rfl | cases h⟩
theorem fX4_28 : fLk RX4 28 4 4 false .int := ⟨_, rfl, by decide, (TBg_mem (List.mem_of_getElem? (i := 145) (by decide +kernel)) (by decide +kernel)), rfl, by decide +kernel, fun h => by first | rfl | cases h⟩
theorem fX5_52 : fLk RX5 52 4 4 false .int := ⟨_, rfl, by decide, (TBg_mem (List.mem_of_getElem? (i := 146) (by decide +kernel)) (by decide +kernel)), rfl, by decide +kernel, fun h => by first | rfl | cases h⟩
theorem fX2_123 : fLk RX2 123 4 4 false .int := ⟨_, rfl, by decide, (TBg_mem (List.mem_of_getElem? (i := 147) (by decide +kernel)) (by decide +kernel)), rfl, by decide +kernel, fun h => by first | rfl | cases h⟩
theorem fX4_22 : fLk RX4 22 4 5 false .int := ⟨_, rfl, by decide, (TBg_mem (List.mem_of_getElem? (i := 148) (by decide +kernel)) (by decide +kernel)), rfl, by decide +kernel, fun h => by first | rfl | cases h⟩
theorem fX4_19 : fLk RX4 19 4 6 false .int := ⟨_, rfl, by decide, (TBg_mem (List.mem_of_getElem? (i := 149) (by decide +kernel)) (by decide +kernel)), rfl, by decide +kernel, fun h => by first | rfl | cases h⟩
theorem fX2_44 : fLk RX2 44 4 6 false .int := ⟨_, rfl, by decide, (TBg_mem (List.mem_of_getElem? (i := 150) (by decide +kernel)) (by decide +kernel)), rfl, by decide +kernel, fun h => by first | rfl | cases h⟩
theorem fX4_25 : fLk RX4 25 4 7 false .int := ⟨_, rfl, by decide, (TBg_mem (List.mem_of_getElem? (i := 151) (by decide +kernel)) (by decide +kernel)), rfl, by decide +kernel, fun h => by first | rfl | cases h⟩
theorem fX5_9 : fLk RX5 9 5 0 true (.array .int) := ⟨_, rfl, by decide, (TBg_mem (List.mem_of_getElem? (i := 169) (by decide +kernel)) (by decide +kernel)), rfl, by decide +kernel, fun h => by first | rfl | cases h⟩
theorem fX5_17 : fLk RX5 17 5 1 true (.array (.object "SliceSeller$Line")) := ⟨_, rfl, by decide, (TBg_mem (List.mem_of_getElem? (i := 170) (by decide +kernel)) (by decide +kernel)), rfl, by decide +kernel, fun h => by first | rfl | cases h⟩
theorem fX5_24 : fLk RX5 24 5 2 true (.object "SliceSeller$Ways") := ⟨_, rfl, by decide, (TBg_mem (List.mem_of_getElem? (i := 171) (by decide +kernel)) (by decide +kernel)), rfl, by decide +kernel, fun h => by first | rfl | cases h⟩
theorem fX5_29 : fLk RX5 29 5 3 false .int := ⟨_, rfl, by decide, (TBg_mem (List.mem_of_getElem? (i := 172) (by decide +kernel)) (by decide +kernel)), rfl, by decide +kernel, fun h => by first | rfl | cases h⟩
theorem fX11_69 : fLk RX11 69 5 3 false .int := ⟨_, rfl, by decide, (TBg_mem (List.mem_of_getElem? (i := 173) (by decide +kernel)) (by decide +kernel)), rfl, by decide +kernel, fun h => by first | rfl | cases h⟩
theorem fX1_34 : fLk RX1 34 5 3 false .int := ⟨_, rfl, by decide, (TBg_mem (List.mem_of_getElem? (i := 174) (by decide +kernel)) (by decide +kernel)), rfl, by decide +kernel, fun h => by first | rfl | cases h⟩
theorem fX6_86 : fLk RX6 86 5 3 false .int := ⟨_, rfl, by decide, (TBg_mem (List.mem_of_getElem? (i := 175) (by decide +kernel)) (by decide +kernel)), rfl, by decide +kernel, fun h => by first | rfl | cases h⟩
theorem fX1_15 : fLk RX1 15 5 4 false .int := ⟨_, rfl, by decide, (TBg_mem (List.mem_of_getElem? (i := 176) (by decide +kernel)) (by decide +kernel)), rfl, by decide +kernel, fun h => by first | rfl | cases h⟩
theorem fX5_33 : fLk RX5 33 5 4 false .int := ⟨_, rfl, by decide, (TBg_mem (List.mem_of_getElem? (i := 177) (by decide +kernel)) (by decide +kernel)), rfl, by decide +kernel, fun h => by first | rfl | cases h⟩
theorem fX2_35 : fLk RX2 35 5 4 false .int := ⟨_, rfl, by decide, (TBg_mem (List.mem_of_getElem? (i := 178) (by decide +kernel)) (by decide +kernel)), rfl, by decide +kernel, fun h => by first | rfl | cases h⟩
theorem fX11_81 : fLk RX11 81 5 4 false .int := ⟨_, rfl, by decide, (TBg_mem (List.mem_of_getElem? (i := 179) (by decide +kernel)) (by decide +kernel)), rfl, by decide +kernel, fun h => by first | rfl | cases h⟩
theorem fX6_22 : fLk RX6 22 5 4 false .int := ⟨_, rfl, by decide, (TBg_mem (List.mem_of_getElem? (i := 180) (by decide +kernel)) (by decide +kernel)), rfl, by decide +kernel, fun h => by first | rfl | cases h⟩
theorem fX10_31 : fLk RX10 31 5 4 false .int := ⟨_, rfl, by decide, (TBg_mem (List.mem_of_getElem? (i := 181) (by decide +kernel)) (by decide +kernel)), rfl, by decide +kernel, fun h => by first | rfl | cases h⟩
theorem fX0_79 : fLk RX0 79 5 4 false .int := ⟨_, rfl, by decide, (TBg_mem (List.mem_of_getElem? (i := 182) (by decide +kernel)) (by decide +kernel)), rfl, by decide +kernel, fun h => by first | rfl | cases h⟩
theorem fX2_111 : fLk RX2 111 5 5 false .int := ⟨_, rfl, by decide, (TBg_mem (List.mem_of_getElem? (i := 183) (by decide +kernel)) (by decide +kernel)), rfl, by decide +kernel, fun h => by first | rfl | cases h⟩
theorem fX5_55 : fLk RX5 55 5 5 false .int := ⟨_, rfl, by decide, (TBg_mem (List.mem_of_getElem? (i := 184) (by decide +kernel)) (by decide +kernel)), rfl, by decide +kernel, fun h => by first | rfl | cases h⟩
theorem fX11_255 : fLk RX11 255 5 5 false .int := ⟨_, rfl, by decide, (TBg_mem (List.mem_of_getElem? (i := 185) (by decide +kernel)) (by decide +kernel)), rfl, by decide +kernel, fun h => by first | rfl | cases h⟩
theorem clX11_12 : cLk RX11 12 9 := ⟨_, rfl, (TBg_mem (List.mem_of_getElem? (i := 199) (by decide +kernel)) (by decide +kernel)), (TBg_mem (List.mem_of_getElem? (i := 200) (by decide +kernel)) (by decide +kernel)), (TBg_mem (List.mem_of_getElem? (i := 75) (by decide +kernel)) (by decide +kernel))⟩
theorem caX11_12 : Cond.classLink RX11 12 "SliceSeller$Slices" ∈ TBg := (TBg_mem (List.mem_of_getElem? (i := 199) (by decide +kernel)) (by decide +kernel))
theorem lX11_14 : mLk RX11 14 yX9_init := Or.inl (TBg_mem (List.mem_of_getElem? (i := 201) (by decide +kernel)) (by decide +kernel))
theorem oiX9_3 : Cond.methodLink RX9 3 Lib.objectInit ∈ TBg := (TBg_mem (List.mem_of_getElem? (i := 204) (by decide +kernel)) (by decide +kernel))
theorem clX9_9 : cLk RX9 9 8 := ⟨_, rfl, (TBg_mem (List.mem_of_getElem? (i := 205) (by decide +kernel)) (by decide +kernel)), (TBg_mem (List.mem_of_getElem? (i := 207) (by decide +kernel)) (by decide +kernel)), (TBg_mem (List.mem_of_getElem? (i := 76) (by decide +kernel)) (by decide +kernel))⟩
theorem caX9_9 : Cond.classLink RX9 9 "SliceSeller$Slice" ∈ TBg := (TBg_mem (List.mem_of_getElem? (i := 205) (by decide +kernel)) (by decide +kernel))
theorem aoX8 : Cond.arrayOver (.object "SliceSeller$Slice") ∈ lw_tbl := (List.mem_of_getElem? (i := 206) (by decide +kernel))
theorem lX9_17 : mLk RX9 17 yX8_init := Or.inr ⟨"SliceSeller", (List.mem_of_getElem? (i := 208) (by decide +kernel))⟩
theorem oiX8_3 : Cond.methodLink RX8 3 Lib.objectInit ∈ TBg := (TBg_mem (List.mem_of_getElem? (i := 211) (by decide +kernel)) (by decide +kernel))
theorem clX8_9 : cLk RX8 9 6 := ⟨_, rfl, (TBg_mem (List.mem_of_getElem? (i := 212) (by decide +kernel)) (by decide +kernel)), (TBg_mem (List.mem_of_getElem? (i := 213) (by decide +kernel)) (by decide +kernel)), (TBg_mem (List.mem_of_getElem? (i := 77) (by decide +kernel)) (by decide +kernel))⟩
theorem caX8_9 : Cond.classLink RX8 9 "SliceSeller$Places" ∈ TBg := (TBg_mem (List.mem_of_getElem? (i := 212) (by decide +kernel)) (by decide +kernel))
theorem lX8_11 : mLk RX8 11 yX6_init := Or.inr ⟨"SliceSeller", (List.mem_of_getElem? (i := 214) (by decide +kernel))⟩
theorem oiX6_3 : Cond.methodLink RX6 3 Lib.objectInit ∈ TBg := (TBg_mem (List.mem_of_getElem? (i := 217) (by decide +kernel)) (by decide +kernel))
theorem fX6_9 : fLk RX6 9 6 0 false (.array .int) := ⟨_, rfl, by decide, (TBg_mem (List.mem_of_getElem? (i := 218) (by decide +kernel)) (by decide +kernel)), rfl, by decide +kernel, fun h => by first | rfl | cases h⟩
theorem fX6_15 : fLk RX6 15 6 1 false (.array .int) := ⟨_, rfl, by decide, (TBg_mem (List.mem_of_getElem? (i := 219) (by decide +kernel)) (by decide +kernel)), rfl, by decide +kernel, fun h => by first | rfl | cases h⟩
theorem fX6_18 : fLk RX6 18 6 2 false .int := ⟨_, rfl, by decide, (TBg_mem (List.mem_of_getElem? (i := 220) (by decide +kernel)) (by decide +kernel)), rfl, by decide +kernel, fun h => by first | rfl | cases h⟩
theorem fX6_43 : fLk RX6 43 6 3 false .int := ⟨_, rfl, by decide, (TBg_mem (List.mem_of_getElem? (i := 221) (by decide +kernel)) (by decide +kernel)), rfl, by decide +kernel, fun h => by first | rfl | cases h⟩
theorem fX11_174 : fLk RX11 174 6 3 false .int := ⟨_, rfl, by decide, (TBg_mem (List.mem_of_getElem? (i := 222) (by decide +kernel)) (by decide +kernel)), rfl, by decide +kernel, fun h => by first | rfl | cases h⟩
theorem fX6_46 : fLk RX6 46 6 4 false .int := ⟨_, rfl, by decide, (TBg_mem (List.mem_of_getElem? (i := 223) (by decide +kernel)) (by decide +kernel)), rfl, by decide +kernel, fun h => by first | rfl | cases h⟩
theorem fX3_126 : fLk RX3 126 6 4 false .int := ⟨_, rfl, by decide, (TBg_mem (List.mem_of_getElem? (i := 224) (by decide +kernel)) (by decide +kernel)), rfl, by decide +kernel, fun h => by first | rfl | cases h⟩
theorem fX11_204 : fLk RX11 204 6 4 false .int := ⟨_, rfl, by decide, (TBg_mem (List.mem_of_getElem? (i := 225) (by decide +kernel)) (by decide +kernel)), rfl, by decide +kernel, fun h => by first | rfl | cases h⟩
theorem fX8_40 : fLk RX8 40 8 0 false .int := ⟨_, rfl, by decide, (TBg_mem (List.mem_of_getElem? (i := 237) (by decide +kernel)) (by decide +kernel)), rfl, by decide +kernel, fun h => by first | rfl | cases h⟩
theorem fX9_22 : fLk RX9 22 8 0 false .int := ⟨_, rfl, by decide, (TBg_mem (List.mem_of_getElem? (i := 238) (by decide +kernel)) (by decide +kernel)), rfl, by decide +kernel, fun h => by first | rfl | cases h⟩
theorem fX6_27 : fLk RX6 27 8 1 false .int := ⟨_, rfl, by decide, (TBg_mem (List.mem_of_getElem? (i := 239) (by decide +kernel)) (by decide +kernel)), rfl, by decide +kernel, fun h => by first | rfl | cases h⟩
theorem fX9_25 : fLk RX9 25 8 1 false .int := ⟨_, rfl, by decide, (TBg_mem (List.mem_of_getElem? (i := 240) (by decide +kernel)) (by decide +kernel)), rfl, by decide +kernel, fun h => by first | rfl | cases h⟩
theorem fX8_64 : fLk RX8 64 8 1 false .int := ⟨_, rfl, by decide, (TBg_mem (List.mem_of_getElem? (i := 241) (by decide +kernel)) (by decide +kernel)), rfl, by decide +kernel, fun h => by first | rfl | cases h⟩
theorem fX11_215 : fLk RX11 215 8 1 false .int := ⟨_, rfl, by decide, (TBg_mem (List.mem_of_getElem? (i := 242) (by decide +kernel)) (by decide +kernel)), rfl, by decide +kernel, fun h => by first | rfl | cases h⟩
theorem fX6_32 : fLk RX6 32 8 2 false .int := ⟨_, rfl, by decide, (TBg_mem (List.mem_of_getElem? (i := 243) (by decide +kernel)) (by decide +kernel)), rfl, by decide +kernel, fun h => by first | rfl | cases h⟩
theorem fX9_28 : fLk RX9 28 8 2 false .int := ⟨_, rfl, by decide, (TBg_mem (List.mem_of_getElem? (i := 244) (by decide +kernel)) (by decide +kernel)), rfl, by decide +kernel, fun h => by first | rfl | cases h⟩
theorem fX8_67 : fLk RX8 67 8 2 false .int := ⟨_, rfl, by decide, (TBg_mem (List.mem_of_getElem? (i := 245) (by decide +kernel)) (by decide +kernel)), rfl, by decide +kernel, fun h => by first | rfl | cases h⟩
theorem fX9_31 : fLk RX9 31 8 3 false .int := ⟨_, rfl, by decide, (TBg_mem (List.mem_of_getElem? (i := 246) (by decide +kernel)) (by decide +kernel)), rfl, by decide +kernel, fun h => by first | rfl | cases h⟩
theorem fX2_97 : fLk RX2 97 8 3 false .int := ⟨_, rfl, by decide, (TBg_mem (List.mem_of_getElem? (i := 247) (by decide +kernel)) (by decide +kernel)), rfl, by decide +kernel, fun h => by first | rfl | cases h⟩
theorem fX8_54 : fLk RX8 54 8 3 false .int := ⟨_, rfl, by decide, (TBg_mem (List.mem_of_getElem? (i := 248) (by decide +kernel)) (by decide +kernel)), rfl, by decide +kernel, fun h => by first | rfl | cases h⟩
theorem fX11_143 : fLk RX11 143 8 3 false .int := ⟨_, rfl, by decide, (TBg_mem (List.mem_of_getElem? (i := 249) (by decide +kernel)) (by decide +kernel)), rfl, by decide +kernel, fun h => by first | rfl | cases h⟩
theorem fX9_34 : fLk RX9 34 8 4 false .int := ⟨_, rfl, by decide, (TBg_mem (List.mem_of_getElem? (i := 250) (by decide +kernel)) (by decide +kernel)), rfl, by decide +kernel, fun h => by first | rfl | cases h⟩
theorem fX6_66 : fLk RX6 66 8 4 false .int := ⟨_, rfl, by decide, (TBg_mem (List.mem_of_getElem? (i := 251) (by decide +kernel)) (by decide +kernel)), rfl, by decide +kernel, fun h => by first | rfl | cases h⟩
theorem fX8_70 : fLk RX8 70 8 4 false .int := ⟨_, rfl, by decide, (TBg_mem (List.mem_of_getElem? (i := 252) (by decide +kernel)) (by decide +kernel)), rfl, by decide +kernel, fun h => by first | rfl | cases h⟩
theorem fX8_18 : fLk RX8 18 8 5 false .int := ⟨_, rfl, by decide, (TBg_mem (List.mem_of_getElem? (i := 253) (by decide +kernel)) (by decide +kernel)), rfl, by decide +kernel, fun h => by first | rfl | cases h⟩
theorem fX8_22 : fLk RX8 22 8 6 false .int := ⟨_, rfl, by decide, (TBg_mem (List.mem_of_getElem? (i := 254) (by decide +kernel)) (by decide +kernel)), rfl, by decide +kernel, fun h => by first | rfl | cases h⟩
theorem fX0_67 : fLk RX0 67 8 6 false .int := ⟨_, rfl, by decide, (TBg_mem (List.mem_of_getElem? (i := 255) (by decide +kernel)) (by decide +kernel)), rfl, by decide +kernel, fun h => by first | rfl | cases h⟩
theorem fX8_25 : fLk RX8 25 8 7 false .int := ⟨_, rfl, by decide, (TBg_mem (List.mem_of_getElem? (i := 256) (by decide +kernel)) (by decide +kernel)), rfl, by decide +kernel, fun h => by first | rfl | cases h⟩
theorem fX3_144 : fLk RX3 144 8 7 false .int := ⟨_, rfl, by decide, (TBg_mem (List.mem_of_getElem? (i := 257) (by decide +kernel)) (by decide +kernel)), rfl, by decide +kernel, fun h => by first | rfl | cases h⟩
theorem fX8_28 : fLk RX8 28 8 8 false .int := ⟨_, rfl, by decide, (TBg_mem (List.mem_of_getElem? (i := 258) (by decide +kernel)) (by decide +kernel)), rfl, by decide +kernel, fun h => by first | rfl | cases h⟩
theorem fX8_31 : fLk RX8 31 8 9 false .int := ⟨_, rfl, by decide, (TBg_mem (List.mem_of_getElem? (i := 259) (by decide +kernel)) (by decide +kernel)), rfl, by decide +kernel, fun h => by first | rfl | cases h⟩
theorem fX8_34 : fLk RX8 34 8 10 false .int := ⟨_, rfl, by decide, (TBg_mem (List.mem_of_getElem? (i := 260) (by decide +kernel)) (by decide +kernel)), rfl, by decide +kernel, fun h => by first | rfl | cases h⟩
theorem fX8_37 : fLk RX8 37 8 11 false .int := ⟨_, rfl, by decide, (TBg_mem (List.mem_of_getElem? (i := 261) (by decide +kernel)) (by decide +kernel)), rfl, by decide +kernel, fun h => by first | rfl | cases h⟩
theorem fX2_104 : fLk RX2 104 8 11 false .int := ⟨_, rfl, by decide, (TBg_mem (List.mem_of_getElem? (i := 262) (by decide +kernel)) (by decide +kernel)), rfl, by decide +kernel, fun h => by first | rfl | cases h⟩
theorem fX3_115 : fLk RX3 115 8 11 false .int := ⟨_, rfl, by decide, (TBg_mem (List.mem_of_getElem? (i := 263) (by decide +kernel)) (by decide +kernel)), rfl, by decide +kernel, fun h => by first | rfl | cases h⟩
theorem fX11_186 : fLk RX11 186 8 11 false .int := ⟨_, rfl, by decide, (TBg_mem (List.mem_of_getElem? (i := 264) (by decide +kernel)) (by decide +kernel)), rfl, by decide +kernel, fun h => by first | rfl | cases h⟩
theorem fX8_47 : fLk RX8 47 8 12 false .int := ⟨_, rfl, by decide, (TBg_mem (List.mem_of_getElem? (i := 265) (by decide +kernel)) (by decide +kernel)), rfl, by decide +kernel, fun h => by first | rfl | cases h⟩
theorem fX11_218 : fLk RX11 218 8 12 false .int := ⟨_, rfl, by decide, (TBg_mem (List.mem_of_getElem? (i := 266) (by decide +kernel)) (by decide +kernel)), rfl, by decide +kernel, fun h => by first | rfl | cases h⟩
theorem fX2_65 : fLk RX2 65 8 13 false .int := ⟨_, rfl, by decide, (TBg_mem (List.mem_of_getElem? (i := 267) (by decide +kernel)) (by decide +kernel)), rfl, by decide +kernel, fun h => by first | rfl | cases h⟩
theorem fX9_58 : fLk RX9 58 8 13 false .int := ⟨_, rfl, by decide, (TBg_mem (List.mem_of_getElem? (i := 268) (by decide +kernel)) (by decide +kernel)), rfl, by decide +kernel, fun h => by first | rfl | cases h⟩
theorem fX8_77 : fLk RX8 77 8 13 false .int := ⟨_, rfl, by decide, (TBg_mem (List.mem_of_getElem? (i := 269) (by decide +kernel)) (by decide +kernel)), rfl, by decide +kernel, fun h => by first | rfl | cases h⟩
theorem fX11_285 : fLk RX11 285 8 13 false .int := ⟨_, rfl, by decide, (TBg_mem (List.mem_of_getElem? (i := 270) (by decide +kernel)) (by decide +kernel)), rfl, by decide +kernel, fun h => by first | rfl | cases h⟩
theorem fX8_80 : fLk RX8 80 8 14 false .int := ⟨_, rfl, by decide, (TBg_mem (List.mem_of_getElem? (i := 271) (by decide +kernel)) (by decide +kernel)), rfl, by decide +kernel, fun h => by first | rfl | cases h⟩
theorem fX2_126 : fLk RX2 126 8 14 false .int := ⟨_, rfl, by decide, (TBg_mem (List.mem_of_getElem? (i := 272) (by decide +kernel)) (by decide +kernel)), rfl, by decide +kernel, fun h => by first | rfl | cases h⟩
theorem fX2_90 : fLk RX2 90 8 15 false .int := ⟨_, rfl, by decide, (TBg_mem (List.mem_of_getElem? (i := 273) (by decide +kernel)) (by decide +kernel)), rfl, by decide +kernel, fun h => by first | rfl | cases h⟩
theorem fX8_83 : fLk RX8 83 8 15 false .int := ⟨_, rfl, by decide, (TBg_mem (List.mem_of_getElem? (i := 274) (by decide +kernel)) (by decide +kernel)), rfl, by decide +kernel, fun h => by first | rfl | cases h⟩
theorem fX8_86 : fLk RX8 86 8 16 false .int := ⟨_, rfl, by decide, (TBg_mem (List.mem_of_getElem? (i := 275) (by decide +kernel)) (by decide +kernel)), rfl, by decide +kernel, fun h => by first | rfl | cases h⟩
theorem fX2_129 : fLk RX2 129 8 16 false .int := ⟨_, rfl, by decide, (TBg_mem (List.mem_of_getElem? (i := 276) (by decide +kernel)) (by decide +kernel)), rfl, by decide +kernel, fun h => by first | rfl | cases h⟩
theorem fX2_58 : fLk RX2 58 8 17 false .int := ⟨_, rfl, by decide, (TBg_mem (List.mem_of_getElem? (i := 277) (by decide +kernel)) (by decide +kernel)), rfl, by decide +kernel, fun h => by first | rfl | cases h⟩
theorem fX8_89 : fLk RX8 89 8 17 false .int := ⟨_, rfl, by decide, (TBg_mem (List.mem_of_getElem? (i := 278) (by decide +kernel)) (by decide +kernel)), rfl, by decide +kernel, fun h => by first | rfl | cases h⟩
theorem fX8_12 : fLk RX8 12 8 18 true (.object "SliceSeller$Places") := ⟨_, rfl, by decide, (TBg_mem (List.mem_of_getElem? (i := 279) (by decide +kernel)) (by decide +kernel)), rfl, by decide +kernel, fun h => by first | rfl | cases h⟩
theorem fX9_41 : fLk RX9 41 8 18 true (.object "SliceSeller$Places") := ⟨_, rfl, by decide, (TBg_mem (List.mem_of_getElem? (i := 280) (by decide +kernel)) (by decide +kernel)), rfl, by decide +kernel, fun h => by first | rfl | cases h⟩
theorem fX3_122 : fLk RX3 122 8 18 true (.object "SliceSeller$Places") := ⟨_, rfl, by decide, (TBg_mem (List.mem_of_getElem? (i := 281) (by decide +kernel)) (by decide +kernel)), rfl, by decide +kernel, fun h => by first | rfl | cases h⟩
theorem fX9_11 : fLk RX9 11 9 0 true (.array (.object "SliceSeller$Slice")) := ⟨_, rfl, by decide, (TBg_mem (List.mem_of_getElem? (i := 321) (by decide +kernel)) (by decide +kernel)), rfl, by decide +kernel, fun h => by first | rfl | cases h⟩
theorem fX9_18 : fLk RX9 18 9 1 false .int := ⟨_, rfl, by decide, (TBg_mem (List.mem_of_getElem? (i := 322) (by decide +kernel)) (by decide +kernel)), rfl, by decide +kernel, fun h => by first | rfl | cases h⟩
theorem fX3_56 : fLk RX3 56 9 1 false .int := ⟨_, rfl, by decide, (TBg_mem (List.mem_of_getElem? (i := 323) (by decide +kernel)) (by decide +kernel)), rfl, by decide +kernel, fun h => by first | rfl | cases h⟩
theorem fX2_49 : fLk RX2 49 9 1 false .int := ⟨_, rfl, by decide, (TBg_mem (List.mem_of_getElem? (i := 324) (by decide +kernel)) (by decide +kernel)), rfl, by decide +kernel, fun h => by first | rfl | cases h⟩
theorem fX11_132 : fLk RX11 132 9 1 false .int := ⟨_, rfl, by decide, (TBg_mem (List.mem_of_getElem? (i := 325) (by decide +kernel)) (by decide +kernel)), rfl, by decide +kernel, fun h => by first | rfl | cases h⟩
theorem clX11_23 : cLk RX11 23 0 := ⟨_, rfl, (TBg_mem (List.mem_of_getElem? (i := 331) (by decide +kernel)) (by decide +kernel)), (TBg_mem (List.mem_of_getElem? (i := 332) (by decide +kernel)) (by decide +kernel)), (TBg_mem (List.mem_of_getElem? (i := 78) (by decide +kernel)) (by decide +kernel))⟩
theorem caX11_23 : Cond.classLink RX11 23 "SliceSeller$Book" ∈ TBg := (TBg_mem (List.mem_of_getElem? (i := 331) (by decide +kernel)) (by decide +kernel))
theorem lX11_25 : mLk RX11 25 yX0_init := Or.inr ⟨"SliceSeller", (List.mem_of_getElem? (i := 333) (by decide +kernel))⟩
theorem oiX0_3 : Cond.methodLink RX0 3 Lib.objectInit ∈ TBg := (TBg_mem (List.mem_of_getElem? (i := 336) (by decide +kernel)) (by decide +kernel))
theorem fX0_9 : fLk RX0 9 0 0 true (.array .int) := ⟨_, rfl, by decide, (TBg_mem (List.mem_of_getElem? (i := 337) (by decide +kernel)) (by decide +kernel)), rfl, by decide +kernel, fun h => by first | rfl | cases h⟩
theorem fX0_15 : fLk RX0 15 0 1 true (.array .int) := ⟨_, rfl, by decide, (TBg_mem (List.mem_of_getElem? (i := 338) (by decide +kernel)) (by decide +kernel)), rfl, by decide +kernel, fun h => by first | rfl | cases h⟩
theorem fX0_18 : fLk RX0 18 0 2 true (.array .int) := ⟨_, rfl, by decide, (TBg_mem (List.mem_of_getElem? (i := 339) (by decide +kernel)) (by decide +kernel)), rfl, by decide +kernel, fun h => by first | rfl | cases h⟩
theorem fX0_21 : fLk RX0 21 0 3 true (.array .int) := ⟨_, rfl, by decide, (TBg_mem (List.mem_of_getElem? (i := 340) (by decide +kernel)) (by decide +kernel)), rfl, by decide +kernel, fun h => by first | rfl | cases h⟩
theorem fX0_24 : fLk RX0 24 0 4 false .int := ⟨_, rfl, by decide, (TBg_mem (List.mem_of_getElem? (i := 341) (by decide +kernel)) (by decide +kernel)), rfl, by decide +kernel, fun h => by first | rfl | cases h⟩
theorem fX3_98 : fLk RX3 98 0 4 false .int := ⟨_, rfl, by decide, (TBg_mem (List.mem_of_getElem? (i := 342) (by decide +kernel)) (by decide +kernel)), rfl, by decide +kernel, fun h => by first | rfl | cases h⟩
theorem clX11_30 : cLk RX11 30 1 := ⟨_, rfl, (TBg_mem (List.mem_of_getElem? (i := 354) (by decide +kernel)) (by decide +kernel)), (TBg_mem (List.mem_of_getElem? (i := 355) (by decide +kernel)) (by decide +kernel)), (TBg_mem (List.mem_of_getElem? (i := 79) (by decide +kernel)) (by decide +kernel))⟩
theorem caX11_30 : Cond.classLink RX11 30 "SliceSeller$Cut" ∈ TBg := (TBg_mem (List.mem_of_getElem? (i := 354) (by decide +kernel)) (by decide +kernel))
theorem lX11_32 : mLk RX11 32 yX1_init := Or.inr ⟨"SliceSeller", (List.mem_of_getElem? (i := 356) (by decide +kernel))⟩
theorem oiX1_3 : Cond.methodLink RX1 3 Lib.objectInit ∈ TBg := (TBg_mem (List.mem_of_getElem? (i := 359) (by decide +kernel)) (by decide +kernel))
theorem fX1_9 : fLk RX1 9 1 0 true (.array .int) := ⟨_, rfl, by decide, (TBg_mem (List.mem_of_getElem? (i := 360) (by decide +kernel)) (by decide +kernel)), rfl, by decide +kernel, fun h => by first | rfl | cases h⟩
theorem fX1_61 : fLk RX1 61 1 1 false .int := ⟨_, rfl, by decide, (TBg_mem (List.mem_of_getElem? (i := 361) (by decide +kernel)) (by decide +kernel)), rfl, by decide +kernel, fun h => by first | rfl | cases h⟩
theorem fX11_123 : fLk RX11 123 1 1 false .int := ⟨_, rfl, by decide, (TBg_mem (List.mem_of_getElem? (i := 362) (by decide +kernel)) (by decide +kernel)), rfl, by decide +kernel, fun h => by first | rfl | cases h⟩
theorem fX1_31 : fLk RX1 31 1 2 false .int := ⟨_, rfl, by decide, (TBg_mem (List.mem_of_getElem? (i := 363) (by decide +kernel)) (by decide +kernel)), rfl, by decide +kernel, fun h => by first | rfl | cases h⟩
theorem fX11_126 : fLk RX11 126 1 2 false .int := ⟨_, rfl, by decide, (TBg_mem (List.mem_of_getElem? (i := 364) (by decide +kernel)) (by decide +kernel)), rfl, by decide +kernel, fun h => by first | rfl | cases h⟩
theorem clX11_37 : cLk RX11 37 3 := ⟨_, rfl, (TBg_mem (List.mem_of_getElem? (i := 372) (by decide +kernel)) (by decide +kernel)), (TBg_mem (List.mem_of_getElem? (i := 373) (by decide +kernel)) (by decide +kernel)), (TBg_mem (List.mem_of_getElem? (i := 80) (by decide +kernel)) (by decide +kernel))⟩
theorem caX11_37 : Cond.classLink RX11 37 "SliceSeller$Layer" ∈ TBg := (TBg_mem (List.mem_of_getElem? (i := 372) (by decide +kernel)) (by decide +kernel))
theorem lX11_39 : mLk RX11 39 yX3_init := Or.inl (TBg_mem (List.mem_of_getElem? (i := 374) (by decide +kernel)) (by decide +kernel))
theorem oiX3_3 : Cond.methodLink RX3 3 Lib.objectInit ∈ TBg := (TBg_mem (List.mem_of_getElem? (i := 377) (by decide +kernel)) (by decide +kernel))
theorem clX3_9 : cLk RX3 9 0 := ⟨_, rfl, (TBg_mem (List.mem_of_getElem? (i := 378) (by decide +kernel)) (by decide +kernel)), (TBg_mem (List.mem_of_getElem? (i := 332) (by decide +kernel)) (by decide +kernel)), (TBg_mem (List.mem_of_getElem? (i := 78) (by decide +kernel)) (by decide +kernel))⟩
theorem caX3_9 : Cond.classLink RX3 9 "SliceSeller$Book" ∈ TBg := (TBg_mem (List.mem_of_getElem? (i := 378) (by decide +kernel)) (by decide +kernel))
theorem lX3_11 : mLk RX3 11 yX0_init := Or.inr ⟨"SliceSeller", (List.mem_of_getElem? (i := 379) (by decide +kernel))⟩
theorem fX3_40 : fLk RX3 40 3 0 true (.object "SliceSeller$Net") := ⟨_, rfl, by decide, (TBg_mem (List.mem_of_getElem? (i := 380) (by decide +kernel)) (by decide +kernel)), rfl, by decide +kernel, fun h => by first | rfl | cases h⟩
theorem fX3_44 : fLk RX3 44 3 1 true (.object "SliceSeller$Slices") := ⟨_, rfl, by decide, (TBg_mem (List.mem_of_getElem? (i := 381) (by decide +kernel)) (by decide +kernel)), rfl, by decide +kernel, fun h => by first | rfl | cases h⟩
theorem fX3_12 : fLk RX3 12 3 2 true (.object "SliceSeller$Book") := ⟨_, rfl, by decide, (TBg_mem (List.mem_of_getElem? (i := 382) (by decide +kernel)) (by decide +kernel)), rfl, by decide +kernel, fun h => by first | rfl | cases h⟩
theorem fX3_18 : fLk RX3 18 3 3 true (.array .int) := ⟨_, rfl, by decide, (TBg_mem (List.mem_of_getElem? (i := 383) (by decide +kernel)) (by decide +kernel)), rfl, by decide +kernel, fun h => by first | rfl | cases h⟩
theorem fX3_22 : fLk RX3 22 3 4 true (.array .int) := ⟨_, rfl, by decide, (TBg_mem (List.mem_of_getElem? (i := 384) (by decide +kernel)) (by decide +kernel)), rfl, by decide +kernel, fun h => by first | rfl | cases h⟩
theorem fX3_25 : fLk RX3 25 3 5 true (.array .int) := ⟨_, rfl, by decide, (TBg_mem (List.mem_of_getElem? (i := 385) (by decide +kernel)) (by decide +kernel)), rfl, by decide +kernel, fun h => by first | rfl | cases h⟩
theorem fX3_28 : fLk RX3 28 3 6 true (.array .int) := ⟨_, rfl, by decide, (TBg_mem (List.mem_of_getElem? (i := 386) (by decide +kernel)) (by decide +kernel)), rfl, by decide +kernel, fun h => by first | rfl | cases h⟩
theorem fX3_31 : fLk RX3 31 3 7 true (.array .int) := ⟨_, rfl, by decide, (TBg_mem (List.mem_of_getElem? (i := 387) (by decide +kernel)) (by decide +kernel)), rfl, by decide +kernel, fun h => by first | rfl | cases h⟩
theorem fX3_34 : fLk RX3 34 3 8 true (.array .int) := ⟨_, rfl, by decide, (TBg_mem (List.mem_of_getElem? (i := 388) (by decide +kernel)) (by decide +kernel)), rfl, by decide +kernel, fun h => by first | rfl | cases h⟩
theorem fX3_37 : fLk RX3 37 3 9 true (.array .int) := ⟨_, rfl, by decide, (TBg_mem (List.mem_of_getElem? (i := 389) (by decide +kernel)) (by decide +kernel)), rfl, by decide +kernel, fun h => by first | rfl | cases h⟩
theorem fX3_78 : fLk RX3 78 3 10 false .int := ⟨_, rfl, by decide, (TBg_mem (List.mem_of_getElem? (i := 390) (by decide +kernel)) (by decide +kernel)), rfl, by decide +kernel, fun h => by first | rfl | cases h⟩
theorem fX3_48 : fLk RX3 48 3 11 false .int := ⟨_, rfl, by decide, (TBg_mem (List.mem_of_getElem? (i := 391) (by decide +kernel)) (by decide +kernel)), rfl, by decide +kernel, fun h => by first | rfl | cases h⟩
theorem fX11_282 : fLk RX11 282 3 11 false .int := ⟨_, rfl, by decide, (TBg_mem (List.mem_of_getElem? (i := 392) (by decide +kernel)) (by decide +kernel)), rfl, by decide +kernel, fun h => by first | rfl | cases h⟩
theorem fX3_52 : fLk RX3 52 3 12 false .boolean := ⟨_, rfl, by decide, (TBg_mem (List.mem_of_getElem? (i := 393) (by decide +kernel)) (by decide +kernel)), rfl, by decide +kernel, fun h => by first | rfl | cases h⟩
theorem fX11_270 : fLk RX11 270 3 12 false .boolean := ⟨_, rfl, by decide, (TBg_mem (List.mem_of_getElem? (i := 394) (by decide +kernel)) (by decide +kernel)), rfl, by decide +kernel, fun h => by first | rfl | cases h⟩
theorem clX11_46 : cLk RX11 46 2 := ⟨_, rfl, (TBg_mem (List.mem_of_getElem? (i := 422) (by decide +kernel)) (by decide +kernel)), (TBg_mem (List.mem_of_getElem? (i := 423) (by decide +kernel)) (by decide +kernel)), (TBg_mem (List.mem_of_getElem? (i := 81) (by decide +kernel)) (by decide +kernel))⟩
theorem caX11_46 : Cond.classLink RX11 46 "SliceSeller$Day" ∈ TBg := (TBg_mem (List.mem_of_getElem? (i := 422) (by decide +kernel)) (by decide +kernel))
theorem lX11_48 : mLk RX11 48 yX2_init := Or.inl (TBg_mem (List.mem_of_getElem? (i := 424) (by decide +kernel)) (by decide +kernel))
theorem oiX2_3 : Cond.methodLink RX2 3 Lib.objectInit ∈ TBg := (TBg_mem (List.mem_of_getElem? (i := 427) (by decide +kernel)) (by decide +kernel))
theorem fX2_15 : fLk RX2 15 2 0 true (.object "SliceSeller$Net") := ⟨_, rfl, by decide, (TBg_mem (List.mem_of_getElem? (i := 428) (by decide +kernel)) (by decide +kernel)), rfl, by decide +kernel, fun h => by first | rfl | cases h⟩
theorem fX2_19 : fLk RX2 19 2 1 true (.object "SliceSeller$Slices") := ⟨_, rfl, by decide, (TBg_mem (List.mem_of_getElem? (i := 429) (by decide +kernel)) (by decide +kernel)), rfl, by decide +kernel, fun h => by first | rfl | cases h⟩
theorem fX2_9 : fLk RX2 9 2 2 false .int := ⟨_, rfl, by decide, (TBg_mem (List.mem_of_getElem? (i := 430) (by decide +kernel)) (by decide +kernel)), rfl, by decide +kernel, fun h => by first | rfl | cases h⟩
theorem fX2_32 : fLk RX2 32 2 3 false .int := ⟨_, rfl, by decide, (TBg_mem (List.mem_of_getElem? (i := 431) (by decide +kernel)) (by decide +kernel)), rfl, by decide +kernel, fun h => by first | rfl | cases h⟩
theorem fX11_346 : fLk RX11 346 2 3 false .int := ⟨_, rfl, by decide, (TBg_mem (List.mem_of_getElem? (i := 432) (by decide +kernel)) (by decide +kernel)), rfl, by decide +kernel, fun h => by first | rfl | cases h⟩
theorem fX2_132 : fLk RX2 132 2 4 false .int := ⟨_, rfl, by decide, (TBg_mem (List.mem_of_getElem? (i := 433) (by decide +kernel)) (by decide +kernel)), rfl, by decide +kernel, fun h => by first | rfl | cases h⟩
theorem fX11_288 : fLk RX11 288 2 4 false .int := ⟨_, rfl, by decide, (TBg_mem (List.mem_of_getElem? (i := 434) (by decide +kernel)) (by decide +kernel)), rfl, by decide +kernel, fun h => by first | rfl | cases h⟩
theorem fX2_133 : fLk RX2 133 2 5 false .int := ⟨_, rfl, by decide, (TBg_mem (List.mem_of_getElem? (i := 435) (by decide +kernel)) (by decide +kernel)), rfl, by decide +kernel, fun h => by first | rfl | cases h⟩
theorem fX11_352 : fLk RX11 352 2 5 false .int := ⟨_, rfl, by decide, (TBg_mem (List.mem_of_getElem? (i := 436) (by decide +kernel)) (by decide +kernel)), rfl, by decide +kernel, fun h => by first | rfl | cases h⟩
theorem clX11_53 : cLk RX11 53 7 := ⟨_, rfl, (TBg_mem (List.mem_of_getElem? (i := 450) (by decide +kernel)) (by decide +kernel)), (TBg_mem (List.mem_of_getElem? (i := 452) (by decide +kernel)) (by decide +kernel)), (TBg_mem (List.mem_of_getElem? (i := 82) (by decide +kernel)) (by decide +kernel))⟩
theorem caX11_53 : Cond.classLink RX11 53 "SliceSeller$Sheet" ∈ TBg := (TBg_mem (List.mem_of_getElem? (i := 450) (by decide +kernel)) (by decide +kernel))
theorem aoX7 : Cond.arrayOver (.object "SliceSeller$Sheet") ∈ lw_tbl := (List.mem_of_getElem? (i := 451) (by decide +kernel))
theorem lX11_55 : mLk RX11 55 yX7_init := Or.inr ⟨"SliceSeller", (List.mem_of_getElem? (i := 453) (by decide +kernel))⟩
theorem oiX7_3 : Cond.methodLink RX7 3 Lib.objectInit ∈ TBg := (TBg_mem (List.mem_of_getElem? (i := 456) (by decide +kernel)) (by decide +kernel))
theorem fX7_9 : fLk RX7 9 7 0 true (.array .int) := ⟨_, rfl, by decide, (TBg_mem (List.mem_of_getElem? (i := 457) (by decide +kernel)) (by decide +kernel)), rfl, by decide +kernel, fun h => by first | rfl | cases h⟩
end
section
theorem fX11_322 : fLk RX11 322 7 0 true (.array .int) := ⟨_, rfl, by decide, (TBg_mem (List.mem_of_getElem? (i := 458) (by decide +kernel)) (by decide +kernel)), rfl, by decide +kernel, fun h => by first | rfl | cases h⟩
theorem fX7_15 : fLk RX7 15 7 1 false .int := ⟨_, rfl, by decide, (TBg_mem (List.mem_of_getElem? (i := 459) (by decide +kernel)) (by decide +kernel)), rfl, by decide +kernel, fun h => by first | rfl | cases h⟩
theorem fX11_316 : fLk RX11 316 7 1 false .int := ⟨_, rfl, by decide, (TBg_mem (List.mem_of_getElem? (i := 460) (by decide +kernel)) (by decide +kernel)), rfl, by decide +kernel, fun h => by first | rfl | cases h⟩
theorem fX7_19 : fLk RX7 19 7 2 false .int := ⟨_, rfl, by decide, (TBg_mem (List.mem_of_getElem? (i := 461) (by decide +kernel)) (by decide +kernel)), rfl, by decide +kernel, fun h => by first | rfl | cases h⟩
theorem fX9_55 : fLk RX9 55 7 2 false .int := ⟨_, rfl, by decide, (TBg_mem (List.mem_of_getElem? (i := 462) (by decide +kernel)) (by decide +kernel)), rfl, by decide +kernel, fun h => by first | rfl | cases h⟩
theorem fX11_312 : fLk RX11 312 7 2 false .int := ⟨_, rfl, by decide, (TBg_mem (List.mem_of_getElem? (i := 463) (by decide +kernel)) (by decide +kernel)), rfl, by decide +kernel, fun h => by first | rfl | cases h⟩
theorem fX11_15 : fLk RX11 15 11 0 true (.object "SliceSeller$Net") := ⟨_, rfl, by decide, (TBg_mem (List.mem_of_getElem? (i := 471) (by decide +kernel)) (by decide +kernel)), rfl, by decide +kernel, fun h => by first | rfl | cases h⟩
theorem fX11_19 : fLk RX11 19 11 1 true (.object "SliceSeller$Slices") := ⟨_, rfl, by decide, (TBg_mem (List.mem_of_getElem? (i := 472) (by decide +kernel)) (by decide +kernel)), rfl, by decide +kernel, fun h => by first | rfl | cases h⟩
theorem fX11_26 : fLk RX11 26 11 2 true (.object "SliceSeller$Book") := ⟨_, rfl, by decide, (TBg_mem (List.mem_of_getElem? (i := 473) (by decide +kernel)) (by decide +kernel)), rfl, by decide +kernel, fun h => by first | rfl | cases h⟩
theorem fX11_33 : fLk RX11 33 11 3 true (.object "SliceSeller$Cut") := ⟨_, rfl, by decide, (TBg_mem (List.mem_of_getElem? (i := 474) (by decide +kernel)) (by decide +kernel)), rfl, by decide +kernel, fun h => by first | rfl | cases h⟩
theorem fX11_42 : fLk RX11 42 11 4 true (.object "SliceSeller$Layer") := ⟨_, rfl, by decide, (TBg_mem (List.mem_of_getElem? (i := 475) (by decide +kernel)) (by decide +kernel)), rfl, by decide +kernel, fun h => by first | rfl | cases h⟩
theorem fX11_49 : fLk RX11 49 11 5 true (.object "SliceSeller$Day") := ⟨_, rfl, by decide, (TBg_mem (List.mem_of_getElem? (i := 476) (by decide +kernel)) (by decide +kernel)), rfl, by decide +kernel, fun h => by first | rfl | cases h⟩
theorem fX11_56 : fLk RX11 56 11 6 true (.array (.object "SliceSeller$Sheet")) := ⟨_, rfl, by decide, (TBg_mem (List.mem_of_getElem? (i := 477) (by decide +kernel)) (by decide +kernel)), rfl, by decide +kernel, fun h => by first | rfl | cases h⟩
theorem fX11_349 : fLk RX11 349 11 7 false .int := ⟨_, rfl, by decide, (TBg_mem (List.mem_of_getElem? (i := 478) (by decide +kernel)) (by decide +kernel)), rfl, by decide +kernel, fun h => by first | rfl | cases h⟩
theorem lL_13 : mLk RL 13 yX11_node := Or.inl (TBg_mem (List.mem_of_getElem? (i := 496) (by decide +kernel)) (by decide +kernel))
theorem lX11_60 : mLk RX11 60 yX11_isWithin := Or.inl (TBg_mem (List.mem_of_getElem? (i := 500) (by decide +kernel)) (by decide +kernel))
theorem kcX11_64 : Cond.constant RX11 64 (-1000001) ∈ TBg := (TBg_mem (List.mem_of_getElem? (i := 503) (by decide +kernel)) (by decide +kernel))
theorem lX11_65 : mLk RX11 65 yX11_finding := Or.inl (TBg_mem (List.mem_of_getElem? (i := 504) (by decide +kernel)) (by decide +kernel))
theorem kcX11_73 : Cond.constant RX11 73 (-1000002) ∈ TBg := (TBg_mem (List.mem_of_getElem? (i := 508) (by decide +kernel)) (by decide +kernel))
theorem lX11_74 : mLk RX11 74 yX5_addNode := Or.inl (TBg_mem (List.mem_of_getElem? (i := 509) (by decide +kernel)) (by decide +kernel))
theorem lL_18 : mLk RL 18 yX11_line := Or.inl (TBg_mem (List.mem_of_getElem? (i := 513) (by decide +kernel)) (by decide +kernel))
theorem lX11_77 : mLk RX11 77 yX5_areTwoNodes := Or.inl (TBg_mem (List.mem_of_getElem? (i := 517) (by decide +kernel)) (by decide +kernel))
theorem lX5_36 : mLk RX5 36 yX5_hasNode := Or.inl (TBg_mem (List.mem_of_getElem? (i := 521) (by decide +kernel)) (by decide +kernel))
theorem lX11_84 : mLk RX11 84 yX5_addLine := Or.inl (TBg_mem (List.mem_of_getElem? (i := 525) (by decide +kernel)) (by decide +kernel))
theorem lL_23 : mLk RL 23 yX11_up := Or.inl (TBg_mem (List.mem_of_getElem? (i := 529) (by decide +kernel)) (by decide +kernel))
theorem lX11_88 : mLk RX11 88 yX5_hasLine := Or.inl (TBg_mem (List.mem_of_getElem? (i := 533) (by decide +kernel)) (by decide +kernel))
theorem lX11_92 : mLk RX11 92 yX5_setUp := Or.inl (TBg_mem (List.mem_of_getElem? (i := 537) (by decide +kernel)) (by decide +kernel))
theorem lX5_58 : mLk RX5 58 yX5_isUp := Or.inl (TBg_mem (List.mem_of_getElem? (i := 541) (by decide +kernel)) (by decide +kernel))
theorem lL_28 : mLk RL 28 yX11_ways := Or.inl (TBg_mem (List.mem_of_getElem? (i := 545) (by decide +kernel)) (by decide +kernel))
theorem lX11_96 : mLk RX11 96 yX5_waysBetween := Or.inl (TBg_mem (List.mem_of_getElem? (i := 549) (by decide +kernel)) (by decide +kernel))
theorem lX5_61 : mLk RX5 61 yX10_find := Or.inl (TBg_mem (List.mem_of_getElem? (i := 553) (by decide +kernel)) (by decide +kernel))
theorem lX10_39 : mLk RX10 39 yX10_extend := Or.inl (TBg_mem (List.mem_of_getElem? (i := 557) (by decide +kernel)) (by decide +kernel))
theorem lX10_43 : mLk RX10 43 yX10_insert := Or.inl (TBg_mem (List.mem_of_getElem? (i := 561) (by decide +kernel)) (by decide +kernel))
theorem lX10_47 : mLk RX10 47 yX5_lineAt := Or.inl (TBg_mem (List.mem_of_getElem? (i := 565) (by decide +kernel)) (by decide +kernel))
theorem lX10_51 : mLk RX10 51 yX4_otherEnd := Or.inl (TBg_mem (List.mem_of_getElem? (i := 569) (by decide +kernel)) (by decide +kernel))
theorem lX10_56 : mLk RX10 56 yX11_has := Or.inr ⟨"SliceSeller", (List.mem_of_getElem? (i := 573) (by decide +kernel))⟩
theorem lX10_63 : mLk RX10 63 yX10_longer := Or.inl (TBg_mem (List.mem_of_getElem? (i := 576) (by decide +kernel)) (by decide +kernel))
theorem kcX10_29 : Cond.constant RX10 29 (1048575) ∈ TBg := (TBg_mem (List.mem_of_getElem? (i := 579) (by decide +kernel)) (by decide +kernel))
theorem kcX10_30 : Cond.constant RX10 30 (1048576) ∈ TBg := (TBg_mem (List.mem_of_getElem? (i := 580) (by decide +kernel)) (by decide +kernel))
theorem lL_33 : mLk RL 33 yX11_way := Or.inl (TBg_mem (List.mem_of_getElem? (i := 581) (by decide +kernel)) (by decide +kernel))
theorem kcX11_105 : Cond.constant RX11 105 (-1000005) ∈ TBg := (TBg_mem (List.mem_of_getElem? (i := 585) (by decide +kernel)) (by decide +kernel))
theorem lX11_106 : mLk RX11 106 yX10_keyAt := Or.inl (TBg_mem (List.mem_of_getElem? (i := 586) (by decide +kernel)) (by decide +kernel))
theorem lX11_109 : mLk RX11 109 yX10_lateOf := Or.inl (TBg_mem (List.mem_of_getElem? (i := 590) (by decide +kernel)) (by decide +kernel))
theorem lX11_112 : mLk RX11 112 yX10_lineAt := Or.inl (TBg_mem (List.mem_of_getElem? (i := 593) (by decide +kernel)) (by decide +kernel))
theorem lX10_25 : mLk RX10 25 yX10_countOf := Or.inl (TBg_mem (List.mem_of_getElem? (i := 596) (by decide +kernel)) (by decide +kernel))
theorem lL_38 : mLk RL 38 yX11_flow := Or.inl (TBg_mem (List.mem_of_getElem? (i := 599) (by decide +kernel)) (by decide +kernel))
theorem lX11_116 : mLk RX11 116 yX11_isTick := Or.inl (TBg_mem (List.mem_of_getElem? (i := 603) (by decide +kernel)) (by decide +kernel))
theorem lX11_119 : mLk RX11 119 yX1_find := Or.inl (TBg_mem (List.mem_of_getElem? (i := 606) (by decide +kernel)) (by decide +kernel))
theorem lX1_21 : mLk RX1 21 yX5_isUp := Or.inl (TBg_mem (List.mem_of_getElem? (i := 610) (by decide +kernel)) (by decide +kernel))
theorem lX1_25 : mLk RX1 25 yX0_freeAt := Or.inl (TBg_mem (List.mem_of_getElem? (i := 611) (by decide +kernel)) (by decide +kernel))
theorem lX0_28 : mLk RX0 28 yX5_lineAt := Or.inl (TBg_mem (List.mem_of_getElem? (i := 615) (by decide +kernel)) (by decide +kernel))
theorem lX0_39 : mLk RX0 39 yX0_loadAt := Or.inl (TBg_mem (List.mem_of_getElem? (i := 616) (by decide +kernel)) (by decide +kernel))
theorem lX0_43 : mLk RX0 43 yX0_fallAt := Or.inl (TBg_mem (List.mem_of_getElem? (i := 620) (by decide +kernel)) (by decide +kernel))
theorem lX1_37 : mLk RX1 37 yX11_has := Or.inr ⟨"SliceSeller", (List.mem_of_getElem? (i := 624) (by decide +kernel))⟩
theorem lX1_41 : mLk RX1 41 yX1_roomOutOf := Or.inl (TBg_mem (List.mem_of_getElem? (i := 625) (by decide +kernel)) (by decide +kernel))
theorem lX1_49 : mLk RX1 49 yX5_lineAt := Or.inl (TBg_mem (List.mem_of_getElem? (i := 629) (by decide +kernel)) (by decide +kernel))
theorem lX1_45 : mLk RX1 45 yX1_weigh := Or.inl (TBg_mem (List.mem_of_getElem? (i := 630) (by decide +kernel)) (by decide +kernel))
theorem lX1_64 : mLk RX1 64 yJ6_bitCount_0f7a4 := Or.inl (TBg_mem (List.mem_of_getElem? (i := 634) (by decide +kernel)) (by decide +kernel))
theorem kcJ6_265 : Cond.constant RJ6 265 (1431655765) ∈ TBg := (TBg_mem (List.mem_of_getElem? (i := 637) (by decide +kernel)) (by decide +kernel))
theorem kcJ6_266 : Cond.constant RJ6 266 (858993459) ∈ TBg := (TBg_mem (List.mem_of_getElem? (i := 638) (by decide +kernel)) (by decide +kernel))
theorem kcJ6_267 : Cond.constant RJ6 267 (252645135) ∈ TBg := (TBg_mem (List.mem_of_getElem? (i := 639) (by decide +kernel)) (by decide +kernel))
theorem lL_43 : mLk RL 43 yX11_cut := Or.inl (TBg_mem (List.mem_of_getElem? (i := 640) (by decide +kernel)) (by decide +kernel))
theorem lL_47 : mLk RL 47 yX11_slice := Or.inl (TBg_mem (List.mem_of_getElem? (i := 644) (by decide +kernel)) (by decide +kernel))
theorem lX11_129 : mLk RX11 129 yX11_isKind := Or.inl (TBg_mem (List.mem_of_getElem? (i := 648) (by decide +kernel)) (by decide +kernel))
theorem lX11_133 : mLk RX11 133 yX9_add := Or.inl (TBg_mem (List.mem_of_getElem? (i := 651) (by decide +kernel)) (by decide +kernel))
theorem lX9_37 : mLk RX9 37 yX8_setSpan := Or.inl (TBg_mem (List.mem_of_getElem? (i := 655) (by decide +kernel)) (by decide +kernel))
theorem lX8_43 : mLk RX8 43 yX11_has := Or.inr ⟨"SliceSeller", (List.mem_of_getElem? (i := 659) (by decide +kernel))⟩
theorem lL_51 : mLk RL 51 yX11_terms := Or.inl (TBg_mem (List.mem_of_getElem? (i := 660) (by decide +kernel)) (by decide +kernel))
theorem lX11_136 : mLk RX11 136 yX9_hasSlice := Or.inl (TBg_mem (List.mem_of_getElem? (i := 664) (by decide +kernel)) (by decide +kernel))
theorem lX11_139 : mLk RX11 139 yX9_at := Or.inl (TBg_mem (List.mem_of_getElem? (i := 668) (by decide +kernel)) (by decide +kernel))
theorem lX11_148 : mLk RX11 148 yX8_isIn := Or.inl (TBg_mem (List.mem_of_getElem? (i := 672) (by decide +kernel)) (by decide +kernel))
theorem kcX11_152 : Cond.constant RX11 152 (-1000003) ∈ TBg := (TBg_mem (List.mem_of_getElem? (i := 676) (by decide +kernel)) (by decide +kernel))
theorem lX11_153 : mLk RX11 153 yX8_setTerms := Or.inl (TBg_mem (List.mem_of_getElem? (i := 677) (by decide +kernel)) (by decide +kernel))
theorem lL_55 : mLk RL 55 yX11_span := Or.inl (TBg_mem (List.mem_of_getElem? (i := 681) (by decide +kernel)) (by decide +kernel))
theorem lX11_157 : mLk RX11 157 yX8_setSpan := Or.inl (TBg_mem (List.mem_of_getElem? (i := 685) (by decide +kernel)) (by decide +kernel))
theorem lL_59 : mLk RL 59 yX11_as := Or.inl (TBg_mem (List.mem_of_getElem? (i := 686) (by decide +kernel)) (by decide +kernel))
theorem lX11_160 : mLk RX11 160 yX8_isOf := Or.inl (TBg_mem (List.mem_of_getElem? (i := 690) (by decide +kernel)) (by decide +kernel))
theorem fnX8_50 : Cond.fieldLinkNest RX8 50 "SliceSeller" "ABOVE" "[I" "SliceSeller" ∈ lw_tbl := (List.mem_of_getElem? (i := 694) (by decide +kernel))
theorem kcX11_163 : Cond.constant RX11 163 (-1000004) ∈ TBg := (TBg_mem (List.mem_of_getElem? (i := 696) (by decide +kernel)) (by decide +kernel))
theorem lL_63 : mLk RL 63 yX11_of := Or.inl (TBg_mem (List.mem_of_getElem? (i := 697) (by decide +kernel)) (by decide +kernel))
theorem lX11_164 : mLk RX11 164 yX8_askedFor := Or.inl (TBg_mem (List.mem_of_getElem? (i := 701) (by decide +kernel)) (by decide +kernel))
theorem lX11_167 : mLk RX11 167 yX8_becameOf := Or.inl (TBg_mem (List.mem_of_getElem? (i := 705) (by decide +kernel)) (by decide +kernel))
theorem lX8_73 : mLk RX8 73 yX8_isIn := Or.inl (TBg_mem (List.mem_of_getElem? (i := 709) (by decide +kernel)) (by decide +kernel))
theorem lX8_92 : mLk RX8 92 yX8_needed := Or.inl (TBg_mem (List.mem_of_getElem? (i := 710) (by decide +kernel)) (by decide +kernel))
theorem lL_67 : mLk RL 67 yX11_places := Or.inl (TBg_mem (List.mem_of_getElem? (i := 714) (by decide +kernel)) (by decide +kernel))
theorem lX11_170 : mLk RX11 170 yX9_placesOf := Or.inl (TBg_mem (List.mem_of_getElem? (i := 718) (by decide +kernel)) (by decide +kernel))
theorem lX9_45 : mLk RX9 45 yX6_find := Or.inl (TBg_mem (List.mem_of_getElem? (i := 722) (by decide +kernel)) (by decide +kernel))
theorem lX6_35 : mLk RX6 35 yX5_waysBetween := Or.inl (TBg_mem (List.mem_of_getElem? (i := 726) (by decide +kernel)) (by decide +kernel))
theorem lX6_39 : mLk RX6 39 yX6_gather := Or.inl (TBg_mem (List.mem_of_getElem? (i := 727) (by decide +kernel)) (by decide +kernel))
theorem lX6_60 : mLk RX6 60 yX10_keyAt := Or.inl (TBg_mem (List.mem_of_getElem? (i := 731) (by decide +kernel)) (by decide +kernel))
theorem lX6_63 : mLk RX6 63 yX10_lateOf := Or.inl (TBg_mem (List.mem_of_getElem? (i := 732) (by decide +kernel)) (by decide +kernel))
theorem lX6_69 : mLk RX6 69 yX10_linesIn := Or.inl (TBg_mem (List.mem_of_getElem? (i := 733) (by decide +kernel)) (by decide +kernel))
theorem lX6_72 : mLk RX6 72 yX8_isOf := Or.inl (TBg_mem (List.mem_of_getElem? (i := 736) (by decide +kernel)) (by decide +kernel))
theorem lX6_75 : mLk RX6 75 yX6_gatherSpares := Or.inl (TBg_mem (List.mem_of_getElem? (i := 737) (by decide +kernel)) (by decide +kernel))
theorem lX6_79 : mLk RX6 79 yX5_nodesOn := Or.inl (TBg_mem (List.mem_of_getElem? (i := 741) (by decide +kernel)) (by decide +kernel))
theorem lX5_65 : mLk RX5 65 yX11_has := Or.inr ⟨"SliceSeller", (List.mem_of_getElem? (i := 745) (by decide +kernel))⟩
theorem lX6_82 : mLk RX6 82 yX6_gatherHosts := Or.inl (TBg_mem (List.mem_of_getElem? (i := 746) (by decide +kernel)) (by decide +kernel))
theorem lX6_89 : mLk RX6 89 yX11_has := Or.inr ⟨"SliceSeller", (List.mem_of_getElem? (i := 750) (by decide +kernel))⟩
theorem lX6_93 : mLk RX6 93 yX11_placeOn := Or.inr ⟨"SliceSeller", (List.mem_of_getElem? (i := 751) (by decide +kernel))⟩
theorem lL_71 : mLk RL 71 yX11_letIn := Or.inl (TBg_mem (List.mem_of_getElem? (i := 754) (by decide +kernel)) (by decide +kernel))
theorem lX11_177 : mLk RX11 177 yX6_placeAt := Or.inl (TBg_mem (List.mem_of_getElem? (i := 758) (by decide +kernel)) (by decide +kernel))
theorem lX11_180 : mLk RX11 180 yX11_linesOf := Or.inl (TBg_mem (List.mem_of_getElem? (i := 762) (by decide +kernel)) (by decide +kernel))
theorem lX11_224 : mLk RX11 224 yX11_wayIn := Or.inl (TBg_mem (List.mem_of_getElem? (i := 765) (by decide +kernel)) (by decide +kernel))
theorem lX11_221 : mLk RX11 221 yX11_spareOf := Or.inl (TBg_mem (List.mem_of_getElem? (i := 768) (by decide +kernel)) (by decide +kernel))
theorem lX11_183 : mLk RX11 183 yX5_isUp := Or.inl (TBg_mem (List.mem_of_getElem? (i := 771) (by decide +kernel)) (by decide +kernel))
theorem lX11_189 : mLk RX11 189 yX0_linesHold := Or.inl (TBg_mem (List.mem_of_getElem? (i := 772) (by decide +kernel)) (by decide +kernel))
theorem lX0_46 : mLk RX0 46 yX8_needed := Or.inl (TBg_mem (List.mem_of_getElem? (i := 776) (by decide +kernel)) (by decide +kernel))
theorem lX0_52 : mLk RX0 52 yX11_has := Or.inr ⟨"SliceSeller", (List.mem_of_getElem? (i := 777) (by decide +kernel))⟩
theorem lX0_56 : mLk RX0 56 yX0_linesHoldAt := Or.inl (TBg_mem (List.mem_of_getElem? (i := 778) (by decide +kernel)) (by decide +kernel))
theorem lX0_73 : mLk RX0 73 yX11_wayIn := Or.inr ⟨"SliceSeller", (List.mem_of_getElem? (i := 782) (by decide +kernel))⟩
theorem lX0_76 : mLk RX0 76 yX11_spareOf := Or.inr ⟨"SliceSeller", (List.mem_of_getElem? (i := 783) (by decide +kernel))⟩
theorem lX0_82 : mLk RX0 82 yX0_fallWith := Or.inl (TBg_mem (List.mem_of_getElem? (i := 784) (by decide +kernel)) (by decide +kernel))
theorem lX0_86 : mLk RX0 86 yJ9_max_7cf53 := Or.inl (TBg_mem (List.mem_of_getElem? (i := 788) (by decide +kernel)) (by decide +kernel))
theorem lX11_193 : mLk RX11 193 yX0_hostHolds := Or.inl (TBg_mem (List.mem_of_getElem? (i := 791) (by decide +kernel)) (by decide +kernel))
theorem lX0_60 : mLk RX0 60 yX11_hostOf := Or.inr ⟨"SliceSeller", (List.mem_of_getElem? (i := 795) (by decide +kernel))⟩
theorem lX0_64 : mLk RX0 64 yX5_workroomOf := Or.inl (TBg_mem (List.mem_of_getElem? (i := 798) (by decide +kernel)) (by decide +kernel))
theorem lX0_70 : mLk RX0 70 yX0_worksAt := Or.inl (TBg_mem (List.mem_of_getElem? (i := 802) (by decide +kernel)) (by decide +kernel))
theorem lX11_196 : mLk RX11 196 yX11_comeIn := Or.inl (TBg_mem (List.mem_of_getElem? (i := 806) (by decide +kernel)) (by decide +kernel))
theorem lX11_355 : mLk RX11 355 yX0_enter := Or.inl (TBg_mem (List.mem_of_getElem? (i := 810) (by decide +kernel)) (by decide +kernel))
theorem lX0_91 : mLk RX0 91 yX0_enterLines := Or.inl (TBg_mem (List.mem_of_getElem? (i := 814) (by decide +kernel)) (by decide +kernel))
theorem lX0_95 : mLk RX0 95 yX0_enterFalls := Or.inl (TBg_mem (List.mem_of_getElem? (i := 818) (by decide +kernel)) (by decide +kernel))
theorem lL_75 : mLk RL 75 yX11_why := Or.inl (TBg_mem (List.mem_of_getElem? (i := 822) (by decide +kernel)) (by decide +kernel))
theorem lX11_200 : mLk RX11 200 yX6_keepUp := Or.inl (TBg_mem (List.mem_of_getElem? (i := 826) (by decide +kernel)) (by decide +kernel))
theorem lX6_49 : mLk RX6 49 yX11_linesOf := Or.inr ⟨"SliceSeller", (List.mem_of_getElem? (i := 830) (by decide +kernel))⟩
theorem lX6_53 : mLk RX6 53 yX5_isUp := Or.inl (TBg_mem (List.mem_of_getElem? (i := 831) (by decide +kernel)) (by decide +kernel))
theorem lX11_207 : mLk RX11 207 yX11_whyNoRoom := Or.inl (TBg_mem (List.mem_of_getElem? (i := 832) (by decide +kernel)) (by decide +kernel))
theorem lX11_359 : mLk RX11 359 yX6_upAt := Or.inl (TBg_mem (List.mem_of_getElem? (i := 836) (by decide +kernel)) (by decide +kernel))
theorem lL_79 : mLk RL 79 yX11_out := Or.inl (TBg_mem (List.mem_of_getElem? (i := 840) (by decide +kernel)) (by decide +kernel))
theorem lX11_211 : mLk RX11 211 yX11_goOut := Or.inl (TBg_mem (List.mem_of_getElem? (i := 844) (by decide +kernel)) (by decide +kernel))
theorem lL_83 : mLk RL 83 yX11_wayOf := Or.inl (TBg_mem (List.mem_of_getElem? (i := 848) (by decide +kernel)) (by decide +kernel))
theorem lX11_227 : mLk RX11 227 yX5_lineAlong := Or.inl (TBg_mem (List.mem_of_getElem? (i := 852) (by decide +kernel)) (by decide +kernel))
theorem lX5_69 : mLk RX5 69 yX5_lineFrom := Or.inl (TBg_mem (List.mem_of_getElem? (i := 856) (by decide +kernel)) (by decide +kernel))
theorem lX5_73 : mLk RX5 73 yX4_otherEnd := Or.inl (TBg_mem (List.mem_of_getElem? (i := 860) (by decide +kernel)) (by decide +kernel))
theorem lL_88 : mLk RL 88 yX11_host := Or.inl (TBg_mem (List.mem_of_getElem? (i := 861) (by decide +kernel)) (by decide +kernel))
theorem lX11_231 : mLk RX11 231 yX11_hostOf := Or.inl (TBg_mem (List.mem_of_getElem? (i := 865) (by decide +kernel)) (by decide +kernel))
theorem lL_92 : mLk RL 92 yX11_load := Or.inl (TBg_mem (List.mem_of_getElem? (i := 866) (by decide +kernel)) (by decide +kernel))
theorem lX11_234 : mLk RX11 234 yX0_loadAt := Or.inl (TBg_mem (List.mem_of_getElem? (i := 870) (by decide +kernel)) (by decide +kernel))
theorem lL_96 : mLk RL 96 yX11_fallRoom := Or.inl (TBg_mem (List.mem_of_getElem? (i := 871) (by decide +kernel)) (by decide +kernel))
theorem lX11_237 : mLk RX11 237 yX0_fallAt := Or.inl (TBg_mem (List.mem_of_getElem? (i := 875) (by decide +kernel)) (by decide +kernel))
theorem lL_100 : mLk RL 100 yX11_work := Or.inl (TBg_mem (List.mem_of_getElem? (i := 876) (by decide +kernel)) (by decide +kernel))
theorem lX11_240 : mLk RX11 240 yX5_hasNode := Or.inl (TBg_mem (List.mem_of_getElem? (i := 880) (by decide +kernel)) (by decide +kernel))
theorem lX11_243 : mLk RX11 243 yX0_worksAt := Or.inl (TBg_mem (List.mem_of_getElem? (i := 881) (by decide +kernel)) (by decide +kernel))
theorem lL_104 : mLk RL 104 yX11_spare := Or.inl (TBg_mem (List.mem_of_getElem? (i := 882) (by decide +kernel)) (by decide +kernel))
theorem lX11_246 : mLk RX11 246 yX0_freeAt := Or.inl (TBg_mem (List.mem_of_getElem? (i := 886) (by decide +kernel)) (by decide +kernel))
theorem lX11_250 : mLk RX11 250 yJ9_min_7cf53 := Or.inl (TBg_mem (List.mem_of_getElem? (i := 887) (by decide +kernel)) (by decide +kernel))
theorem lL_108 : mLk RL 108 yX11_took := Or.inl (TBg_mem (List.mem_of_getElem? (i := 890) (by decide +kernel)) (by decide +kernel))
theorem lX11_258 : mLk RX11 258 yX8_takenWay := Or.inl (TBg_mem (List.mem_of_getElem? (i := 894) (by decide +kernel)) (by decide +kernel))
theorem lX8_57 : mLk RX8 57 yX11_wayIn := Or.inr ⟨"SliceSeller", (List.mem_of_getElem? (i := 898) (by decide +kernel))⟩
theorem lX8_61 : mLk RX8 61 yX11_spareOf := Or.inr ⟨"SliceSeller", (List.mem_of_getElem? (i := 899) (by decide +kernel))⟩
theorem lL_112 : mLk RL 112 yX11_lay := Or.inl (TBg_mem (List.mem_of_getElem? (i := 900) (by decide +kernel)) (by decide +kernel))
theorem lX11_261 : mLk RX11 261 yX9_haveAll := Or.inl (TBg_mem (List.mem_of_getElem? (i := 904) (by decide +kernel)) (by decide +kernel))
theorem lX11_264 : mLk RX11 264 yX3_begin := Or.inl (TBg_mem (List.mem_of_getElem? (i := 908) (by decide +kernel)) (by decide +kernel))
theorem lX3_61 : mLk RX3 61 yX9_placesOf := Or.inl (TBg_mem (List.mem_of_getElem? (i := 912) (by decide +kernel)) (by decide +kernel))
theorem lX3_65 : mLk RX3 65 yX6_keepUp := Or.inl (TBg_mem (List.mem_of_getElem? (i := 913) (by decide +kernel)) (by decide +kernel))
theorem lX3_71 : mLk RX3 71 yX3_findUnlikeTicks := Or.inl (TBg_mem (List.mem_of_getElem? (i := 914) (by decide +kernel)) (by decide +kernel))
theorem lX3_101 : mLk RX3 101 yX3_countingAt := Or.inl (TBg_mem (List.mem_of_getElem? (i := 918) (by decide +kernel)) (by decide +kernel))
theorem lX3_111 : mLk RX3 111 yX9_at := Or.inl (TBg_mem (List.mem_of_getElem? (i := 922) (by decide +kernel)) (by decide +kernel))
theorem lX3_118 : mLk RX3 118 yX11_has := Or.inr ⟨"SliceSeller", (List.mem_of_getElem? (i := 923) (by decide +kernel))⟩
theorem lX3_105 : mLk RX3 105 yX3_isKnown := Or.inl (TBg_mem (List.mem_of_getElem? (i := 924) (by decide +kernel)) (by decide +kernel))
theorem lX3_108 : mLk RX3 108 yX3_note := Or.inl (TBg_mem (List.mem_of_getElem? (i := 928) (by decide +kernel)) (by decide +kernel))
theorem lX11_267 : mLk RX11 267 yX3_laid := Or.inl (TBg_mem (List.mem_of_getElem? (i := 932) (by decide +kernel)) (by decide +kernel))
theorem lX3_74 : mLk RX3 74 yX3_gatherMembers := Or.inl (TBg_mem (List.mem_of_getElem? (i := 936) (by decide +kernel)) (by decide +kernel))
theorem lX3_79 : mLk RX3 79 yX3_nextPlace := Or.inl (TBg_mem (List.mem_of_getElem? (i := 940) (by decide +kernel)) (by decide +kernel))
theorem lX3_129 : mLk RX3 129 yX6_upAt := Or.inl (TBg_mem (List.mem_of_getElem? (i := 944) (by decide +kernel)) (by decide +kernel))
theorem lX3_132 : mLk RX3 132 yX0_linesHold := Or.inl (TBg_mem (List.mem_of_getElem? (i := 945) (by decide +kernel)) (by decide +kernel))
theorem lX3_136 : mLk RX3 136 yX0_hostHolds := Or.inl (TBg_mem (List.mem_of_getElem? (i := 946) (by decide +kernel)) (by decide +kernel))
theorem lX3_83 : mLk RX3 83 yX3_put := Or.inl (TBg_mem (List.mem_of_getElem? (i := 947) (by decide +kernel)) (by decide +kernel))
theorem lX3_139 : mLk RX3 139 yX0_enter := Or.inl (TBg_mem (List.mem_of_getElem? (i := 951) (by decide +kernel)) (by decide +kernel))
theorem lX3_87 : mLk RX3 87 yX3_takeBack := Or.inl (TBg_mem (List.mem_of_getElem? (i := 952) (by decide +kernel)) (by decide +kernel))
theorem kcX11_274 : Cond.constant RX11 274 (-1000006) ∈ TBg := (TBg_mem (List.mem_of_getElem? (i := 956) (by decide +kernel)) (by decide +kernel))
theorem lX11_275 : mLk RX11 275 yX11_takeOver := Or.inl (TBg_mem (List.mem_of_getElem? (i := 957) (by decide +kernel)) (by decide +kernel))
theorem lX11_362 : mLk RX11 362 yX11_has := Or.inl (TBg_mem (List.mem_of_getElem? (i := 961) (by decide +kernel)) (by decide +kernel))
theorem lX11_365 : mLk RX11 365 yX3_placeGot := Or.inl (TBg_mem (List.mem_of_getElem? (i := 962) (by decide +kernel)) (by decide +kernel))
theorem lL_116 : mLk RL 116 yX11_can := Or.inl (TBg_mem (List.mem_of_getElem? (i := 966) (by decide +kernel)) (by decide +kernel))
theorem lL_120 : mLk RL 120 yX11_best := Or.inl (TBg_mem (List.mem_of_getElem? (i := 970) (by decide +kernel)) (by decide +kernel))
theorem lX11_278 : mLk RX11 278 yX3_dearest := Or.inl (TBg_mem (List.mem_of_getElem? (i := 974) (by decide +kernel)) (by decide +kernel))
theorem lX3_90 : mLk RX3 90 yX3_orderSets := Or.inl (TBg_mem (List.mem_of_getElem? (i := 978) (by decide +kernel)) (by decide +kernel))
theorem kcX3_143 : Cond.constant RX3 143 (2048000) ∈ TBg := (TBg_mem (List.mem_of_getElem? (i := 982) (by decide +kernel)) (by decide +kernel))
theorem lX3_147 : mLk RX3 147 yX3_mergeShifted := Or.inl (TBg_mem (List.mem_of_getElem? (i := 983) (by decide +kernel)) (by decide +kernel))
theorem lX3_94 : mLk RX3 94 yX3_laid := Or.inl (TBg_mem (List.mem_of_getElem? (i := 987) (by decide +kernel)) (by decide +kernel))
theorem lL_125 : mLk RL 125 yX11_tries := Or.inl (TBg_mem (List.mem_of_getElem? (i := 988) (by decide +kernel)) (by decide +kernel))
theorem lL_129 : mLk RL 129 yX11_offer := Or.inl (TBg_mem (List.mem_of_getElem? (i := 992) (by decide +kernel)) (by decide +kernel))
theorem lL_133 : mLk RL 133 yX11_run := Or.inl (TBg_mem (List.mem_of_getElem? (i := 996) (by decide +kernel)) (by decide +kernel))
theorem lX11_291 : mLk RX11 291 yX2_doTick := Or.inl (TBg_mem (List.mem_of_getElem? (i := 1000) (by decide +kernel)) (by decide +kernel))
theorem lX2_23 : mLk RX2 23 yX2_forgetLatest := Or.inl (TBg_mem (List.mem_of_getElem? (i := 1004) (by decide +kernel)) (by decide +kernel))
theorem lX2_40 : mLk RX2 40 yX5_lineAt := Or.inl (TBg_mem (List.mem_of_getElem? (i := 1008) (by decide +kernel)) (by decide +kernel))
theorem lX2_54 : mLk RX2 54 yX9_at := Or.inl (TBg_mem (List.mem_of_getElem? (i := 1009) (by decide +kernel)) (by decide +kernel))
theorem lX2_26 : mLk RX2 26 yX2_passNeeds := Or.inl (TBg_mem (List.mem_of_getElem? (i := 1010) (by decide +kernel)) (by decide +kernel))
theorem lX2_61 : mLk RX2 61 yX2_wayNow := Or.inl (TBg_mem (List.mem_of_getElem? (i := 1014) (by decide +kernel)) (by decide +kernel))
theorem lX2_100 : mLk RX2 100 yX8_isIn := Or.inl (TBg_mem (List.mem_of_getElem? (i := 1018) (by decide +kernel)) (by decide +kernel))
theorem lX2_107 : mLk RX2 107 yX11_has := Or.inr ⟨"SliceSeller", (List.mem_of_getElem? (i := 1019) (by decide +kernel))⟩
theorem lX2_114 : mLk RX2 114 yX8_takenWay := Or.inl (TBg_mem (List.mem_of_getElem? (i := 1020) (by decide +kernel)) (by decide +kernel))
theorem lX2_68 : mLk RX2 68 yX8_needed := Or.inl (TBg_mem (List.mem_of_getElem? (i := 1021) (by decide +kernel)) (by decide +kernel))
theorem lX2_72 : mLk RX2 72 yJ9_min_7cf53 := Or.inl (TBg_mem (List.mem_of_getElem? (i := 1022) (by decide +kernel)) (by decide +kernel))
theorem lX2_78 : mLk RX2 78 yX2_leftOn := Or.inl (TBg_mem (List.mem_of_getElem? (i := 1023) (by decide +kernel)) (by decide +kernel))
theorem lX2_117 : mLk RX2 117 yX4_leftNow := Or.inl (TBg_mem (List.mem_of_getElem? (i := 1027) (by decide +kernel)) (by decide +kernel))
theorem lX2_82 : mLk RX2 82 yX2_pass := Or.inl (TBg_mem (List.mem_of_getElem? (i := 1031) (by decide +kernel)) (by decide +kernel))
theorem lX2_120 : mLk RX2 120 yX4_pass := Or.inl (TBg_mem (List.mem_of_getElem? (i := 1035) (by decide +kernel)) (by decide +kernel))
theorem lX2_29 : mLk RX2 29 yX2_lend := Or.inl (TBg_mem (List.mem_of_getElem? (i := 1039) (by decide +kernel)) (by decide +kernel))
theorem lX2_86 : mLk RX2 86 yX2_canBorrow := Or.inl (TBg_mem (List.mem_of_getElem? (i := 1043) (by decide +kernel)) (by decide +kernel))
theorem lX2_93 : mLk RX2 93 yX8_isOf := Or.inl (TBg_mem (List.mem_of_getElem? (i := 1047) (by decide +kernel)) (by decide +kernel))
theorem lL_137 : mLk RL 137 yX11_about := Or.inl (TBg_mem (List.mem_of_getElem? (i := 1048) (by decide +kernel)) (by decide +kernel))
theorem lX11_294 : mLk RX11 294 yX5_lineAt := Or.inl (TBg_mem (List.mem_of_getElem? (i := 1052) (by decide +kernel)) (by decide +kernel))
theorem lX11_297 : mLk RX11 297 yX4_tell := Or.inl (TBg_mem (List.mem_of_getElem? (i := 1053) (by decide +kernel)) (by decide +kernel))
theorem lL_141 : mLk RL 141 yX11_sheet := Or.inl (TBg_mem (List.mem_of_getElem? (i := 1057) (by decide +kernel)) (by decide +kernel))
theorem lX11_302 : mLk RX11 302 yX11_isSheet := Or.inl (TBg_mem (List.mem_of_getElem? (i := 1061) (by decide +kernel)) (by decide +kernel))
theorem kcX11_305 : Cond.constant RX11 305 (-1000008) ∈ TBg := (TBg_mem (List.mem_of_getElem? (i := 1064) (by decide +kernel)) (by decide +kernel))
theorem lX11_306 : mLk RX11 306 yX7_begin := Or.inl (TBg_mem (List.mem_of_getElem? (i := 1065) (by decide +kernel)) (by decide +kernel))
theorem lL_145 : mLk RL 145 yX11_write := Or.inl (TBg_mem (List.mem_of_getElem? (i := 1069) (by decide +kernel)) (by decide +kernel))
theorem lX11_308 : mLk RX11 308 yX7_isMissing := Or.inl (TBg_mem (List.mem_of_getElem? (i := 1073) (by decide +kernel)) (by decide +kernel))
theorem kcX11_311 : Cond.constant RX11 311 (-1000007) ∈ TBg := (TBg_mem (List.mem_of_getElem? (i := 1077) (by decide +kernel)) (by decide +kernel))
theorem lX11_313 : mLk RX11 313 yX7_put := Or.inl (TBg_mem (List.mem_of_getElem? (i := 1078) (by decide +kernel)) (by decide +kernel))
theorem lX7_22 : mLk RX7 22 yX7_lowest := Or.inl (TBg_mem (List.mem_of_getElem? (i := 1082) (by decide +kernel)) (by decide +kernel))
theorem lL_149 : mLk RL 149 yX11_copy := Or.inl (TBg_mem (List.mem_of_getElem? (i := 1086) (by decide +kernel)) (by decide +kernel))
theorem lX11_319 : mLk RX11 319 yX7_hasRun := Or.inl (TBg_mem (List.mem_of_getElem? (i := 1090) (by decide +kernel)) (by decide +kernel))
theorem acX11_326 : Cond.methodLink RX11 326 arraycopyName ∈ TBg := (TBg_mem (List.mem_of_getElem? (i := 1094) (by decide +kernel)) (by decide +kernel))
theorem lL_153 : mLk RL 153 yX11_read := Or.inl (TBg_mem (List.mem_of_getElem? (i := 1097) (by decide +kernel)) (by decide +kernel))
theorem lX11_332 : mLk RX11 332 yX7_hasAbove := Or.inl (TBg_mem (List.mem_of_getElem? (i := 1101) (by decide +kernel)) (by decide +kernel))
theorem lX11_335 : mLk RX11 335 yX9_wouldOverflow := Or.inl (TBg_mem (List.mem_of_getElem? (i := 1105) (by decide +kernel)) (by decide +kernel))
theorem lX9_61 : mLk RX9 61 yX7_unitsAt := Or.inl (TBg_mem (List.mem_of_getElem? (i := 1109) (by decide +kernel)) (by decide +kernel))
end
section
theorem lX7_26 : mLk RX7 26 yJ9_max_7cf53 := Or.inl (TBg_mem (List.mem_of_getElem? (i := 1113) (by decide +kernel)) (by decide +kernel))
theorem lX11_339 : mLk RX11 339 yX9_offerAll := Or.inl (TBg_mem (List.mem_of_getElem? (i := 1114) (by decide +kernel)) (by decide +kernel))
theorem lL_157 : mLk RL 157 yX11_told := Or.inl (TBg_mem (List.mem_of_getElem? (i := 1118) (by decide +kernel)) (by decide +kernel))
theorem lX11_343 : mLk RX11 343 yX9_countIn := Or.inl (TBg_mem (List.mem_of_getElem? (i := 1122) (by decide +kernel)) (by decide +kernel))
theorem lX9_51 : mLk RX9 51 yX8_isIn := Or.inl (TBg_mem (List.mem_of_getElem? (i := 1126) (by decide +kernel)) (by decide +kernel))
theorem clL_10 : cLk RL 10 12 := ⟨_, rfl, (TBg_mem (List.mem_of_getElem? (i := 1127) (by decide +kernel)) (by decide +kernel)), (TBg_mem (List.mem_of_getElem? (i := 1128) (by decide +kernel)) (by decide +kernel)), (TBg_mem (List.mem_of_getElem? (i := 83) (by decide +kernel)) (by decide +kernel))⟩
theorem caL_10 : Cond.classLink RL 10 "SliceSellerModel" ∈ TBg := (TBg_mem (List.mem_of_getElem? (i := 1127) (by decide +kernel)) (by decide +kernel))
theorem lL_12 : mLk RL 12 yX12_init := Or.inl (TBg_mem (List.mem_of_getElem? (i := 1129) (by decide +kernel)) (by decide +kernel))
theorem oiX12_1 : Cond.methodLink RX12 1 Lib.objectInit ∈ TBg := (TBg_mem (List.mem_of_getElem? (i := 1132) (by decide +kernel)) (by decide +kernel))
theorem fX12_186 : fLk RX12 186 12 0 false .int := ⟨_, rfl, by decide, (TBg_mem (List.mem_of_getElem? (i := 1133) (by decide +kernel)) (by decide +kernel)), rfl, by decide +kernel, fun h => by first | rfl | cases h⟩
theorem fX12_193 : fLk RX12 193 12 1 false .int := ⟨_, rfl, by decide, (TBg_mem (List.mem_of_getElem? (i := 1134) (by decide +kernel)) (by decide +kernel)), rfl, by decide +kernel, fun h => by first | rfl | cases h⟩
theorem fX12_196 : fLk RX12 196 12 2 false .int := ⟨_, rfl, by decide, (TBg_mem (List.mem_of_getElem? (i := 1135) (by decide +kernel)) (by decide +kernel)), rfl, by decide +kernel, fun h => by first | rfl | cases h⟩
theorem fX12_335 : fLk RX12 335 12 3 false .int := ⟨_, rfl, by decide, (TBg_mem (List.mem_of_getElem? (i := 1136) (by decide +kernel)) (by decide +kernel)), rfl, by decide +kernel, fun h => by first | rfl | cases h⟩
theorem fX12_183 : fLk RX12 183 12 4 false .int := ⟨_, rfl, by decide, (TBg_mem (List.mem_of_getElem? (i := 1137) (by decide +kernel)) (by decide +kernel)), rfl, by decide +kernel, fun h => by first | rfl | cases h⟩
theorem fX12_301 : fLk RX12 301 12 5 false .int := ⟨_, rfl, by decide, (TBg_mem (List.mem_of_getElem? (i := 1138) (by decide +kernel)) (by decide +kernel)), rfl, by decide +kernel, fun h => by first | rfl | cases h⟩
theorem fX12_329 : fLk RX12 329 12 6 false .int := ⟨_, rfl, by decide, (TBg_mem (List.mem_of_getElem? (i := 1139) (by decide +kernel)) (by decide +kernel)), rfl, by decide +kernel, fun h => by first | rfl | cases h⟩
theorem fX12_332 : fLk RX12 332 12 7 false .int := ⟨_, rfl, by decide, (TBg_mem (List.mem_of_getElem? (i := 1140) (by decide +kernel)) (by decide +kernel)), rfl, by decide +kernel, fun h => by first | rfl | cases h⟩
theorem fX12_7 : fLk RX12 7 12 8 false .int := ⟨_, rfl, by decide, (TBg_mem (List.mem_of_getElem? (i := 1141) (by decide +kernel)) (by decide +kernel)), rfl, by decide +kernel, fun h => by first | rfl | cases h⟩
theorem fX12_13 : fLk RX12 13 12 9 true (.array .int) := ⟨_, rfl, by decide, (TBg_mem (List.mem_of_getElem? (i := 1142) (by decide +kernel)) (by decide +kernel)), rfl, by decide +kernel, fun h => by first | rfl | cases h⟩
theorem fX12_17 : fLk RX12 17 12 10 true (.array .int) := ⟨_, rfl, by decide, (TBg_mem (List.mem_of_getElem? (i := 1143) (by decide +kernel)) (by decide +kernel)), rfl, by decide +kernel, fun h => by first | rfl | cases h⟩
theorem fX12_20 : fLk RX12 20 12 11 true (.array .int) := ⟨_, rfl, by decide, (TBg_mem (List.mem_of_getElem? (i := 1144) (by decide +kernel)) (by decide +kernel)), rfl, by decide +kernel, fun h => by first | rfl | cases h⟩
theorem fX12_23 : fLk RX12 23 12 12 true (.array .int) := ⟨_, rfl, by decide, (TBg_mem (List.mem_of_getElem? (i := 1145) (by decide +kernel)) (by decide +kernel)), rfl, by decide +kernel, fun h => by first | rfl | cases h⟩
theorem fX12_26 : fLk RX12 26 12 13 true (.array .int) := ⟨_, rfl, by decide, (TBg_mem (List.mem_of_getElem? (i := 1146) (by decide +kernel)) (by decide +kernel)), rfl, by decide +kernel, fun h => by first | rfl | cases h⟩
theorem fX12_29 : fLk RX12 29 12 14 true (.array .int) := ⟨_, rfl, by decide, (TBg_mem (List.mem_of_getElem? (i := 1147) (by decide +kernel)) (by decide +kernel)), rfl, by decide +kernel, fun h => by first | rfl | cases h⟩
theorem fX12_32 : fLk RX12 32 12 15 true (.array .int) := ⟨_, rfl, by decide, (TBg_mem (List.mem_of_getElem? (i := 1148) (by decide +kernel)) (by decide +kernel)), rfl, by decide +kernel, fun h => by first | rfl | cases h⟩
theorem fX12_35 : fLk RX12 35 12 16 true (.array .int) := ⟨_, rfl, by decide, (TBg_mem (List.mem_of_getElem? (i := 1149) (by decide +kernel)) (by decide +kernel)), rfl, by decide +kernel, fun h => by first | rfl | cases h⟩
theorem fX12_38 : fLk RX12 38 12 17 true (.array .int) := ⟨_, rfl, by decide, (TBg_mem (List.mem_of_getElem? (i := 1150) (by decide +kernel)) (by decide +kernel)), rfl, by decide +kernel, fun h => by first | rfl | cases h⟩
theorem fX12_41 : fLk RX12 41 12 18 true (.array .boolean) := ⟨_, rfl, by decide, (TBg_mem (List.mem_of_getElem? (i := 1151) (by decide +kernel)) (by decide +kernel)), rfl, by decide +kernel, fun h => by first | rfl | cases h⟩
theorem fX12_45 : fLk RX12 45 12 19 true (.array .int) := ⟨_, rfl, by decide, (TBg_mem (List.mem_of_getElem? (i := 1152) (by decide +kernel)) (by decide +kernel)), rfl, by decide +kernel, fun h => by first | rfl | cases h⟩
theorem fX12_48 : fLk RX12 48 12 20 true (.array .int) := ⟨_, rfl, by decide, (TBg_mem (List.mem_of_getElem? (i := 1153) (by decide +kernel)) (by decide +kernel)), rfl, by decide +kernel, fun h => by first | rfl | cases h⟩
theorem fX12_51 : fLk RX12 51 12 21 true (.array .int) := ⟨_, rfl, by decide, (TBg_mem (List.mem_of_getElem? (i := 1154) (by decide +kernel)) (by decide +kernel)), rfl, by decide +kernel, fun h => by first | rfl | cases h⟩
theorem fX12_54 : fLk RX12 54 12 22 true (.array .int) := ⟨_, rfl, by decide, (TBg_mem (List.mem_of_getElem? (i := 1155) (by decide +kernel)) (by decide +kernel)), rfl, by decide +kernel, fun h => by first | rfl | cases h⟩
theorem fX12_57 : fLk RX12 57 12 23 true (.array .int) := ⟨_, rfl, by decide, (TBg_mem (List.mem_of_getElem? (i := 1156) (by decide +kernel)) (by decide +kernel)), rfl, by decide +kernel, fun h => by first | rfl | cases h⟩
theorem fX12_60 : fLk RX12 60 12 24 true (.array .int) := ⟨_, rfl, by decide, (TBg_mem (List.mem_of_getElem? (i := 1157) (by decide +kernel)) (by decide +kernel)), rfl, by decide +kernel, fun h => by first | rfl | cases h⟩
theorem fX12_63 : fLk RX12 63 12 25 true (.array .int) := ⟨_, rfl, by decide, (TBg_mem (List.mem_of_getElem? (i := 1158) (by decide +kernel)) (by decide +kernel)), rfl, by decide +kernel, fun h => by first | rfl | cases h⟩
theorem fX12_66 : fLk RX12 66 12 26 true (.array .int) := ⟨_, rfl, by decide, (TBg_mem (List.mem_of_getElem? (i := 1159) (by decide +kernel)) (by decide +kernel)), rfl, by decide +kernel, fun h => by first | rfl | cases h⟩
theorem fX12_69 : fLk RX12 69 12 27 true (.array .int) := ⟨_, rfl, by decide, (TBg_mem (List.mem_of_getElem? (i := 1160) (by decide +kernel)) (by decide +kernel)), rfl, by decide +kernel, fun h => by first | rfl | cases h⟩
theorem fX12_72 : fLk RX12 72 12 28 true (.array .int) := ⟨_, rfl, by decide, (TBg_mem (List.mem_of_getElem? (i := 1161) (by decide +kernel)) (by decide +kernel)), rfl, by decide +kernel, fun h => by first | rfl | cases h⟩
theorem fX12_75 : fLk RX12 75 12 29 true (.array .int) := ⟨_, rfl, by decide, (TBg_mem (List.mem_of_getElem? (i := 1162) (by decide +kernel)) (by decide +kernel)), rfl, by decide +kernel, fun h => by first | rfl | cases h⟩
theorem fX12_78 : fLk RX12 78 12 30 true (.array .int) := ⟨_, rfl, by decide, (TBg_mem (List.mem_of_getElem? (i := 1163) (by decide +kernel)) (by decide +kernel)), rfl, by decide +kernel, fun h => by first | rfl | cases h⟩
theorem fX12_81 : fLk RX12 81 12 31 true (.array .int) := ⟨_, rfl, by decide, (TBg_mem (List.mem_of_getElem? (i := 1164) (by decide +kernel)) (by decide +kernel)), rfl, by decide +kernel, fun h => by first | rfl | cases h⟩
theorem fX12_84 : fLk RX12 84 12 32 true (.array .int) := ⟨_, rfl, by decide, (TBg_mem (List.mem_of_getElem? (i := 1165) (by decide +kernel)) (by decide +kernel)), rfl, by decide +kernel, fun h => by first | rfl | cases h⟩
theorem fX12_87 : fLk RX12 87 12 33 true (.array .int) := ⟨_, rfl, by decide, (TBg_mem (List.mem_of_getElem? (i := 1166) (by decide +kernel)) (by decide +kernel)), rfl, by decide +kernel, fun h => by first | rfl | cases h⟩
theorem fX12_90 : fLk RX12 90 12 34 true (.array .int) := ⟨_, rfl, by decide, (TBg_mem (List.mem_of_getElem? (i := 1167) (by decide +kernel)) (by decide +kernel)), rfl, by decide +kernel, fun h => by first | rfl | cases h⟩
theorem fX12_93 : fLk RX12 93 12 35 true (.array .boolean) := ⟨_, rfl, by decide, (TBg_mem (List.mem_of_getElem? (i := 1168) (by decide +kernel)) (by decide +kernel)), rfl, by decide +kernel, fun h => by first | rfl | cases h⟩
theorem fX12_96 : fLk RX12 96 12 36 true (.array .int) := ⟨_, rfl, by decide, (TBg_mem (List.mem_of_getElem? (i := 1169) (by decide +kernel)) (by decide +kernel)), rfl, by decide +kernel, fun h => by first | rfl | cases h⟩
theorem fX12_99 : fLk RX12 99 12 37 true (.array .int) := ⟨_, rfl, by decide, (TBg_mem (List.mem_of_getElem? (i := 1170) (by decide +kernel)) (by decide +kernel)), rfl, by decide +kernel, fun h => by first | rfl | cases h⟩
theorem fX12_102 : fLk RX12 102 12 38 true (.array .int) := ⟨_, rfl, by decide, (TBg_mem (List.mem_of_getElem? (i := 1171) (by decide +kernel)) (by decide +kernel)), rfl, by decide +kernel, fun h => by first | rfl | cases h⟩
theorem fX12_105 : fLk RX12 105 12 39 true (.array .int) := ⟨_, rfl, by decide, (TBg_mem (List.mem_of_getElem? (i := 1172) (by decide +kernel)) (by decide +kernel)), rfl, by decide +kernel, fun h => by first | rfl | cases h⟩
theorem fX12_108 : fLk RX12 108 12 40 true (.array .int) := ⟨_, rfl, by decide, (TBg_mem (List.mem_of_getElem? (i := 1173) (by decide +kernel)) (by decide +kernel)), rfl, by decide +kernel, fun h => by first | rfl | cases h⟩
theorem fX12_111 : fLk RX12 111 12 41 true (.array .int) := ⟨_, rfl, by decide, (TBg_mem (List.mem_of_getElem? (i := 1174) (by decide +kernel)) (by decide +kernel)), rfl, by decide +kernel, fun h => by first | rfl | cases h⟩
theorem fX12_114 : fLk RX12 114 12 42 true (.array .int) := ⟨_, rfl, by decide, (TBg_mem (List.mem_of_getElem? (i := 1175) (by decide +kernel)) (by decide +kernel)), rfl, by decide +kernel, fun h => by first | rfl | cases h⟩
theorem fX12_117 : fLk RX12 117 12 43 true (.array .int) := ⟨_, rfl, by decide, (TBg_mem (List.mem_of_getElem? (i := 1176) (by decide +kernel)) (by decide +kernel)), rfl, by decide +kernel, fun h => by first | rfl | cases h⟩
theorem fX12_120 : fLk RX12 120 12 44 true (.array .int) := ⟨_, rfl, by decide, (TBg_mem (List.mem_of_getElem? (i := 1177) (by decide +kernel)) (by decide +kernel)), rfl, by decide +kernel, fun h => by first | rfl | cases h⟩
theorem fX12_123 : fLk RX12 123 12 45 true (.array .int) := ⟨_, rfl, by decide, (TBg_mem (List.mem_of_getElem? (i := 1178) (by decide +kernel)) (by decide +kernel)), rfl, by decide +kernel, fun h => by first | rfl | cases h⟩
theorem fX12_126 : fLk RX12 126 12 46 true (.array .int) := ⟨_, rfl, by decide, (TBg_mem (List.mem_of_getElem? (i := 1179) (by decide +kernel)) (by decide +kernel)), rfl, by decide +kernel, fun h => by first | rfl | cases h⟩
theorem fX12_129 : fLk RX12 129 12 47 true (.array .int) := ⟨_, rfl, by decide, (TBg_mem (List.mem_of_getElem? (i := 1180) (by decide +kernel)) (by decide +kernel)), rfl, by decide +kernel, fun h => by first | rfl | cases h⟩
theorem fX12_132 : fLk RX12 132 12 48 true (.array .int) := ⟨_, rfl, by decide, (TBg_mem (List.mem_of_getElem? (i := 1181) (by decide +kernel)) (by decide +kernel)), rfl, by decide +kernel, fun h => by first | rfl | cases h⟩
theorem fX12_135 : fLk RX12 135 12 49 true (.array .int) := ⟨_, rfl, by decide, (TBg_mem (List.mem_of_getElem? (i := 1182) (by decide +kernel)) (by decide +kernel)), rfl, by decide +kernel, fun h => by first | rfl | cases h⟩
theorem fX12_138 : fLk RX12 138 12 50 true (.array .int) := ⟨_, rfl, by decide, (TBg_mem (List.mem_of_getElem? (i := 1183) (by decide +kernel)) (by decide +kernel)), rfl, by decide +kernel, fun h => by first | rfl | cases h⟩
theorem fX12_141 : fLk RX12 141 12 51 true (.array .int) := ⟨_, rfl, by decide, (TBg_mem (List.mem_of_getElem? (i := 1184) (by decide +kernel)) (by decide +kernel)), rfl, by decide +kernel, fun h => by first | rfl | cases h⟩
theorem fX12_144 : fLk RX12 144 12 52 true (.array .int) := ⟨_, rfl, by decide, (TBg_mem (List.mem_of_getElem? (i := 1185) (by decide +kernel)) (by decide +kernel)), rfl, by decide +kernel, fun h => by first | rfl | cases h⟩
theorem fX12_275 : fLk RX12 275 12 53 false .int := ⟨_, rfl, by decide, (TBg_mem (List.mem_of_getElem? (i := 1186) (by decide +kernel)) (by decide +kernel)), rfl, by decide +kernel, fun h => by first | rfl | cases h⟩
theorem fX12_269 : fLk RX12 269 12 54 false .int := ⟨_, rfl, by decide, (TBg_mem (List.mem_of_getElem? (i := 1187) (by decide +kernel)) (by decide +kernel)), rfl, by decide +kernel, fun h => by first | rfl | cases h⟩
theorem fX12_147 : fLk RX12 147 12 55 true (.array .int) := ⟨_, rfl, by decide, (TBg_mem (List.mem_of_getElem? (i := 1188) (by decide +kernel)) (by decide +kernel)), rfl, by decide +kernel, fun h => by first | rfl | cases h⟩
theorem fX12_150 : fLk RX12 150 12 56 true (.array .int) := ⟨_, rfl, by decide, (TBg_mem (List.mem_of_getElem? (i := 1189) (by decide +kernel)) (by decide +kernel)), rfl, by decide +kernel, fun h => by first | rfl | cases h⟩
theorem fX12_153 : fLk RX12 153 12 57 true (.array .int) := ⟨_, rfl, by decide, (TBg_mem (List.mem_of_getElem? (i := 1190) (by decide +kernel)) (by decide +kernel)), rfl, by decide +kernel, fun h => by first | rfl | cases h⟩
theorem fX12_156 : fLk RX12 156 12 58 true (.array .int) := ⟨_, rfl, by decide, (TBg_mem (List.mem_of_getElem? (i := 1191) (by decide +kernel)) (by decide +kernel)), rfl, by decide +kernel, fun h => by first | rfl | cases h⟩
theorem fX12_159 : fLk RX12 159 12 59 true (.array .boolean) := ⟨_, rfl, by decide, (TBg_mem (List.mem_of_getElem? (i := 1192) (by decide +kernel)) (by decide +kernel)), rfl, by decide +kernel, fun h => by first | rfl | cases h⟩
theorem fX12_162 : fLk RX12 162 12 60 true (.array .int) := ⟨_, rfl, by decide, (TBg_mem (List.mem_of_getElem? (i := 1193) (by decide +kernel)) (by decide +kernel)), rfl, by decide +kernel, fun h => by first | rfl | cases h⟩
theorem fX12_165 : fLk RX12 165 12 61 true (.array .int) := ⟨_, rfl, by decide, (TBg_mem (List.mem_of_getElem? (i := 1194) (by decide +kernel)) (by decide +kernel)), rfl, by decide +kernel, fun h => by first | rfl | cases h⟩
theorem fX12_168 : fLk RX12 168 12 62 true (.array .int) := ⟨_, rfl, by decide, (TBg_mem (List.mem_of_getElem? (i := 1195) (by decide +kernel)) (by decide +kernel)), rfl, by decide +kernel, fun h => by first | rfl | cases h⟩
theorem fX12_171 : fLk RX12 171 12 63 true (.array .int) := ⟨_, rfl, by decide, (TBg_mem (List.mem_of_getElem? (i := 1196) (by decide +kernel)) (by decide +kernel)), rfl, by decide +kernel, fun h => by first | rfl | cases h⟩
theorem fX12_174 : fLk RX12 174 12 64 true (.array .int) := ⟨_, rfl, by decide, (TBg_mem (List.mem_of_getElem? (i := 1197) (by decide +kernel)) (by decide +kernel)), rfl, by decide +kernel, fun h => by first | rfl | cases h⟩
theorem fX12_177 : fLk RX12 177 12 65 true (.array .boolean) := ⟨_, rfl, by decide, (TBg_mem (List.mem_of_getElem? (i := 1198) (by decide +kernel)) (by decide +kernel)), rfl, by decide +kernel, fun h => by first | rfl | cases h⟩
theorem fX12_180 : fLk RX12 180 12 66 true (.array .int) := ⟨_, rfl, by decide, (TBg_mem (List.mem_of_getElem? (i := 1199) (by decide +kernel)) (by decide +kernel)), rfl, by decide +kernel, fun h => by first | rfl | cases h⟩
theorem arc_boolean : Cond.arrayClass .boolean ∈ TBg := (TBg_mem (List.mem_of_getElem? (i := 1335) (by decide +kernel)) (by decide +kernel))
theorem lL_17 : mLk RL 17 yX12_node := Or.inl (TBg_mem (List.mem_of_getElem? (i := 1336) (by decide +kernel)) (by decide +kernel))
theorem lX12_189 : mLk RX12 189 yX12_in := Or.inl (TBg_mem (List.mem_of_getElem? (i := 1340) (by decide +kernel)) (by decide +kernel))
theorem kcX12_199 : Cond.constant RX12 199 (-1000001) ∈ TBg := (TBg_mem (List.mem_of_getElem? (i := 1343) (by decide +kernel)) (by decide +kernel))
theorem lX12_200 : mLk RX12 200 yX12_finds := Or.inl (TBg_mem (List.mem_of_getElem? (i := 1344) (by decide +kernel)) (by decide +kernel))
theorem kcX12_204 : Cond.constant RX12 204 (-1000002) ∈ TBg := (TBg_mem (List.mem_of_getElem? (i := 1348) (by decide +kernel)) (by decide +kernel))
theorem lL_22 : mLk RL 22 yX12_line := Or.inl (TBg_mem (List.mem_of_getElem? (i := 1349) (by decide +kernel)) (by decide +kernel))
theorem lX12_205 : mLk RX12 205 yX12_isNode := Or.inl (TBg_mem (List.mem_of_getElem? (i := 1353) (by decide +kernel)) (by decide +kernel))
theorem lL_27 : mLk RL 27 yX12_up := Or.inl (TBg_mem (List.mem_of_getElem? (i := 1357) (by decide +kernel)) (by decide +kernel))
theorem lX12_209 : mLk RX12 209 yX12_isLine := Or.inl (TBg_mem (List.mem_of_getElem? (i := 1361) (by decide +kernel)) (by decide +kernel))
theorem lL_32 : mLk RL 32 yX12_ways := Or.inl (TBg_mem (List.mem_of_getElem? (i := 1365) (by decide +kernel)) (by decide +kernel))
theorem lX12_224 : mLk RX12 224 yX12_areNodes := Or.inl (TBg_mem (List.mem_of_getElem? (i := 1369) (by decide +kernel)) (by decide +kernel))
theorem lX12_227 : mLk RX12 227 yX12_gather := Or.inl (TBg_mem (List.mem_of_getElem? (i := 1373) (by decide +kernel)) (by decide +kernel))
theorem lX12_212 : mLk RX12 212 yX12_has := Or.inl (TBg_mem (List.mem_of_getElem? (i := 1377) (by decide +kernel)) (by decide +kernel))
theorem lX12_216 : mLk RX12 216 yX12_record := Or.inl (TBg_mem (List.mem_of_getElem? (i := 1380) (by decide +kernel)) (by decide +kernel))
theorem lX12_220 : mLk RX12 220 yX12_isAhead := Or.inl (TBg_mem (List.mem_of_getElem? (i := 1384) (by decide +kernel)) (by decide +kernel))
theorem lL_37 : mLk RL 37 yX12_way := Or.inl (TBg_mem (List.mem_of_getElem? (i := 1388) (by decide +kernel)) (by decide +kernel))
theorem kcX12_230 : Cond.constant RX12 230 (-1000005) ∈ TBg := (TBg_mem (List.mem_of_getElem? (i := 1392) (by decide +kernel)) (by decide +kernel))
theorem lX12_231 : mLk RX12 231 yX12_digit := Or.inl (TBg_mem (List.mem_of_getElem? (i := 1393) (by decide +kernel)) (by decide +kernel))
theorem lL_50 : mLk RL 50 yX12_slice := Or.inl (TBg_mem (List.mem_of_getElem? (i := 1396) (by decide +kernel)) (by decide +kernel))
theorem lL_54 : mLk RL 54 yX12_terms := Or.inl (TBg_mem (List.mem_of_getElem? (i := 1400) (by decide +kernel)) (by decide +kernel))
theorem lX12_235 : mLk RX12 235 yX12_isSlice := Or.inl (TBg_mem (List.mem_of_getElem? (i := 1404) (by decide +kernel)) (by decide +kernel))
theorem kcX12_238 : Cond.constant RX12 238 (-1000003) ∈ TBg := (TBg_mem (List.mem_of_getElem? (i := 1408) (by decide +kernel)) (by decide +kernel))
theorem lL_58 : mLk RL 58 yX12_span := Or.inl (TBg_mem (List.mem_of_getElem? (i := 1409) (by decide +kernel)) (by decide +kernel))
theorem lX12_239 : mLk RX12 239 yX12_isTick := Or.inl (TBg_mem (List.mem_of_getElem? (i := 1413) (by decide +kernel)) (by decide +kernel))
theorem lL_62 : mLk RL 62 yX12_as := Or.inl (TBg_mem (List.mem_of_getElem? (i := 1416) (by decide +kernel)) (by decide +kernel))
theorem kcX12_242 : Cond.constant RX12 242 (-1000004) ∈ TBg := (TBg_mem (List.mem_of_getElem? (i := 1420) (by decide +kernel)) (by decide +kernel))
theorem lL_66 : mLk RL 66 yX12_of := Or.inl (TBg_mem (List.mem_of_getElem? (i := 1421) (by decide +kernel)) (by decide +kernel))
theorem lX12_243 : mLk RX12 243 yX12_need := Or.inl (TBg_mem (List.mem_of_getElem? (i := 1425) (by decide +kernel)) (by decide +kernel))
theorem lL_95 : mLk RL 95 yX12_load := Or.inl (TBg_mem (List.mem_of_getElem? (i := 1429) (by decide +kernel)) (by decide +kernel))
theorem lX12_256 : mLk RX12 256 yX12_countingAt := Or.inl (TBg_mem (List.mem_of_getElem? (i := 1433) (by decide +kernel)) (by decide +kernel))
theorem lX12_246 : mLk RX12 246 yX12_does := Or.inl (TBg_mem (List.mem_of_getElem? (i := 1437) (by decide +kernel)) (by decide +kernel))
theorem lX12_249 : mLk RX12 249 yX12_loadOf := Or.inl (TBg_mem (List.mem_of_getElem? (i := 1441) (by decide +kernel)) (by decide +kernel))
theorem lL_99 : mLk RL 99 yX12_fallRoom := Or.inl (TBg_mem (List.mem_of_getElem? (i := 1445) (by decide +kernel)) (by decide +kernel))
theorem lX12_253 : mLk RX12 253 yX12_fallOf := Or.inl (TBg_mem (List.mem_of_getElem? (i := 1449) (by decide +kernel)) (by decide +kernel))
theorem lL_103 : mLk RL 103 yX12_work := Or.inl (TBg_mem (List.mem_of_getElem? (i := 1453) (by decide +kernel)) (by decide +kernel))
theorem lX12_262 : mLk RX12 262 yX12_workOf := Or.inl (TBg_mem (List.mem_of_getElem? (i := 1457) (by decide +kernel)) (by decide +kernel))
theorem lL_107 : mLk RL 107 yX12_spare := Or.inl (TBg_mem (List.mem_of_getElem? (i := 1461) (by decide +kernel)) (by decide +kernel))
theorem lX12_265 : mLk RX12 265 yX12_leftOf := Or.inl (TBg_mem (List.mem_of_getElem? (i := 1465) (by decide +kernel)) (by decide +kernel))
theorem lL_42 : mLk RL 42 yX12_flow := Or.inl (TBg_mem (List.mem_of_getElem? (i := 1469) (by decide +kernel)) (by decide +kernel))
theorem lX12_278 : mLk RX12 278 yX12_findCut := Or.inl (TBg_mem (List.mem_of_getElem? (i := 1473) (by decide +kernel)) (by decide +kernel))
theorem kcX12_268 : Cond.constant RX12 268 (1000000) ∈ TBg := (TBg_mem (List.mem_of_getElem? (i := 1477) (by decide +kernel)) (by decide +kernel))
theorem lX12_272 : mLk RX12 272 yX12_ones := Or.inl (TBg_mem (List.mem_of_getElem? (i := 1478) (by decide +kernel)) (by decide +kernel))
theorem lL_46 : mLk RL 46 yX12_cut := Or.inl (TBg_mem (List.mem_of_getElem? (i := 1481) (by decide +kernel)) (by decide +kernel))
theorem lL_70 : mLk RL 70 yX12_places := Or.inl (TBg_mem (List.mem_of_getElem? (i := 1485) (by decide +kernel)) (by decide +kernel))
theorem lX12_284 : mLk RX12 284 yX12_start := Or.inl (TBg_mem (List.mem_of_getElem? (i := 1489) (by decide +kernel)) (by decide +kernel))
theorem lX12_288 : mLk RX12 288 yX12_advance := Or.inl (TBg_mem (List.mem_of_getElem? (i := 1493) (by decide +kernel)) (by decide +kernel))
theorem lL_74 : mLk RL 74 yX12_letIn := Or.inl (TBg_mem (List.mem_of_getElem? (i := 1497) (by decide +kernel)) (by decide +kernel))
theorem lX12_291 : mLk RX12 291 yX12_puts := Or.inl (TBg_mem (List.mem_of_getElem? (i := 1501) (by decide +kernel)) (by decide +kernel))
theorem lX12_281 : mLk RX12 281 yX12_areUp := Or.inl (TBg_mem (List.mem_of_getElem? (i := 1505) (by decide +kernel)) (by decide +kernel))
theorem lX12_294 : mLk RX12 294 yX12_holds := Or.inl (TBg_mem (List.mem_of_getElem? (i := 1509) (by decide +kernel)) (by decide +kernel))
theorem lX12_259 : mLk RX12 259 yX12_linesHold := Or.inl (TBg_mem (List.mem_of_getElem? (i := 1513) (by decide +kernel)) (by decide +kernel))
theorem lL_78 : mLk RL 78 yX12_why := Or.inl (TBg_mem (List.mem_of_getElem? (i := 1517) (by decide +kernel)) (by decide +kernel))
theorem lL_82 : mLk RL 82 yX12_out := Or.inl (TBg_mem (List.mem_of_getElem? (i := 1521) (by decide +kernel)) (by decide +kernel))
theorem lL_87 : mLk RL 87 yX12_wayOf := Or.inl (TBg_mem (List.mem_of_getElem? (i := 1525) (by decide +kernel)) (by decide +kernel))
theorem lL_91 : mLk RL 91 yX12_host := Or.inl (TBg_mem (List.mem_of_getElem? (i := 1529) (by decide +kernel)) (by decide +kernel))
theorem lL_111 : mLk RL 111 yX12_took := Or.inl (TBg_mem (List.mem_of_getElem? (i := 1533) (by decide +kernel)) (by decide +kernel))
theorem lX12_298 : mLk RX12 298 yX12_takes := Or.inl (TBg_mem (List.mem_of_getElem? (i := 1537) (by decide +kernel)) (by decide +kernel))
theorem lL_115 : mLk RL 115 yX12_lay := Or.inl (TBg_mem (List.mem_of_getElem? (i := 1541) (by decide +kernel)) (by decide +kernel))
theorem lX12_314 : mLk RX12 314 yX12_isOfThem := Or.inl (TBg_mem (List.mem_of_getElem? (i := 1545) (by decide +kernel)) (by decide +kernel))
theorem lX12_317 : mLk RX12 317 yX12_keeps := Or.inl (TBg_mem (List.mem_of_getElem? (i := 1549) (by decide +kernel)) (by decide +kernel))
theorem lX12_320 : mLk RX12 320 yX12_lays := Or.inl (TBg_mem (List.mem_of_getElem? (i := 1553) (by decide +kernel)) (by decide +kernel))
theorem lX12_305 : mLk RX12 305 yX12_after := Or.inl (TBg_mem (List.mem_of_getElem? (i := 1557) (by decide +kernel)) (by decide +kernel))
theorem lX12_308 : mLk RX12 308 yX12_comesIn := Or.inl (TBg_mem (List.mem_of_getElem? (i := 1561) (by decide +kernel)) (by decide +kernel))
theorem kcX12_304 : Cond.constant RX12 304 (-1000006) ∈ TBg := (TBg_mem (List.mem_of_getElem? (i := 1565) (by decide +kernel)) (by decide +kernel))
theorem lX12_311 : mLk RX12 311 yX12_before := Or.inl (TBg_mem (List.mem_of_getElem? (i := 1566) (by decide +kernel)) (by decide +kernel))
theorem lX12_323 : mLk RX12 323 yX12_backTo := Or.inl (TBg_mem (List.mem_of_getElem? (i := 1570) (by decide +kernel)) (by decide +kernel))
theorem lL_119 : mLk RL 119 yX12_can := Or.inl (TBg_mem (List.mem_of_getElem? (i := 1574) (by decide +kernel)) (by decide +kernel))
theorem lL_124 : mLk RL 124 yX12_best := Or.inl (TBg_mem (List.mem_of_getElem? (i := 1578) (by decide +kernel)) (by decide +kernel))
theorem lX12_326 : mLk RX12 326 yX12_worthOf := Or.inl (TBg_mem (List.mem_of_getElem? (i := 1582) (by decide +kernel)) (by decide +kernel))
theorem lL_128 : mLk RL 128 yX12_tries := Or.inl (TBg_mem (List.mem_of_getElem? (i := 1586) (by decide +kernel)) (by decide +kernel))
theorem lL_132 : mLk RL 132 yX12_offer := Or.inl (TBg_mem (List.mem_of_getElem? (i := 1590) (by decide +kernel)) (by decide +kernel))
theorem lL_136 : mLk RL 136 yX12_run := Or.inl (TBg_mem (List.mem_of_getElem? (i := 1594) (by decide +kernel)) (by decide +kernel))
theorem lX12_344 : mLk RX12 344 yX12_oneTick := Or.inl (TBg_mem (List.mem_of_getElem? (i := 1598) (by decide +kernel)) (by decide +kernel))
theorem lX12_338 : mLk RX12 338 yX12_leftIn := Or.inl (TBg_mem (List.mem_of_getElem? (i := 1602) (by decide +kernel)) (by decide +kernel))
theorem lX12_341 : mLk RX12 341 yX12_passes := Or.inl (TBg_mem (List.mem_of_getElem? (i := 1606) (by decide +kernel)) (by decide +kernel))
theorem lL_140 : mLk RL 140 yX12_about := Or.inl (TBg_mem (List.mem_of_getElem? (i := 1610) (by decide +kernel)) (by decide +kernel))
theorem lL_144 : mLk RL 144 yX12_sheet := Or.inl (TBg_mem (List.mem_of_getElem? (i := 1614) (by decide +kernel)) (by decide +kernel))
theorem lX12_347 : mLk RX12 347 yX12_isSheet := Or.inl (TBg_mem (List.mem_of_getElem? (i := 1618) (by decide +kernel)) (by decide +kernel))
theorem kcX12_350 : Cond.constant RX12 350 (-1000008) ∈ TBg := (TBg_mem (List.mem_of_getElem? (i := 1621) (by decide +kernel)) (by decide +kernel))
theorem lL_148 : mLk RL 148 yX12_write := Or.inl (TBg_mem (List.mem_of_getElem? (i := 1622) (by decide +kernel)) (by decide +kernel))
theorem kcX12_351 : Cond.constant RX12 351 (-1000007) ∈ TBg := (TBg_mem (List.mem_of_getElem? (i := 1626) (by decide +kernel)) (by decide +kernel))
theorem lL_152 : mLk RL 152 yX12_copy := Or.inl (TBg_mem (List.mem_of_getElem? (i := 1627) (by decide +kernel)) (by decide +kernel))
theorem lL_156 : mLk RL 156 yX12_read := Or.inl (TBg_mem (List.mem_of_getElem? (i := 1631) (by decide +kernel)) (by decide +kernel))
theorem lL_160 : mLk RL 160 yX12_told := Or.inl (TBg_mem (List.mem_of_getElem? (i := 1635) (by decide +kernel)) (by decide +kernel))
theorem lX12_352 : mLk RX12 352 yX12_countIn := Or.inl (TBg_mem (List.mem_of_getElem? (i := 1639) (by decide +kernel)) (by decide +kernel))
theorem oi_inst : Cond.instanceMethod Lib.objectInit ∈ TBg := (TBg_mem (List.mem_of_getElem? (i := 93) (by decide +kernel)) (by decide +kernel))
theorem oi_code : Cond.code Lib.objectInit ⟨#[0xb1]⟩ 1 none ∈ TBg := (TBg_mem (List.mem_of_getElem? (i := 94) (by decide +kernel)) (by decide +kernel))
theorem ac_nat : Cond.native arraycopyName ∈ TBg := (TBg_mem (List.mem_of_getElem? (i := 1096) (by decide +kernel)) (by decide +kernel))
theorem ac_stat : Cond.static arraycopyName ∈ TBg := (TBg_mem (List.mem_of_getElem? (i := 1095) (by decide +kernel)) (by decide +kernel))
theorem ac_ini : Cond.initialized "java/lang/System" ∈ TBg := (TBg_mem (List.mem_of_getElem? (i := 86) (by decide +kernel)) (by decide +kernel))
end
