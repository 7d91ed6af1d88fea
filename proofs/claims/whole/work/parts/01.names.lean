-- ===== PART A: goes FIRST, ahead of the names: the tables' words, and 'selects' of the private methods out of them =====
/-- a private method of a class that the tables say can be made, by its rows of tables_1 -/
def lw_okq (q : MethodName × Nat) : Prop := (q.1.cls ≠ "java/lang/invoke/MethodHandle" ∧ q.1.cls ≠ "java/lang/invoke/VarHandle") ∧ Cond.instantiable q.1.cls q.2 ∈ tables_1 ∧ Cond.privateMethod q.1 ∈ tables_1 ∧ Cond.instanceMethod q.1 ∈ tables_1
theorem lw_p0 : lw_okq (⟨"NewSilver", "sortAt", "(I)LNewSilver$Sort;"⟩, 17) := ⟨⟨by decide +kernel, by decide +kernel⟩, List.mem_of_getElem? (i := 17) (by decide +kernel), List.mem_of_getElem? (i := 219) (by decide +kernel), List.mem_of_getElem? (i := 220) (by decide +kernel)⟩
theorem lw_p1 : lw_okq (⟨"NewSilver", "keepLot", "(LNewSilver$Lot;)I"⟩, 17) := ⟨⟨by decide +kernel, by decide +kernel⟩, List.mem_of_getElem? (i := 17) (by decide +kernel), List.mem_of_getElem? (i := 289) (by decide +kernel), List.mem_of_getElem? (i := 290) (by decide +kernel)⟩
theorem lw_p2 : lw_okq (⟨"NewSilver", "lotAt", "(I)LNewSilver$Lot;"⟩, 17) := ⟨⟨by decide +kernel, by decide +kernel⟩, List.mem_of_getElem? (i := 17) (by decide +kernel), List.mem_of_getElem? (i := 297) (by decide +kernel), List.mem_of_getElem? (i := 298) (by decide +kernel)⟩
theorem lw_p3 : lw_okq (⟨"NewSilver$Tape", "readClauses", "()Z"⟩, 5) := ⟨⟨by decide +kernel, by decide +kernel⟩, List.mem_of_getElem? (i := 31) (by decide +kernel), List.mem_of_getElem? (i := 346) (by decide +kernel), List.mem_of_getElem? (i := 347) (by decide +kernel)⟩
theorem lw_p4 : lw_okq (⟨"NewSilver$Tape", "readWord", "(Ljava/lang/String;)Z"⟩, 5) := ⟨⟨by decide +kernel, by decide +kernel⟩, List.mem_of_getElem? (i := 31) (by decide +kernel), List.mem_of_getElem? (i := 351) (by decide +kernel), List.mem_of_getElem? (i := 352) (by decide +kernel)⟩
theorem lw_p5 : lw_okq (⟨"NewSilver$Tape", "isHere", "(C)Z"⟩, 5) := ⟨⟨by decide +kernel, by decide +kernel⟩, List.mem_of_getElem? (i := 31) (by decide +kernel), List.mem_of_getElem? (i := 403) (by decide +kernel), List.mem_of_getElem? (i := 404) (by decide +kernel)⟩
theorem lw_p6 : lw_okq (⟨"NewSilver$Tape", "readClause", "()Z"⟩, 5) := ⟨⟨by decide +kernel, by decide +kernel⟩, List.mem_of_getElem? (i := 31) (by decide +kernel), List.mem_of_getElem? (i := 407) (by decide +kernel), List.mem_of_getElem? (i := 408) (by decide +kernel)⟩
theorem lw_p7 : lw_okq (⟨"NewSilver$Tape", "digitHere", "()I"⟩, 5) := ⟨⟨by decide +kernel, by decide +kernel⟩, List.mem_of_getElem? (i := 31) (by decide +kernel), List.mem_of_getElem? (i := 411) (by decide +kernel), List.mem_of_getElem? (i := 412) (by decide +kernel)⟩
theorem lw_p8 : lw_okq (⟨"NewSilver$Tape", "readNumber", "(II)I"⟩, 5) := ⟨⟨by decide +kernel, by decide +kernel⟩, List.mem_of_getElem? (i := 31) (by decide +kernel), List.mem_of_getElem? (i := 418) (by decide +kernel), List.mem_of_getElem? (i := 419) (by decide +kernel)⟩
theorem lw_p9 : lw_okq (⟨"NewSilver$Tape", "readWeight", "(I)Z"⟩, 5) := ⟨⟨by decide +kernel, by decide +kernel⟩, List.mem_of_getElem? (i := 31) (by decide +kernel), List.mem_of_getElem? (i := 422) (by decide +kernel), List.mem_of_getElem? (i := 423) (by decide +kernel)⟩
theorem lw_p10 : lw_okq (⟨"NewSilver", "orderAt", "(I)LNewSilver$Order;"⟩, 17) := ⟨⟨by decide +kernel, by decide +kernel⟩, List.mem_of_getElem? (i := 17) (by decide +kernel), List.mem_of_getElem? (i := 466) (by decide +kernel), List.mem_of_getElem? (i := 467) (by decide +kernel)⟩
theorem lw_p11 : lw_okq (⟨"NewSilver", "orderInForce", "(II)I"⟩, 17) := ⟨⟨by decide +kernel, by decide +kernel⟩, List.mem_of_getElem? (i := 17) (by decide +kernel), List.mem_of_getElem? (i := 474) (by decide +kernel), List.mem_of_getElem? (i := 475) (by decide +kernel)⟩
theorem lw_p12 : lw_okq (⟨"NewSilver", "reckonWorth", "(I)J"⟩, 17) := ⟨⟨by decide +kernel, by decide +kernel⟩, List.mem_of_getElem? (i := 17) (by decide +kernel), List.mem_of_getElem? (i := 504) (by decide +kernel), List.mem_of_getElem? (i := 505) (by decide +kernel)⟩
theorem lw_p13 : lw_okq (⟨"NewSilver", "payWorst", "()I"⟩, 17) := ⟨⟨by decide +kernel, by decide +kernel⟩, List.mem_of_getElem? (i := 17) (by decide +kernel), List.mem_of_getElem? (i := 508) (by decide +kernel), List.mem_of_getElem? (i := 509) (by decide +kernel)⟩
theorem lw_p14 : lw_okq (⟨"NewSilver", "potAt", "(I)LNewSilver$Pot;"⟩, 17) := ⟨⟨by decide +kernel, by decide +kernel⟩, List.mem_of_getElem? (i := 17) (by decide +kernel), List.mem_of_getElem? (i := 553) (by decide +kernel), List.mem_of_getElem? (i := 554) (by decide +kernel)⟩
theorem lw_p15 : lw_okq (⟨"NewSilver", "findFalse", "(I)V"⟩, 17) := ⟨⟨by decide +kernel, by decide +kernel⟩, List.mem_of_getElem? (i := 17) (by decide +kernel), List.mem_of_getElem? (i := 557) (by decide +kernel), List.mem_of_getElem? (i := 558) (by decide +kernel)⟩
def lw_privs_1 : List (MethodName × Nat) := [(⟨"NewSilver", "sortAt", "(I)LNewSilver$Sort;"⟩, 17), (⟨"NewSilver", "keepLot", "(LNewSilver$Lot;)I"⟩, 17), (⟨"NewSilver", "lotAt", "(I)LNewSilver$Lot;"⟩, 17), (⟨"NewSilver$Tape", "readClauses", "()Z"⟩, 5), (⟨"NewSilver$Tape", "readWord", "(Ljava/lang/String;)Z"⟩, 5), (⟨"NewSilver$Tape", "isHere", "(C)Z"⟩, 5), (⟨"NewSilver$Tape", "readClause", "()Z"⟩, 5), (⟨"NewSilver$Tape", "digitHere", "()I"⟩, 5), (⟨"NewSilver$Tape", "readNumber", "(II)I"⟩, 5), (⟨"NewSilver$Tape", "readWeight", "(I)Z"⟩, 5), (⟨"NewSilver", "orderAt", "(I)LNewSilver$Order;"⟩, 17), (⟨"NewSilver", "orderInForce", "(II)I"⟩, 17), (⟨"NewSilver", "reckonWorth", "(I)J"⟩, 17), (⟨"NewSilver", "payWorst", "()I"⟩, 17), (⟨"NewSilver", "potAt", "(I)LNewSilver$Pot;"⟩, 17), (⟨"NewSilver", "findFalse", "(I)V"⟩, 17)]
theorem lw_r1 : ∀ q ∈ lw_privs_1, lw_okq q := List.forall_mem_cons.mpr ⟨lw_p0, List.forall_mem_cons.mpr ⟨lw_p1, List.forall_mem_cons.mpr ⟨lw_p2, List.forall_mem_cons.mpr ⟨lw_p3, List.forall_mem_cons.mpr ⟨lw_p4, List.forall_mem_cons.mpr ⟨lw_p5, List.forall_mem_cons.mpr ⟨lw_p6, List.forall_mem_cons.mpr ⟨lw_p7, List.forall_mem_cons.mpr ⟨lw_p8, List.forall_mem_cons.mpr ⟨lw_p9, List.forall_mem_cons.mpr ⟨lw_p10, List.forall_mem_cons.mpr ⟨lw_p11, List.forall_mem_cons.mpr ⟨lw_p12, List.forall_mem_cons.mpr ⟨lw_p13, List.forall_mem_cons.mpr ⟨lw_p14, List.forall_mem_cons.mpr ⟨lw_p15, fun _ h => absurd h List.not_mem_nil⟩⟩⟩⟩⟩⟩⟩⟩⟩⟩⟩⟩⟩⟩⟩⟩
theorem lw_p16 : lw_okq (⟨"NewSilver$Carrier", "findWays", "([I)V"⟩, 7) := ⟨⟨by decide +kernel, by decide +kernel⟩, List.mem_of_getElem? (i := 60) (by decide +kernel), List.mem_of_getElem? (i := 629) (by decide +kernel), List.mem_of_getElem? (i := 630) (by decide +kernel)⟩
theorem lw_p17 : lw_okq (⟨"NewSilver$Carrier", "goOn", "(I[I)V"⟩, 7) := ⟨⟨by decide +kernel, by decide +kernel⟩, List.mem_of_getElem? (i := 60) (by decide +kernel), List.mem_of_getElem? (i := 634) (by decide +kernel), List.mem_of_getElem? (i := 635) (by decide +kernel)⟩
theorem lw_p18 : lw_okq (⟨"NewSilver$Carrier", "takeBack", "(I[I)Z"⟩, 7) := ⟨⟨by decide +kernel, by decide +kernel⟩, List.mem_of_getElem? (i := 60) (by decide +kernel), List.mem_of_getElem? (i := 638) (by decide +kernel), List.mem_of_getElem? (i := 639) (by decide +kernel)⟩
theorem lw_p19 : lw_okq (⟨"NewSilver$Carrier", "cheapestTown", "()I"⟩, 7) := ⟨⟨by decide +kernel, by decide +kernel⟩, List.mem_of_getElem? (i := 60) (by decide +kernel), List.mem_of_getElem? (i := 642) (by decide +kernel), List.mem_of_getElem? (i := 643) (by decide +kernel)⟩
theorem lw_p20 : lw_okq (⟨"NewSilver$Carrier", "roomOfWay", "(I)I"⟩, 7) := ⟨⟨by decide +kernel, by decide +kernel⟩, List.mem_of_getElem? (i := 60) (by decide +kernel), List.mem_of_getElem? (i := 646) (by decide +kernel), List.mem_of_getElem? (i := 647) (by decide +kernel)⟩
theorem lw_p21 : lw_okq (⟨"NewSilver$Carrier", "carry", "(II)V"⟩, 7) := ⟨⟨by decide +kernel, by decide +kernel⟩, List.mem_of_getElem? (i := 60) (by decide +kernel), List.mem_of_getElem? (i := 653) (by decide +kernel), List.mem_of_getElem? (i := 654) (by decide +kernel)⟩
theorem lw_p22 : lw_okq (⟨"NewSilver", "countMelted", "()I"⟩, 17) := ⟨⟨by decide +kernel, by decide +kernel⟩, List.mem_of_getElem? (i := 17) (by decide +kernel), List.mem_of_getElem? (i := 669) (by decide +kernel), List.mem_of_getElem? (i := 670) (by decide +kernel)⟩
theorem lw_p23 : lw_okq (⟨"NewSilver", "countOnRoads", "()I"⟩, 17) := ⟨⟨by decide +kernel, by decide +kernel⟩, List.mem_of_getElem? (i := 17) (by decide +kernel), List.mem_of_getElem? (i := 673) (by decide +kernel), List.mem_of_getElem? (i := 674) (by decide +kernel)⟩
theorem lw_p24 : lw_okq (⟨"NewSilver", "countInChests", "()I"⟩, 17) := ⟨⟨by decide +kernel, by decide +kernel⟩, List.mem_of_getElem? (i := 17) (by decide +kernel), List.mem_of_getElem? (i := 677) (by decide +kernel), List.mem_of_getElem? (i := 678) (by decide +kernel)⟩
theorem lw_p25 : lw_okq (⟨"NewSilverModel", "isSort", "(I)Z"⟩, 49) := ⟨⟨by decide +kernel, by decide +kernel⟩, List.mem_of_getElem? (i := 681) (by decide +kernel), List.mem_of_getElem? (i := 847) (by decide +kernel), List.mem_of_getElem? (i := 848) (by decide +kernel)⟩
theorem lw_p26 : lw_okq (⟨"NewSilverModel", "isWeight", "(IIII)Z"⟩, 49) := ⟨⟨by decide +kernel, by decide +kernel⟩, List.mem_of_getElem? (i := 681) (by decide +kernel), List.mem_of_getElem? (i := 854) (by decide +kernel), List.mem_of_getElem? (i := 855) (by decide +kernel)⟩
theorem lw_p27 : lw_okq (⟨"NewSilverModel", "newLot", "(IIIIIII)I"⟩, 49) := ⟨⟨by decide +kernel, by decide +kernel⟩, List.mem_of_getElem? (i := 681) (by decide +kernel), List.mem_of_getElem? (i := 858) (by decide +kernel), List.mem_of_getElem? (i := 859) (by decide +kernel)⟩
theorem lw_p28 : lw_okq (⟨"NewSilverModel", "isLot", "(I)Z"⟩, 49) := ⟨⟨by decide +kernel, by decide +kernel⟩, List.mem_of_getElem? (i := 681) (by decide +kernel), List.mem_of_getElem? (i := 866) (by decide +kernel), List.mem_of_getElem? (i := 867) (by decide +kernel)⟩
theorem lw_p29 : lw_okq (⟨"NewSilverModel", "fine", "(I)I"⟩, 49) := ⟨⟨by decide +kernel, by decide +kernel⟩, List.mem_of_getElem? (i := 681) (by decide +kernel), List.mem_of_getElem? (i := 874) (by decide +kernel), List.mem_of_getElem? (i := 875) (by decide +kernel)⟩
theorem lw_p30 : lw_okq (⟨"NewSilverModel", "isUnderWay", "(I)Z"⟩, 49) := ⟨⟨by decide +kernel, by decide +kernel⟩, List.mem_of_getElem? (i := 681) (by decide +kernel), List.mem_of_getElem? (i := 878) (by decide +kernel), List.mem_of_getElem? (i := 879) (by decide +kernel)⟩
theorem lw_p31 : lw_okq (⟨"NewSilverModel", "silverOf", "(I)J"⟩, 49) := ⟨⟨by decide +kernel, by decide +kernel⟩, List.mem_of_getElem? (i := 681) (by decide +kernel), List.mem_of_getElem? (i := 886) (by decide +kernel), List.mem_of_getElem? (i := 887) (by decide +kernel)⟩
def lw_privs_2 : List (MethodName × Nat) := [(⟨"NewSilver$Carrier", "findWays", "([I)V"⟩, 7), (⟨"NewSilver$Carrier", "goOn", "(I[I)V"⟩, 7), (⟨"NewSilver$Carrier", "takeBack", "(I[I)Z"⟩, 7), (⟨"NewSilver$Carrier", "cheapestTown", "()I"⟩, 7), (⟨"NewSilver$Carrier", "roomOfWay", "(I)I"⟩, 7), (⟨"NewSilver$Carrier", "carry", "(II)V"⟩, 7), (⟨"NewSilver", "countMelted", "()I"⟩, 17), (⟨"NewSilver", "countOnRoads", "()I"⟩, 17), (⟨"NewSilver", "countInChests", "()I"⟩, 17), (⟨"NewSilverModel", "isSort", "(I)Z"⟩, 49), (⟨"NewSilverModel", "isWeight", "(IIII)Z"⟩, 49), (⟨"NewSilverModel", "newLot", "(IIIIIII)I"⟩, 49), (⟨"NewSilverModel", "isLot", "(I)Z"⟩, 49), (⟨"NewSilverModel", "fine", "(I)I"⟩, 49), (⟨"NewSilverModel", "isUnderWay", "(I)Z"⟩, 49), (⟨"NewSilverModel", "silverOf", "(I)J"⟩, 49)]
theorem lw_r2 : ∀ q ∈ lw_privs_2, lw_okq q := List.forall_mem_cons.mpr ⟨lw_p16, List.forall_mem_cons.mpr ⟨lw_p17, List.forall_mem_cons.mpr ⟨lw_p18, List.forall_mem_cons.mpr ⟨lw_p19, List.forall_mem_cons.mpr ⟨lw_p20, List.forall_mem_cons.mpr ⟨lw_p21, List.forall_mem_cons.mpr ⟨lw_p22, List.forall_mem_cons.mpr ⟨lw_p23, List.forall_mem_cons.mpr ⟨lw_p24, List.forall_mem_cons.mpr ⟨lw_p25, List.forall_mem_cons.mpr ⟨lw_p26, List.forall_mem_cons.mpr ⟨lw_p27, List.forall_mem_cons.mpr ⟨lw_p28, List.forall_mem_cons.mpr ⟨lw_p29, List.forall_mem_cons.mpr ⟨lw_p30, List.forall_mem_cons.mpr ⟨lw_p31, fun _ h => absurd h List.not_mem_nil⟩⟩⟩⟩⟩⟩⟩⟩⟩⟩⟩⟩⟩⟩⟩⟩
theorem lw_p32 : lw_okq (⟨"NewSilverModel", "clause", "(I)Z"⟩, 49) := ⟨⟨by decide +kernel, by decide +kernel⟩, List.mem_of_getElem? (i := 681) (by decide +kernel), List.mem_of_getElem? (i := 903) (by decide +kernel), List.mem_of_getElem? (i := 904) (by decide +kernel)⟩
theorem lw_p33 : lw_okq (⟨"NewSilverModel", "takesIs", "()Z"⟩, 49) := ⟨⟨by decide +kernel, by decide +kernel⟩, List.mem_of_getElem? (i := 681) (by decide +kernel), List.mem_of_getElem? (i := 907) (by decide +kernel), List.mem_of_getElem? (i := 908) (by decide +kernel)⟩
theorem lw_p34 : lw_okq (⟨"NewSilverModel", "takes", "(I)Z"⟩, 49) := ⟨⟨by decide +kernel, by decide +kernel⟩, List.mem_of_getElem? (i := 681) (by decide +kernel), List.mem_of_getElem? (i := 911) (by decide +kernel), List.mem_of_getElem? (i := 912) (by decide +kernel)⟩
theorem lw_p35 : lw_okq (⟨"NewSilverModel", "takesNumber", "(II)Z"⟩, 49) := ⟨⟨by decide +kernel, by decide +kernel⟩, List.mem_of_getElem? (i := 681) (by decide +kernel), List.mem_of_getElem? (i := 915) (by decide +kernel), List.mem_of_getElem? (i := 916) (by decide +kernel)⟩
theorem lw_p36 : lw_okq (⟨"NewSilverModel", "digitAt", "(I)Z"⟩, 49) := ⟨⟨by decide +kernel, by decide +kernel⟩, List.mem_of_getElem? (i := 681) (by decide +kernel), List.mem_of_getElem? (i := 919) (by decide +kernel), List.mem_of_getElem? (i := 920) (by decide +kernel)⟩
theorem lw_p37 : lw_okq (⟨"NewSilverModel", "takesWeight", "()Z"⟩, 49) := ⟨⟨by decide +kernel, by decide +kernel⟩, List.mem_of_getElem? (i := 681) (by decide +kernel), List.mem_of_getElem? (i := 923) (by decide +kernel), List.mem_of_getElem? (i := 924) (by decide +kernel)⟩
theorem lw_p38 : lw_okq (⟨"NewSilverModel", "isOrder", "(I)Z"⟩, 49) := ⟨⟨by decide +kernel, by decide +kernel⟩, List.mem_of_getElem? (i := 681) (by decide +kernel), List.mem_of_getElem? (i := 931) (by decide +kernel), List.mem_of_getElem? (i := 932) (by decide +kernel)⟩
theorem lw_p39 : lw_okq (⟨"NewSilverModel", "forceIn", "(II)I"⟩, 49) := ⟨⟨by decide +kernel, by decide +kernel⟩, List.mem_of_getElem? (i := 681) (by decide +kernel), List.mem_of_getElem? (i := 939) (by decide +kernel), List.mem_of_getElem? (i := 940) (by decide +kernel)⟩
theorem lw_p40 : lw_okq (⟨"NewSilverModel", "passes", "(III)I"⟩, 49) := ⟨⟨by decide +kernel, by decide +kernel⟩, List.mem_of_getElem? (i := 681) (by decide +kernel), List.mem_of_getElem? (i := 947) (by decide +kernel), List.mem_of_getElem? (i := 948) (by decide +kernel)⟩
theorem lw_p41 : lw_okq (⟨"NewSilverModel", "isDrawn", "(III)Z"⟩, 49) := ⟨⟨by decide +kernel, by decide +kernel⟩, List.mem_of_getElem? (i := 681) (by decide +kernel), List.mem_of_getElem? (i := 955) (by decide +kernel), List.mem_of_getElem? (i := 956) (by decide +kernel)⟩
theorem lw_p42 : lw_okq (⟨"NewSilverModel", "lowest", "(I)I"⟩, 49) := ⟨⟨by decide +kernel, by decide +kernel⟩, List.mem_of_getElem? (i := 681) (by decide +kernel), List.mem_of_getElem? (i := 959) (by decide +kernel), List.mem_of_getElem? (i := 960) (by decide +kernel)⟩
theorem lw_p43 : lw_okq (⟨"NewSilverModel", "isThere", "(II)Z"⟩, 49) := ⟨⟨by decide +kernel, by decide +kernel⟩, List.mem_of_getElem? (i := 681) (by decide +kernel), List.mem_of_getElem? (i := 968) (by decide +kernel), List.mem_of_getElem? (i := 969) (by decide +kernel)⟩
theorem lw_p44 : lw_okq (⟨"NewSilverModel", "isWorse", "(III)Z"⟩, 49) := ⟨⟨by decide +kernel, by decide +kernel⟩, List.mem_of_getElem? (i := 681) (by decide +kernel), List.mem_of_getElem? (i := 972) (by decide +kernel), List.mem_of_getElem? (i := 973) (by decide +kernel)⟩
theorem lw_p45 : lw_okq (⟨"NewSilverModel", "isAtMint", "(I)Z"⟩, 49) := ⟨⟨by decide +kernel, by decide +kernel⟩, List.mem_of_getElem? (i := 681) (by decide +kernel), List.mem_of_getElem? (i := 1007) (by decide +kernel), List.mem_of_getElem? (i := 1008) (by decide +kernel)⟩
theorem lw_p46 : lw_okq (⟨"NewSilverModel", "meltedToday", "(I)I"⟩, 49) := ⟨⟨by decide +kernel, by decide +kernel⟩, List.mem_of_getElem? (i := 681) (by decide +kernel), List.mem_of_getElem? (i := 1015) (by decide +kernel), List.mem_of_getElem? (i := 1016) (by decide +kernel)⟩
theorem lw_p47 : lw_okq (⟨"NewSilverModel", "sendOne", "()I"⟩, 49) := ⟨⟨by decide +kernel, by decide +kernel⟩, List.mem_of_getElem? (i := 681) (by decide +kernel), List.mem_of_getElem? (i := 1054) (by decide +kernel), List.mem_of_getElem? (i := 1055) (by decide +kernel)⟩
def lw_privs_3 : List (MethodName × Nat) := [(⟨"NewSilverModel", "clause", "(I)Z"⟩, 49), (⟨"NewSilverModel", "takesIs", "()Z"⟩, 49), (⟨"NewSilverModel", "takes", "(I)Z"⟩, 49), (⟨"NewSilverModel", "takesNumber", "(II)Z"⟩, 49), (⟨"NewSilverModel", "digitAt", "(I)Z"⟩, 49), (⟨"NewSilverModel", "takesWeight", "()Z"⟩, 49), (⟨"NewSilverModel", "isOrder", "(I)Z"⟩, 49), (⟨"NewSilverModel", "forceIn", "(II)I"⟩, 49), (⟨"NewSilverModel", "passes", "(III)I"⟩, 49), (⟨"NewSilverModel", "isDrawn", "(III)Z"⟩, 49), (⟨"NewSilverModel", "lowest", "(I)I"⟩, 49), (⟨"NewSilverModel", "isThere", "(II)Z"⟩, 49), (⟨"NewSilverModel", "isWorse", "(III)Z"⟩, 49), (⟨"NewSilverModel", "isAtMint", "(I)Z"⟩, 49), (⟨"NewSilverModel", "meltedToday", "(I)I"⟩, 49), (⟨"NewSilverModel", "sendOne", "()I"⟩, 49)]
theorem lw_r3 : ∀ q ∈ lw_privs_3, lw_okq q := List.forall_mem_cons.mpr ⟨lw_p32, List.forall_mem_cons.mpr ⟨lw_p33, List.forall_mem_cons.mpr ⟨lw_p34, List.forall_mem_cons.mpr ⟨lw_p35, List.forall_mem_cons.mpr ⟨lw_p36, List.forall_mem_cons.mpr ⟨lw_p37, List.forall_mem_cons.mpr ⟨lw_p38, List.forall_mem_cons.mpr ⟨lw_p39, List.forall_mem_cons.mpr ⟨lw_p40, List.forall_mem_cons.mpr ⟨lw_p41, List.forall_mem_cons.mpr ⟨lw_p42, List.forall_mem_cons.mpr ⟨lw_p43, List.forall_mem_cons.mpr ⟨lw_p44, List.forall_mem_cons.mpr ⟨lw_p45, List.forall_mem_cons.mpr ⟨lw_p46, List.forall_mem_cons.mpr ⟨lw_p47, fun _ h => absurd h List.not_mem_nil⟩⟩⟩⟩⟩⟩⟩⟩⟩⟩⟩⟩⟩⟩⟩⟩
theorem lw_p48 : lw_okq (⟨"NewSilverModel", "findFar", "()V"⟩, 49) := ⟨⟨by decide +kernel, by decide +kernel⟩, List.mem_of_getElem? (i := 681) (by decide +kernel), List.mem_of_getElem? (i := 1058) (by decide +kernel), List.mem_of_getElem? (i := 1059) (by decide +kernel)⟩
def lw_privs_4 : List (MethodName × Nat) := [(⟨"NewSilverModel", "findFar", "()V"⟩, 49)]
theorem lw_r4 : ∀ q ∈ lw_privs_4, lw_okq q := List.forall_mem_cons.mpr ⟨lw_p48, fun _ h => absurd h List.not_mem_nil⟩
def lw_privs : List (MethodName × Nat) := lw_privs_1 ++ (lw_privs_2 ++ (lw_privs_3 ++ (lw_privs_4)))
def lw_tbl : List Cond := k2_sels lw_privs ++ tables_1
theorem lw_privs_ok : ∀ q ∈ lw_privs, lw_okq q := by
  show ∀ q ∈ lw_privs_1 ++ (lw_privs_2 ++ (lw_privs_3 ++ (lw_privs_4))), lw_okq q
  exact List.forall_mem_append.mpr ⟨lw_r1, List.forall_mem_append.mpr ⟨lw_r2, List.forall_mem_append.mpr ⟨lw_r3, lw_r4⟩⟩⟩
-- ===== names, by program =====
def RX0 : String := "NewSilver$Carrier"
def TX0 : u_T := fun k => match k with
  | 0 => ("NewSilver$Carrier", "left", "[I", true)
  | 1 => ("NewSilver$Carrier", "wanted", "[I", true)
  | 2 => ("NewSilver$Carrier", "carried", "[I", true)
  | 3 => ("NewSilver$Carrier", "mintCost", "[I", true)
  | 4 => ("NewSilver$Carrier", "townCost", "[I", true)
  | 5 => ("NewSilver$Carrier", "townBefore", "[I", true)
  | _ => ("NewSilver$Carrier", "mintBefore", "[I", true)
def tyX0 : Nat → FieldType := fun k => match k with
  | 0 => .array .int
  | 1 => .array .int
  | 2 => .array .int
  | 3 => .array .int
  | 4 => .array .int
  | 5 => .array .int
  | _ => .array .int
abbrev wsX00 : List Cond := u_ws RX0 TX0 7
theorem nmX0 : ∀ a, a < 7 → ∀ b, b < 7 → a ≠ b → (TX0 a).2.1 ≠ (TX0 b).2.1 := by decide +kernel
theorem tyX0_ok : ∀ k, k < 7 → parseFieldDescriptor (TX0 k).2.2.1 = some (tyX0 k) := by decide +kernel
abbrev cX0_init : ByteArray := prog_2_method_1_code
def yX0_init : MethodName := ⟨RX0, "<init>", "()V"⟩
abbrev cX0_leastCost : ByteArray := prog_2_method_2_code
def yX0_leastCost : MethodName := ⟨RX0, "leastCost", "([I[I[I)I"⟩
abbrev cX0_findWays : ByteArray := prog_2_method_3_code
def yX0_findWays : MethodName := ⟨RX0, "findWays", "([I)V"⟩
abbrev cX0_goOn : ByteArray := prog_2_method_4_code
def yX0_goOn : MethodName := ⟨RX0, "goOn", "(I[I)V"⟩
abbrev cX0_takeBack : ByteArray := prog_2_method_5_code
def yX0_takeBack : MethodName := ⟨RX0, "takeBack", "(I[I)Z"⟩
abbrev cX0_cheapestTown : ByteArray := prog_2_method_6_code
def yX0_cheapestTown : MethodName := ⟨RX0, "cheapestTown", "()I"⟩
abbrev cX0_roomOfWay : ByteArray := prog_2_method_7_code
def yX0_roomOfWay : MethodName := ⟨RX0, "roomOfWay", "(I)I"⟩
abbrev cX0_carry : ByteArray := prog_2_method_8_code
def yX0_carry : MethodName := ⟨RX0, "carry", "(II)V"⟩
def RX1 : String := "NewSilver$Lot"
def TX1 : u_T := fun k => match k with
  | 0 => ("NewSilver$Lot", "sortNumber", "I", true)
  | 1 => ("NewSilver$Lot", "sort", "LNewSilver$Sort;", true)
  | 2 => ("NewSilver$Lot", "coins", "I", true)
  | 3 => ("NewSilver$Lot", "fine", "I", true)
  | 4 => ("NewSilver$Lot", "kind", "I", false)
  | 5 => ("NewSilver$Lot", "weight", "I", false)
  | 6 => ("NewSilver$Lot", "town", "I", false)
  | 7 => ("NewSilver$Lot", "mint", "I", false)
  | 8 => ("NewSilver$Lot", "comes", "I", false)
  | 9 => ("NewSilver$Lot", "melted", "Z", false)
  | 10 => ("NewSilver$Lot", "inChest", "Z", false)
  | _ => ("NewSilver$Lot", "found", "Z", false)
def tyX1 : Nat → FieldType := fun k => match k with
  | 0 => .int
  | 1 => .object "NewSilver$Sort"
  | 2 => .int
  | 3 => .int
  | 4 => .int
  | 5 => .int
  | 6 => .int
  | 7 => .int
  | 8 => .int
  | 9 => .boolean
  | 10 => .boolean
  | _ => .boolean
abbrev wsX10 : List Cond := u_ws RX1 TX1 12
theorem nmX1 : ∀ a, a < 12 → ∀ b, b < 12 → a ≠ b → (TX1 a).2.1 ≠ (TX1 b).2.1 := by decide +kernel
theorem tyX1_ok : ∀ k, k < 12 → parseFieldDescriptor (TX1 k).2.2.1 = some (tyX1 k) := by decide +kernel
abbrev cX1_init : ByteArray := prog_3_method_1_code
def yX1_init : MethodName := ⟨RX1, "<init>", "(IILNewSilver$Sort;III)V"⟩
abbrev cX1_silverHeld : ByteArray := prog_3_method_2_code
def yX1_silverHeld : MethodName := ⟨RX1, "silverHeld", "()J"⟩
abbrev cX1_isSealedBag : ByteArray := prog_3_method_3_code
def yX1_isSealedBag : MethodName := ⟨RX1, "isSealedBag", "()Z"⟩
abbrev cX1_isOnRoad : ByteArray := prog_3_method_4_code
def yX1_isOnRoad : MethodName := ⟨RX1, "isOnRoad", "(I)Z"⟩
abbrev cX1_vanish : ByteArray := prog_3_method_5_code
def yX1_vanish : MethodName := ⟨RX1, "vanish", "()V"⟩
abbrev cX1_canDraw : ByteArray := prog_3_method_6_code
def yX1_canDraw : MethodName := ⟨RX1, "canDraw", "(II)Z"⟩
abbrev cX1_leastDrawn : ByteArray := prog_3_method_7_code
def yX1_leastDrawn : MethodName := ⟨RX1, "leastDrawn", "(II)I"⟩
abbrev cX1_mostDrawn : ByteArray := prog_3_method_8_code
def yX1_mostDrawn : MethodName := ⟨RX1, "mostDrawn", "(II)I"⟩
def RX2 : String := "NewSilver$Order"
def TX2 : u_T := fun k => match k with
  | 0 => ("NewSilver$Order", "pence", "[I", true)
  | 1 => ("NewSilver$Order", "grains", "[I", true)
  | _ => ("NewSilver$Order", "told", "[I", true)
def tyX2 : Nat → FieldType := fun k => match k with
  | 0 => .array .int
  | 1 => .array .int
  | _ => .array .int
abbrev wsX20 : List Cond := u_ws RX2 TX2 3
theorem nmX2 : ∀ a, a < 3 → ∀ b, b < 3 → a ≠ b → (TX2 a).2.1 ≠ (TX2 b).2.1 := by decide +kernel
theorem tyX2_ok : ∀ k, k < 3 → parseFieldDescriptor (TX2 k).2.2.1 = some (tyX2 k) := by decide +kernel
abbrev cX2_init : ByteArray := prog_4_method_1_code
def yX2_init : MethodName := ⟨RX2, "<init>", "([I[I)V"⟩
def RX3 : String := "NewSilver$Pot"
def TX3 : u_T := fun k => match k with
  | 0 => ("NewSilver$Pot", "grains", "J", false)
  | 1 => ("NewSilver$Pot", "silver", "J", false)
  | 2 => ("NewSilver$Pot", "refined", "Z", false)
  | 3 => ("NewSilver$Pot", "copper", "J", false)
  | 4 => ("NewSilver$Pot", "treasure", "J", false)
  | 5 => ("NewSilver$Pot", "wentOff", "J", false)
  | 6 => ("NewSilver$Pot", "furnace", "I", false)
  | 7 => ("NewSilver$Pot", "melted", "I", false)
  | _ => ("NewSilver$Pot", "meltingDay", "I", false)
def tyX3 : Nat → FieldType := fun k => match k with
  | 0 => .long
  | 1 => .long
  | 2 => .boolean
  | 3 => .long
  | 4 => .long
  | 5 => .long
  | 6 => .int
  | 7 => .int
  | _ => .int
abbrev wsX30 : List Cond := u_ws RX3 TX3 9
theorem nmX3 : ∀ a, a < 9 → ∀ b, b < 9 → a ≠ b → (TX3 a).2.1 ≠ (TX3 b).2.1 := by decide +kernel
theorem tyX3_ok : ∀ k, k < 9 → parseFieldDescriptor (TX3 k).2.2.1 = some (tyX3 k) := by decide +kernel
abbrev cX3_init : ByteArray := prog_5_method_1_code
def yX3_init : MethodName := ⟨RX3, "<init>", "()V"⟩
abbrev cX3_meltedOn : ByteArray := prog_5_method_2_code
def yX3_meltedOn : MethodName := ⟨RX3, "meltedOn", "(I)I"⟩
abbrev cX3_takeIn : ByteArray := prog_5_method_3_code
def yX3_takeIn : MethodName := ⟨RX3, "takeIn", "(IJI)V"⟩
abbrev cX3_bringToLaw : ByteArray := prog_5_method_4_code
def yX3_bringToLaw : MethodName := ⟨RX3, "bringToLaw", "()J"⟩
abbrev cX3_pourOut : ByteArray := prog_5_method_5_code
def yX3_pourOut : MethodName := ⟨RX3, "pourOut", "(I)V"⟩
def RX4 : String := "NewSilver$Sort"
def TX4 : u_T := fun k => match k with
  | 0 => ("NewSilver$Sort", "least", "I", true)
  | 1 => ("NewSilver$Sort", "most", "I", true)
  | 2 => ("NewSilver$Sort", "fine", "I", true)
  | _ => ("NewSilver$Sort", "value", "I", true)
def tyX4 : Nat → FieldType := fun k => match k with
  | 0 => .int
  | 1 => .int
  | 2 => .int
  | _ => .int
abbrev wsX40 : List Cond := u_ws RX4 TX4 4
theorem nmX4 : ∀ a, a < 4 → ∀ b, b < 4 → a ≠ b → (TX4 a).2.1 ≠ (TX4 b).2.1 := by decide +kernel
theorem tyX4_ok : ∀ k, k < 4 → parseFieldDescriptor (TX4 k).2.2.1 = some (tyX4 k) := by decide +kernel
abbrev cX4_init : ByteArray := prog_6_method_1_code
def yX4_init : MethodName := ⟨RX4, "<init>", "(IIII)V"⟩
abbrev cX4_leastOfCoin : ByteArray := prog_6_method_2_code
def yX4_leastOfCoin : MethodName := ⟨RX4, "leastOfCoin", "(I)I"⟩
def RX5 : String := "NewSilver$Tape"
def TX5 : u_T := fun k => match k with
  | 0 => ("NewSilver$Tape", "pence", "[I", true)
  | 1 => ("NewSilver$Tape", "grains", "[I", true)
  | 2 => ("NewSilver$Tape", "length", "I", false)
  | 3 => ("NewSilver$Tape", "bytes", "[B", true)
  | _ => ("NewSilver$Tape", "at", "I", false)
def tyX5 : Nat → FieldType := fun k => match k with
  | 0 => .array .int
  | 1 => .array .int
  | 2 => .int
  | 3 => .array .byte
  | _ => .int
abbrev wsX50 : List Cond := u_ws RX5 TX5 5
theorem nmX5 : ∀ a, a < 5 → ∀ b, b < 5 → a ≠ b → (TX5 a).2.1 ≠ (TX5 b).2.1 := by decide +kernel
theorem tyX5_ok : ∀ k, k < 5 → parseFieldDescriptor (TX5 k).2.2.1 = some (tyX5 k) := by decide +kernel
abbrev cX5_init : ByteArray := prog_7_method_1_code
def yX5_init : MethodName := ⟨RX5, "<init>", "()V"⟩
abbrev cX5_append : ByteArray := prog_7_method_2_code
def yX5_append : MethodName := ⟨RX5, "append", "(JI)Z"⟩
abbrev cX5_findFault : ByteArray := prog_7_method_3_code
def yX5_findFault : MethodName := ⟨RX5, "findFault", "()I"⟩
abbrev cX5_readClauses : ByteArray := prog_7_method_4_code
def yX5_readClauses : MethodName := ⟨RX5, "readClauses", "()Z"⟩
abbrev cX5_readClause : ByteArray := prog_7_method_5_code
def yX5_readClause : MethodName := ⟨RX5, "readClause", "()Z"⟩
abbrev cX5_readWeight : ByteArray := prog_7_method_6_code
def yX5_readWeight : MethodName := ⟨RX5, "readWeight", "(I)Z"⟩
abbrev cX5_readWord : ByteArray := prog_7_method_7_code
def yX5_readWord : MethodName := ⟨RX5, "readWord", "(Ljava/lang/String;)Z"⟩
abbrev cX5_readNumber : ByteArray := prog_7_method_8_code
def yX5_readNumber : MethodName := ⟨RX5, "readNumber", "(II)I"⟩
abbrev cX5_isHere : ByteArray := prog_7_method_9_code
def yX5_isHere : MethodName := ⟨RX5, "isHere", "(C)Z"⟩
abbrev cX5_digitHere : ByteArray := prog_7_method_10_code
def yX5_digitHere : MethodName := ⟨RX5, "digitHere", "()I"⟩
def RX6 : String := "NewSilver"
def TX6 : u_T := fun k => match k with
  | 0 => ("NewSilver", "sorts", "[LNewSilver$Sort;", true)
  | 1 => ("NewSilver", "sortCount", "I", false)
  | 2 => ("NewSilver", "lots", "[LNewSilver$Lot;", true)
  | 3 => ("NewSilver", "lotCount", "I", false)
  | 4 => ("NewSilver", "orders", "[LNewSilver$Order;", true)
  | 5 => ("NewSilver", "orderCount", "I", false)
  | 6 => ("NewSilver", "tape", "LNewSilver$Tape;", true)
  | 7 => ("NewSilver", "pots", "[LNewSilver$Pot;", true)
  | 8 => ("NewSilver", "roadDays", "[I", true)
  | 9 => ("NewSilver", "credits", "[J", true)
  | 10 => ("NewSilver", "payment", "[I", true)
  | 11 => ("NewSilver", "paymentCount", "I", false)
  | 12 => ("NewSilver", "worth", "[I", true)
  | 13 => ("NewSilver", "gives", "[I", true)
  | 14 => ("NewSilver", "needs", "[I", true)
  | 15 => ("NewSilver", "carrier", "LNewSilver$Carrier;", true)
  | _ => ("NewSilver", "thisDay", "I", false)
def tyX6 : Nat → FieldType := fun k => match k with
  | 0 => .array (.object "NewSilver$Sort")
  | 1 => .int
  | 2 => .array (.object "NewSilver$Lot")
  | 3 => .int
  | 4 => .array (.object "NewSilver$Order")
  | 5 => .int
  | 6 => .object "NewSilver$Tape"
  | 7 => .array (.object "NewSilver$Pot")
  | 8 => .array .int
  | 9 => .array .long
  | 10 => .array .int
  | 11 => .int
  | 12 => .array .int
  | 13 => .array .int
  | 14 => .array .int
  | 15 => .object "NewSilver$Carrier"
  | _ => .int
abbrev wsX60 : List Cond := u_ws RX6 TX6 17
theorem nmX6 : ∀ a, a < 17 → ∀ b, b < 17 → a ≠ b → (TX6 a).2.1 ≠ (TX6 b).2.1 := by decide +kernel
theorem tyX6_ok : ∀ k, k < 17 → parseFieldDescriptor (TX6 k).2.2.1 = some (tyX6 k) := by decide +kernel
abbrev cX6_init : ByteArray := prog_1_method_1_code
def yX6_init : MethodName := ⟨RX6, "<init>", "()V"⟩
abbrev cX6_sort : ByteArray := prog_1_method_2_code
def yX6_sort : MethodName := ⟨RX6, "sort", "(IIII)I"⟩
abbrev cX6_lot : ByteArray := prog_1_method_3_code
def yX6_lot : MethodName := ⟨RX6, "lot", "(IIIIII)I"⟩
abbrev cX6_open : ByteArray := prog_1_method_4_code
def yX6_open : MethodName := ⟨RX6, "open", "(II)I"⟩
abbrev cX6_about : ByteArray := prog_1_method_5_code
def yX6_about : MethodName := ⟨RX6, "about", "(II)I"⟩
abbrev cX6_silver : ByteArray := prog_1_method_6_code
def yX6_silver : MethodName := ⟨RX6, "silver", "(I)J"⟩
abbrev cX6_today : ByteArray := prog_1_method_7_code
def yX6_today : MethodName := ⟨RX6, "today", "(I)I"⟩
abbrev cX6_feed : ByteArray := prog_1_method_8_code
def yX6_feed : MethodName := ⟨RX6, "feed", "(JI)I"⟩
abbrev cX6_order : ByteArray := prog_1_method_9_code
def yX6_order : MethodName := ⟨RX6, "order", "()I"⟩
abbrev cX6_tell : ByteArray := prog_1_method_10_code
def yX6_tell : MethodName := ⟨RX6, "tell", "(II)I"⟩
abbrev cX6_force : ByteArray := prog_1_method_11_code
def yX6_force : MethodName := ⟨RX6, "force", "(II)I"⟩
abbrev cX6_pass : ByteArray := prog_1_method_12_code
def yX6_pass : MethodName := ⟨RX6, "pass", "(III)I"⟩
abbrev cX6_light : ByteArray := prog_1_method_13_code
def yX6_light : MethodName := ⟨RX6, "light", "(IIII)I"⟩
abbrev cX6_pay : ByteArray := prog_1_method_14_code
def yX6_pay : MethodName := ⟨RX6, "pay", "(II)I"⟩
abbrev cX6_paid : ByteArray := prog_1_method_15_code
def yX6_paid : MethodName := ⟨RX6, "paid", "(I)I"⟩
abbrev cX6_credit : ByteArray := prog_1_method_16_code
def yX6_credit : MethodName := ⟨RX6, "credit", "(I)J"⟩
abbrev cX6_give : ByteArray := prog_1_method_17_code
def yX6_give : MethodName := ⟨RX6, "give", "(I)I"⟩
abbrev cX6_lack : ByteArray := prog_1_method_18_code
def yX6_lack : MethodName := ⟨RX6, "lack", "(II)I"⟩
abbrev cX6_road : ByteArray := prog_1_method_19_code
def yX6_road : MethodName := ⟨RX6, "road", "(III)I"⟩
abbrev cX6_send : ByteArray := prog_1_method_20_code
def yX6_send : MethodName := ⟨RX6, "send", "(II)I"⟩
abbrev cX6_bring : ByteArray := prog_1_method_21_code
def yX6_bring : MethodName := ⟨RX6, "bring", "(II)I"⟩
abbrev cX6_melt : ByteArray := prog_1_method_22_code
def yX6_melt : MethodName := ⟨RX6, "melt", "(I)I"⟩
abbrev cX6_furnace : ByteArray := prog_1_method_23_code
def yX6_furnace : MethodName := ⟨RX6, "furnace", "(II)I"⟩
abbrev cX6_refine : ByteArray := prog_1_method_24_code
def yX6_refine : MethodName := ⟨RX6, "refine", "(I)I"⟩
abbrev cX6_strike : ByteArray := prog_1_method_25_code
def yX6_strike : MethodName := ⟨RX6, "strike", "(III)I"⟩
abbrev cX6_mint : ByteArray := prog_1_method_26_code
def yX6_mint : MethodName := ⟨RX6, "mint", "(II)J"⟩
abbrev cX6_all : ByteArray := prog_1_method_27_code
def yX6_all : MethodName := ⟨RX6, "all", "()J"⟩
abbrev cX6_drawn : ByteArray := prog_1_method_28_code
def yX6_drawn : MethodName := ⟨RX6, "drawn", "(IIII)I"⟩
abbrev cX6_wish : ByteArray := prog_1_method_29_code
def yX6_wish : MethodName := ⟨RX6, "wish", "(III)I"⟩
abbrev cX6_flow : ByteArray := prog_1_method_30_code
def yX6_flow : MethodName := ⟨RX6, "flow", "()I"⟩
abbrev cX6_sent : ByteArray := prog_1_method_31_code
def yX6_sent : MethodName := ⟨RX6, "sent", "()I"⟩
abbrev cX6_count : ByteArray := prog_1_method_32_code
def yX6_count : MethodName := ⟨RX6, "count", "(I)I"⟩
abbrev cX6_within : ByteArray := prog_1_method_33_code
def yX6_within : MethodName := ⟨RX6, "within", "(III)Z"⟩
abbrev cX6_oneIf : ByteArray := prog_1_method_34_code
def yX6_oneIf : MethodName := ⟨RX6, "oneIf", "(Z)I"⟩
abbrev cX6_sumOf : ByteArray := prog_1_method_35_code
def yX6_sumOf : MethodName := ⟨RX6, "sumOf", "([I)I"⟩
abbrev cX6_isTown : ByteArray := prog_1_method_36_code
def yX6_isTown : MethodName := ⟨RX6, "isTown", "(I)Z"⟩
abbrev cX6_isMint : ByteArray := prog_1_method_37_code
def yX6_isMint : MethodName := ⟨RX6, "isMint", "(I)Z"⟩
abbrev cX6_sortAt : ByteArray := prog_1_method_38_code
def yX6_sortAt : MethodName := ⟨RX6, "sortAt", "(I)LNewSilver$Sort;"⟩
abbrev cX6_lotAt : ByteArray := prog_1_method_39_code
def yX6_lotAt : MethodName := ⟨RX6, "lotAt", "(I)LNewSilver$Lot;"⟩
abbrev cX6_orderAt : ByteArray := prog_1_method_40_code
def yX6_orderAt : MethodName := ⟨RX6, "orderAt", "(I)LNewSilver$Order;"⟩
abbrev cX6_potAt : ByteArray := prog_1_method_41_code
def yX6_potAt : MethodName := ⟨RX6, "potAt", "(I)LNewSilver$Pot;"⟩
abbrev cX6_hasOwnFine : ByteArray := prog_1_method_42_code
def yX6_hasOwnFine : MethodName := ⟨RX6, "hasOwnFine", "(I)Z"⟩
abbrev cX6_isLotAsTold : ByteArray := prog_1_method_43_code
def yX6_isLotAsTold : MethodName := ⟨RX6, "isLotAsTold", "(ILNewSilver$Sort;III)Z"⟩
abbrev cX6_keepLot : ByteArray := prog_1_method_44_code
def yX6_keepLot : MethodName := ⟨RX6, "keepLot", "(LNewSilver$Lot;)I"⟩
abbrev cX6_orderInForce : ByteArray := prog_1_method_45_code
def yX6_orderInForce : MethodName := ⟨RX6, "orderInForce", "(II)I"⟩
abbrev cX6_worthOf : ByteArray := prog_1_method_46_code
def yX6_worthOf : MethodName := ⟨RX6, "worthOf", "(LNewSilver$Lot;ILNewSilver$Order;)I"⟩
abbrev cX6_reckonWorth : ByteArray := prog_1_method_47_code
def yX6_reckonWorth : MethodName := ⟨RX6, "reckonWorth", "(I)J"⟩
abbrev cX6_payWorst : ByteArray := prog_1_method_48_code
def yX6_payWorst : MethodName := ⟨RX6, "payWorst", "()I"⟩
abbrev cX6_isWorse : ByteArray := prog_1_method_49_code
def yX6_isWorse : MethodName := ⟨RX6, "isWorse", "(LNewSilver$Lot;ILNewSilver$Lot;I)Z"⟩
abbrev cX6_findFalse : ByteArray := prog_1_method_50_code
def yX6_findFalse : MethodName := ⟨RX6, "findFalse", "(I)V"⟩
abbrev cX6_countMelted : ByteArray := prog_1_method_51_code
def yX6_countMelted : MethodName := ⟨RX6, "countMelted", "()I"⟩
abbrev cX6_countOnRoads : ByteArray := prog_1_method_52_code
def yX6_countOnRoads : MethodName := ⟨RX6, "countOnRoads", "()I"⟩
abbrev cX6_countInChests : ByteArray := prog_1_method_53_code
def yX6_countInChests : MethodName := ⟨RX6, "countInChests", "()I"⟩
def RX7 : String := "NewSilverModel"
def TX7 : u_T := fun k => match k with
  | 0 => ("NewSilverModel", "code", "I", false)
  | 1 => ("NewSilverModel", "sorts", "I", false)
  | 2 => ("NewSilverModel", "least", "[I", true)
  | 3 => ("NewSilverModel", "most", "[I", true)
  | 4 => ("NewSilverModel", "fineOf", "[I", true)
  | 5 => ("NewSilverModel", "value", "[I", true)
  | 6 => ("NewSilverModel", "today", "I", false)
  | 7 => ("NewSilverModel", "lots", "I", false)
  | 8 => ("NewSilverModel", "kind", "[I", true)
  | 9 => ("NewSilverModel", "sort", "[I", true)
  | 10 => ("NewSilverModel", "coins", "[I", true)
  | 11 => ("NewSilverModel", "weight", "[I", true)
  | 12 => ("NewSilverModel", "ownFine", "[I", true)
  | 13 => ("NewSilverModel", "town", "[I", true)
  | 14 => ("NewSilverModel", "mint", "[I", true)
  | 15 => ("NewSilverModel", "comes", "[I", true)
  | 16 => ("NewSilverModel", "melted", "[Z", true)
  | 17 => ("NewSilverModel", "chest", "[Z", true)
  | 18 => ("NewSilverModel", "isFound", "[Z", true)
  | 19 => ("NewSilverModel", "tape", "[B", true)
  | 20 => ("NewSilverModel", "taped", "I", false)
  | 21 => ("NewSilverModel", "orders", "I", false)
  | 22 => ("NewSilverModel", "says", "[I", true)
  | 23 => ("NewSilverModel", "pence", "[I", true)
  | 24 => ("NewSilverModel", "grains", "[I", true)
  | 25 => ("NewSilverModel", "toldOn", "[I", true)
  | 26 => ("NewSilverModel", "at", "I", false)
  | 27 => ("NewSilverModel", "number", "I", false)
  | 28 => ("NewSilverModel", "credits", "[J", true)
  | 29 => ("NewSilverModel", "paidMany", "I", false)
  | 30 => ("NewSilverModel", "paidLot", "[I", true)
  | 31 => ("NewSilverModel", "row", "[I", true)
  | 32 => ("NewSilverModel", "roads", "[I", true)
  | 33 => ("NewSilverModel", "pot", "[J", true)
  | 34 => ("NewSilverModel", "potSilver", "[J", true)
  | 35 => ("NewSilverModel", "refined", "[Z", true)
  | 36 => ("NewSilverModel", "copper", "[J", true)
  | 37 => ("NewSilverModel", "treasury", "[J", true)
  | 38 => ("NewSilverModel", "furnace", "[I", true)
  | 39 => ("NewSilverModel", "meltedGrains", "[I", true)
  | 40 => ("NewSilverModel", "meltedOn", "[I", true)
  | 41 => ("NewSilverModel", "off", "J", false)
  | 42 => ("NewSilverModel", "gives", "[I", true)
  | 43 => ("NewSilverModel", "needs", "[I", true)
  | 44 => ("NewSilverModel", "flow", "[I", true)
  | 45 => ("NewSilverModel", "has", "[I", true)
  | 46 => ("NewSilverModel", "wants", "[I", true)
  | 47 => ("NewSilverModel", "far", "[I", true)
  | _ => ("NewSilverModel", "before", "[I", true)
def tyX7 : Nat → FieldType := fun k => match k with
  | 0 => .int
  | 1 => .int
  | 2 => .array .int
  | 3 => .array .int
  | 4 => .array .int
  | 5 => .array .int
  | 6 => .int
  | 7 => .int
  | 8 => .array .int
  | 9 => .array .int
  | 10 => .array .int
  | 11 => .array .int
  | 12 => .array .int
  | 13 => .array .int
  | 14 => .array .int
  | 15 => .array .int
  | 16 => .array .boolean
  | 17 => .array .boolean
  | 18 => .array .boolean
  | 19 => .array .byte
  | 20 => .int
  | 21 => .int
  | 22 => .array .int
  | 23 => .array .int
  | 24 => .array .int
  | 25 => .array .int
  | 26 => .int
  | 27 => .int
  | 28 => .array .long
  | 29 => .int
  | 30 => .array .int
  | 31 => .array .int
  | 32 => .array .int
  | 33 => .array .long
  | 34 => .array .long
  | 35 => .array .boolean
  | 36 => .array .long
  | 37 => .array .long
  | 38 => .array .int
  | 39 => .array .int
  | 40 => .array .int
  | 41 => .long
  | 42 => .array .int
  | 43 => .array .int
  | 44 => .array .int
  | 45 => .array .int
  | 46 => .array .int
  | 47 => .array .int
  | _ => .array .int
abbrev wsX70 : List Cond := u_ws RX7 TX7 49
theorem nmX7 : ∀ a, a < 49 → ∀ b, b < 49 → a ≠ b → (TX7 a).2.1 ≠ (TX7 b).2.1 := by decide +kernel
theorem tyX7_ok : ∀ k, k < 49 → parseFieldDescriptor (TX7 k).2.2.1 = some (tyX7 k) := by decide +kernel
abbrev cX7_init : ByteArray := prog_9_method_1_code
def yX7_init : MethodName := ⟨RX7, "<init>", "()V"⟩
abbrev cX7_in : ByteArray := prog_9_method_3_code
def yX7_in : MethodName := ⟨RX7, "in", "(III)Z"⟩
abbrev cX7_isSort : ByteArray := prog_9_method_4_code
def yX7_isSort : MethodName := ⟨RX7, "isSort", "(I)Z"⟩
abbrev cX7_isLot : ByteArray := prog_9_method_5_code
def yX7_isLot : MethodName := ⟨RX7, "isLot", "(I)Z"⟩
abbrev cX7_isTown : ByteArray := prog_9_method_6_code
def yX7_isTown : MethodName := ⟨RX7, "isTown", "(I)Z"⟩
abbrev cX7_isMint : ByteArray := prog_9_method_7_code
def yX7_isMint : MethodName := ⟨RX7, "isMint", "(I)Z"⟩
abbrev cX7_sort : ByteArray := prog_9_method_8_code
def yX7_sort : MethodName := ⟨RX7, "sort", "(IIII)I"⟩
abbrev cX7_isWeight : ByteArray := prog_9_method_9_code
def yX7_isWeight : MethodName := ⟨RX7, "isWeight", "(IIII)Z"⟩
abbrev cX7_newLot : ByteArray := prog_9_method_10_code
def yX7_newLot : MethodName := ⟨RX7, "newLot", "(IIIIIII)I"⟩
abbrev cX7_lot : ByteArray := prog_9_method_11_code
def yX7_lot : MethodName := ⟨RX7, "lot", "(IIIIII)I"⟩
abbrev cX7_open : ByteArray := prog_9_method_12_code
def yX7_open : MethodName := ⟨RX7, "open", "(II)I"⟩
abbrev cX7_fine : ByteArray := prog_9_method_13_code
def yX7_fine : MethodName := ⟨RX7, "fine", "(I)I"⟩
abbrev cX7_silverOf : ByteArray := prog_9_method_14_code
def yX7_silverOf : MethodName := ⟨RX7, "silverOf", "(I)J"⟩
abbrev cX7_isUnderWay : ByteArray := prog_9_method_15_code
def yX7_isUnderWay : MethodName := ⟨RX7, "isUnderWay", "(I)Z"⟩
abbrev cX7_about : ByteArray := prog_9_method_16_code
def yX7_about : MethodName := ⟨RX7, "about", "(II)I"⟩
abbrev cX7_silver : ByteArray := prog_9_method_17_code
def yX7_silver : MethodName := ⟨RX7, "silver", "(I)J"⟩
abbrev cX7_today : ByteArray := prog_9_method_18_code
def yX7_today : MethodName := ⟨RX7, "today", "(I)I"⟩
abbrev cX7_feed : ByteArray := prog_9_method_19_code
def yX7_feed : MethodName := ⟨RX7, "feed", "(JI)I"⟩
abbrev cX7_takes : ByteArray := prog_9_method_20_code
def yX7_takes : MethodName := ⟨RX7, "takes", "(I)Z"⟩
abbrev cX7_digitAt : ByteArray := prog_9_method_21_code
def yX7_digitAt : MethodName := ⟨RX7, "digitAt", "(I)Z"⟩
abbrev cX7_takesNumber : ByteArray := prog_9_method_22_code
def yX7_takesNumber : MethodName := ⟨RX7, "takesNumber", "(II)Z"⟩
abbrev cX7_takesIs : ByteArray := prog_9_method_23_code
def yX7_takesIs : MethodName := ⟨RX7, "takesIs", "()Z"⟩
abbrev cX7_takesWeight : ByteArray := prog_9_method_24_code
def yX7_takesWeight : MethodName := ⟨RX7, "takesWeight", "()Z"⟩
abbrev cX7_clause : ByteArray := prog_9_method_25_code
def yX7_clause : MethodName := ⟨RX7, "clause", "(I)Z"⟩
abbrev cX7_order : ByteArray := prog_9_method_26_code
def yX7_order : MethodName := ⟨RX7, "order", "()I"⟩
abbrev cX7_isOrder : ByteArray := prog_9_method_27_code
def yX7_isOrder : MethodName := ⟨RX7, "isOrder", "(I)Z"⟩
abbrev cX7_tell : ByteArray := prog_9_method_28_code
def yX7_tell : MethodName := ⟨RX7, "tell", "(II)I"⟩
abbrev cX7_forceIn : ByteArray := prog_9_method_29_code
def yX7_forceIn : MethodName := ⟨RX7, "forceIn", "(II)I"⟩
abbrev cX7_force : ByteArray := prog_9_method_30_code
def yX7_force : MethodName := ⟨RX7, "force", "(II)I"⟩
abbrev cX7_passes : ByteArray := prog_9_method_31_code
def yX7_passes : MethodName := ⟨RX7, "passes", "(III)I"⟩
abbrev cX7_pass : ByteArray := prog_9_method_32_code
def yX7_pass : MethodName := ⟨RX7, "pass", "(III)I"⟩
abbrev cX7_lowest : ByteArray := prog_9_method_33_code
def yX7_lowest : MethodName := ⟨RX7, "lowest", "(I)I"⟩
abbrev cX7_isDrawn : ByteArray := prog_9_method_34_code
def yX7_isDrawn : MethodName := ⟨RX7, "isDrawn", "(III)Z"⟩
abbrev cX7_light : ByteArray := prog_9_method_35_code
def yX7_light : MethodName := ⟨RX7, "light", "(IIII)I"⟩
abbrev cX7_isThere : ByteArray := prog_9_method_36_code
def yX7_isThere : MethodName := ⟨RX7, "isThere", "(II)Z"⟩
abbrev cX7_isWorse : ByteArray := prog_9_method_37_code
def yX7_isWorse : MethodName := ⟨RX7, "isWorse", "(III)Z"⟩
abbrev cX7_pay : ByteArray := prog_9_method_38_code
def yX7_pay : MethodName := ⟨RX7, "pay", "(II)I"⟩
abbrev cX7_paid : ByteArray := prog_9_method_39_code
def yX7_paid : MethodName := ⟨RX7, "paid", "(I)I"⟩
abbrev cX7_credit : ByteArray := prog_9_method_40_code
def yX7_credit : MethodName := ⟨RX7, "credit", "(I)J"⟩
abbrev cX7_give : ByteArray := prog_9_method_41_code
def yX7_give : MethodName := ⟨RX7, "give", "(I)I"⟩
abbrev cX7_lack : ByteArray := prog_9_method_42_code
def yX7_lack : MethodName := ⟨RX7, "lack", "(II)I"⟩
abbrev cX7_road : ByteArray := prog_9_method_43_code
def yX7_road : MethodName := ⟨RX7, "road", "(III)I"⟩
abbrev cX7_send : ByteArray := prog_9_method_44_code
def yX7_send : MethodName := ⟨RX7, "send", "(II)I"⟩
abbrev cX7_isAtMint : ByteArray := prog_9_method_45_code
def yX7_isAtMint : MethodName := ⟨RX7, "isAtMint", "(I)Z"⟩
abbrev cX7_bring : ByteArray := prog_9_method_46_code
def yX7_bring : MethodName := ⟨RX7, "bring", "(II)I"⟩
abbrev cX7_meltedToday : ByteArray := prog_9_method_47_code
def yX7_meltedToday : MethodName := ⟨RX7, "meltedToday", "(I)I"⟩
abbrev cX7_melt : ByteArray := prog_9_method_48_code
def yX7_melt : MethodName := ⟨RX7, "melt", "(I)I"⟩
abbrev cX7_furnace : ByteArray := prog_9_method_49_code
def yX7_furnace : MethodName := ⟨RX7, "furnace", "(II)I"⟩
abbrev cX7_refine : ByteArray := prog_9_method_50_code
def yX7_refine : MethodName := ⟨RX7, "refine", "(I)I"⟩
abbrev cX7_strike : ByteArray := prog_9_method_51_code
def yX7_strike : MethodName := ⟨RX7, "strike", "(III)I"⟩
abbrev cX7_mint : ByteArray := prog_9_method_52_code
def yX7_mint : MethodName := ⟨RX7, "mint", "(II)J"⟩
abbrev cX7_all : ByteArray := prog_9_method_53_code
def yX7_all : MethodName := ⟨RX7, "all", "()J"⟩
abbrev cX7_drawn : ByteArray := prog_9_method_54_code
def yX7_drawn : MethodName := ⟨RX7, "drawn", "(IIII)I"⟩
abbrev cX7_wish : ByteArray := prog_9_method_55_code
def yX7_wish : MethodName := ⟨RX7, "wish", "(III)I"⟩
abbrev cX7_findFar : ByteArray := prog_9_method_56_code
def yX7_findFar : MethodName := ⟨RX7, "findFar", "()V"⟩
abbrev cX7_sendOne : ByteArray := prog_9_method_57_code
def yX7_sendOne : MethodName := ⟨RX7, "sendOne", "()I"⟩
abbrev cX7_flow : ByteArray := prog_9_method_58_code
def yX7_flow : MethodName := ⟨RX7, "flow", "()I"⟩
abbrev cX7_sent : ByteArray := prog_9_method_59_code
def yX7_sent : MethodName := ⟨RX7, "sent", "()I"⟩
abbrev cX7_count : ByteArray := prog_9_method_60_code
def yX7_count : MethodName := ⟨RX7, "count", "(I)I"⟩
def RJx8e188 : String := "java/lang/Cloneable"
def TJx8e188 : u_T := fun k => match k with
  | _ => ("", "", "", false)
def tyJx8e188 : Nat → FieldType := fun k => match k with
  | _ => .int
abbrev wsJx8e1880 : List Cond := u_ws RJx8e188 TJx8e188 0
theorem nmJx8e188 : ∀ a, a < 0 → ∀ b, b < 0 → a ≠ b → (TJx8e188 a).2.1 ≠ (TJx8e188 b).2.1 := by decide +kernel
theorem tyJx8e188_ok : ∀ k, k < 0 → parseFieldDescriptor (TJx8e188 k).2.2.1 = some (tyJx8e188 k) := by decide +kernel
def RJ9 : String := "java/lang/Math"
def TJ9 : u_T := fun k => match k with
  | _ => ("", "", "", false)
def tyJ9 : Nat → FieldType := fun k => match k with
  | _ => .int
abbrev wsJ90 : List Cond := u_ws RJ9 TJ9 0
theorem nmJ9 : ∀ a, a < 0 → ∀ b, b < 0 → a ≠ b → (TJ9 a).2.1 ≠ (TJ9 b).2.1 := by decide +kernel
theorem tyJ9_ok : ∀ k, k < 0 → parseFieldDescriptor (TJ9 k).2.2.1 = some (tyJ9 k) := by decide +kernel
abbrev cJ9_max_f86c9 : ByteArray := prog_11_method_66_code
def yJ9_max_f86c9 : MethodName := ⟨RJ9, "max", "(JJ)J"⟩
abbrev cJ9_min_7cf53 : ByteArray := prog_11_method_69_code
def yJ9_min_7cf53 : MethodName := ⟨RJ9, "min", "(II)I"⟩
def RJ0 : String := "java/lang/String"
def TJ0 : u_T := fun k => match k with
  | _ => ("", "", "", false)
def tyJ0 : Nat → FieldType := fun k => match k with
  | _ => .int
abbrev wsJ00 : List Cond := u_ws RJ0 TJ0 0
theorem nmJ0 : ∀ a, a < 0 → ∀ b, b < 0 → a ≠ b → (TJ0 a).2.1 ≠ (TJ0 b).2.1 := by decide +kernel
theorem tyJ0_ok : ∀ k, k < 0 → parseFieldDescriptor (TJ0 k).2.2.1 = some (tyJ0 k) := by decide +kernel
abbrev cJ0_length_8abf5 : ByteArray := prog_12_method_54_code
def yJ0_length_8abf5 : MethodName := ⟨RJ0, "length", "()I"⟩
abbrev cJ0_charAt_5068e : ByteArray := prog_12_method_56_code
def yJ0_charAt_5068e : MethodName := ⟨RJ0, "charAt", "(I)C"⟩
abbrev cJ0_coder_7d493 : ByteArray := prog_12_method_152_code
def yJ0_coder_7d493 : MethodName := ⟨RJ0, "coder", "()B"⟩
abbrev cJ0_isLatin1_aae02 : ByteArray := prog_12_method_154_code
def yJ0_isLatin1_aae02 : MethodName := ⟨RJ0, "isLatin1", "()Z"⟩
abbrev cJ0_checkIndex_df160 : ByteArray := prog_12_method_155_code
def yJ0_checkIndex_df160 : MethodName := ⟨RJ0, "checkIndex", "(II)V"⟩
def RJ1 : String := "java/lang/StringLatin1"
def TJ1 : u_T := fun k => match k with
  | _ => ("", "", "", false)
def tyJ1 : Nat → FieldType := fun k => match k with
  | _ => .int
abbrev wsJ10 : List Cond := u_ws RJ1 TJ1 0
theorem nmJ1 : ∀ a, a < 0 → ∀ b, b < 0 → a ≠ b → (TJ1 a).2.1 ≠ (TJ1 b).2.1 := by decide +kernel
theorem tyJ1_ok : ∀ k, k < 0 → parseFieldDescriptor (TJ1 k).2.2.1 = some (tyJ1 k) := by decide +kernel
abbrev cJ1_charAt_3b067 : ByteArray := prog_13_method_2_code
def yJ1_charAt_3b067 : MethodName := ⟨RJ1, "charAt", "([BI)C"⟩
def RJ2 : String := "java/lang/StringUTF16"
def TJ2 : u_T := fun k => match k with
  | _ => ("", "", "", false)
def tyJ2 : Nat → FieldType := fun k => match k with
  | _ => .int
abbrev wsJ20 : List Cond := u_ws RJ2 TJ2 0
theorem nmJ2 : ∀ a, a < 0 → ∀ b, b < 0 → a ≠ b → (TJ2 a).2.1 ≠ (TJ2 b).2.1 := by decide +kernel
theorem tyJ2_ok : ∀ k, k < 0 → parseFieldDescriptor (TJ2 k).2.2.1 = some (tyJ2 k) := by decide +kernel
abbrev cJ2_getChar_3b067 : ByteArray := prog_14_method_5_code
def yJ2_getChar_3b067 : MethodName := ⟨RJ2, "getChar", "([BI)C"⟩
abbrev cJ2_length_9d52b : ByteArray := prog_14_method_6_code
def yJ2_length_9d52b : MethodName := ⟨RJ2, "length", "([B)I"⟩
abbrev cJ2_charAt_3b067 : ByteArray := prog_14_method_83_code
def yJ2_charAt_3b067 : MethodName := ⟨RJ2, "charAt", "([BI)C"⟩
abbrev cJ2_checkIndex_2214a : ByteArray := prog_14_method_91_code
def yJ2_checkIndex_2214a : MethodName := ⟨RJ2, "checkIndex", "(I[B)V"⟩
def RJ10 : String := "java/lang/System"
def TJ10 : u_T := fun k => match k with
  | _ => ("", "", "", false)
def tyJ10 : Nat → FieldType := fun k => match k with
  | _ => .int
abbrev wsJ100 : List Cond := u_ws RJ10 TJ10 0
theorem nmJ10 : ∀ a, a < 0 → ∀ b, b < 0 → a ≠ b → (TJ10 a).2.1 ≠ (TJ10 b).2.1 := by decide +kernel
theorem tyJ10_ok : ∀ k, k < 0 → parseFieldDescriptor (TJ10 k).2.2.1 = some (tyJ10 k) := by decide +kernel
def RJ7 : String := "java/util/Arrays"
def TJ7 : u_T := fun k => match k with
  | _ => ("", "", "", false)
def tyJ7 : Nat → FieldType := fun k => match k with
  | _ => .int
abbrev wsJ70 : List Cond := u_ws RJ7 TJ7 0
theorem nmJ7 : ∀ a, a < 0 → ∀ b, b < 0 → a ≠ b → (TJ7 a).2.1 ≠ (TJ7 b).2.1 := by decide +kernel
theorem tyJ7_ok : ∀ k, k < 0 → parseFieldDescriptor (TJ7 k).2.2.1 = some (tyJ7 k) := by decide +kernel
abbrev cJ7_fill_53178 : ByteArray := prog_16_method_103_code
def yJ7_fill_53178 : MethodName := ⟨RJ7, "fill", "([II)V"⟩
abbrev cJ7_copyOf_59c91 : ByteArray := prog_16_method_123_code
def yJ7_copyOf_59c91 : MethodName := ⟨RJ7, "copyOf", "([II)[I"⟩
def RJ3 : String := "jdk/internal/util/Preconditions"
def TJ3 : u_T := fun k => match k with
  | _ => ("", "", "", false)
def tyJ3 : Nat → FieldType := fun k => match k with
  | _ => .int
abbrev wsJ30 : List Cond := u_ws RJ3 TJ3 0
theorem nmJ3 : ∀ a, a < 0 → ∀ b, b < 0 → a ≠ b → (TJ3 a).2.1 ≠ (TJ3 b).2.1 := by decide +kernel
theorem tyJ3_ok : ∀ k, k < 0 → parseFieldDescriptor (TJ3 k).2.2.1 = some (tyJ3 k) := by decide +kernel
abbrev cJ3_checkIndex_8e157 : ByteArray := prog_17_method_11_code
def yJ3_checkIndex_8e157 : MethodName := ⟨RJ3, "checkIndex", "(IILjava/util/function/BiFunction;)I"⟩
def RL : String := "NewSilverLaw"
abbrev cL_law : ByteArray := code
def yL_law : MethodName := ⟨RL, "law", "([I)Z"⟩
abbrev vwCl : List vw_C := [(RX0, TX0, 7), (RX1, TX1, 12), (RX2, TX2, 3), (RX3, TX3, 9), (RX4, TX4, 4), (RX5, TX5, 5), (RX6, TX6, 17), (RX7, TX7, 49)]
-- ===== what the tables say of a field's use: own class, pool number, class number, slot, type, final =====
def h_FL (own : String) (idx ci k : Nat) (ty : FieldType) (fin : Bool) : Prop := ∃ (C : String) (T : u_T) (N : Nat), vwCl[ci]? = some (C, T, N) ∧ k < N ∧ (T k).1 = C ∧ (T k).2.2.2 = fin ∧ parseFieldDescriptor (T k).2.2.1 = some ty ∧ Cond.fieldLink own idx C (T k).2.1 (T k).2.2.1 ∈ lw_tbl
theorem flX5_9 : h_FL RX5 9 5 0 (.array .int) true := ⟨_, _, _, rfl, by decide, rfl, rfl, by decide +kernel, List.mem_of_getElem? (i := 85) (by decide +kernel)⟩
theorem flX6_193 : h_FL RX6 193 5 0 (.array .int) true := ⟨_, _, _, rfl, by decide, rfl, rfl, by decide +kernel, List.mem_of_getElem? (i := 86) (by decide +kernel)⟩
theorem flX5_15 : h_FL RX5 15 5 1 (.array .int) true := ⟨_, _, _, rfl, by decide, rfl, rfl, by decide +kernel, List.mem_of_getElem? (i := 87) (by decide +kernel)⟩
theorem flX6_196 : h_FL RX6 196 5 1 (.array .int) true := ⟨_, _, _, rfl, by decide, rfl, rfl, by decide +kernel, List.mem_of_getElem? (i := 88) (by decide +kernel)⟩
theorem flX5_22 : h_FL RX5 22 5 2 .int false := ⟨_, _, _, rfl, by decide, rfl, rfl, by decide +kernel, List.mem_of_getElem? (i := 89) (by decide +kernel)⟩
theorem flX6_183 : h_FL RX6 183 5 2 .int false := ⟨_, _, _, rfl, by decide, rfl, rfl, by decide +kernel, List.mem_of_getElem? (i := 90) (by decide +kernel)⟩
theorem flX5_18 : h_FL RX5 18 5 3 (.array .byte) true := ⟨_, _, _, rfl, by decide, rfl, rfl, by decide +kernel, List.mem_of_getElem? (i := 91) (by decide +kernel)⟩
theorem flX5_26 : h_FL RX5 26 5 4 .int false := ⟨_, _, _, rfl, by decide, rfl, rfl, by decide +kernel, List.mem_of_getElem? (i := 92) (by decide +kernel)⟩
theorem flX0_9 : h_FL RX0 9 0 0 (.array .int) true := ⟨_, _, _, rfl, by decide, rfl, rfl, by decide +kernel, List.mem_of_getElem? (i := 114) (by decide +kernel)⟩
theorem flX0_15 : h_FL RX0 15 0 1 (.array .int) true := ⟨_, _, _, rfl, by decide, rfl, rfl, by decide +kernel, List.mem_of_getElem? (i := 115) (by decide +kernel)⟩
theorem flX0_18 : h_FL RX0 18 0 2 (.array .int) true := ⟨_, _, _, rfl, by decide, rfl, rfl, by decide +kernel, List.mem_of_getElem? (i := 116) (by decide +kernel)⟩
theorem flX0_21 : h_FL RX0 21 0 3 (.array .int) true := ⟨_, _, _, rfl, by decide, rfl, rfl, by decide +kernel, List.mem_of_getElem? (i := 117) (by decide +kernel)⟩
theorem flX0_24 : h_FL RX0 24 0 4 (.array .int) true := ⟨_, _, _, rfl, by decide, rfl, rfl, by decide +kernel, List.mem_of_getElem? (i := 118) (by decide +kernel)⟩
theorem flX0_27 : h_FL RX0 27 0 5 (.array .int) true := ⟨_, _, _, rfl, by decide, rfl, rfl, by decide +kernel, List.mem_of_getElem? (i := 119) (by decide +kernel)⟩
theorem flX0_30 : h_FL RX0 30 0 6 (.array .int) true := ⟨_, _, _, rfl, by decide, rfl, rfl, by decide +kernel, List.mem_of_getElem? (i := 120) (by decide +kernel)⟩
theorem flX3_26 : h_FL RX3 26 3 0 .long false := ⟨_, _, _, rfl, by decide, rfl, rfl, by decide +kernel, List.mem_of_getElem? (i := 146) (by decide +kernel)⟩
theorem flX6_268 : h_FL RX6 268 3 0 .long false := ⟨_, _, _, rfl, by decide, rfl, rfl, by decide +kernel, List.mem_of_getElem? (i := 147) (by decide +kernel)⟩
theorem flX3_30 : h_FL RX3 30 3 1 .long false := ⟨_, _, _, rfl, by decide, rfl, rfl, by decide +kernel, List.mem_of_getElem? (i := 148) (by decide +kernel)⟩
theorem flX6_280 : h_FL RX6 280 3 1 .long false := ⟨_, _, _, rfl, by decide, rfl, rfl, by decide +kernel, List.mem_of_getElem? (i := 149) (by decide +kernel)⟩
theorem flX3_33 : h_FL RX3 33 3 2 .boolean false := ⟨_, _, _, rfl, by decide, rfl, rfl, by decide +kernel, List.mem_of_getElem? (i := 150) (by decide +kernel)⟩
theorem flX6_274 : h_FL RX6 274 3 2 .boolean false := ⟨_, _, _, rfl, by decide, rfl, rfl, by decide +kernel, List.mem_of_getElem? (i := 151) (by decide +kernel)⟩
theorem flX3_39 : h_FL RX3 39 3 3 .long false := ⟨_, _, _, rfl, by decide, rfl, rfl, by decide +kernel, List.mem_of_getElem? (i := 152) (by decide +kernel)⟩
theorem flX6_283 : h_FL RX6 283 3 3 .long false := ⟨_, _, _, rfl, by decide, rfl, rfl, by decide +kernel, List.mem_of_getElem? (i := 153) (by decide +kernel)⟩
theorem flX3_46 : h_FL RX3 46 3 4 .long false := ⟨_, _, _, rfl, by decide, rfl, rfl, by decide +kernel, List.mem_of_getElem? (i := 154) (by decide +kernel)⟩
theorem flX6_286 : h_FL RX6 286 3 4 .long false := ⟨_, _, _, rfl, by decide, rfl, rfl, by decide +kernel, List.mem_of_getElem? (i := 155) (by decide +kernel)⟩
theorem flX3_51 : h_FL RX3 51 3 5 .long false := ⟨_, _, _, rfl, by decide, rfl, rfl, by decide +kernel, List.mem_of_getElem? (i := 156) (by decide +kernel)⟩
theorem flX6_291 : h_FL RX6 291 3 5 .long false := ⟨_, _, _, rfl, by decide, rfl, rfl, by decide +kernel, List.mem_of_getElem? (i := 157) (by decide +kernel)⟩
theorem flX3_10 : h_FL RX3 10 3 6 .int false := ⟨_, _, _, rfl, by decide, rfl, rfl, by decide +kernel, List.mem_of_getElem? (i := 158) (by decide +kernel)⟩
theorem flX6_258 : h_FL RX6 258 3 6 .int false := ⟨_, _, _, rfl, by decide, rfl, rfl, by decide +kernel, List.mem_of_getElem? (i := 159) (by decide +kernel)⟩
theorem flX3_19 : h_FL RX3 19 3 7 .int false := ⟨_, _, _, rfl, by decide, rfl, rfl, by decide +kernel, List.mem_of_getElem? (i := 160) (by decide +kernel)⟩
theorem flX3_16 : h_FL RX3 16 3 8 .int false := ⟨_, _, _, rfl, by decide, rfl, rfl, by decide +kernel, List.mem_of_getElem? (i := 161) (by decide +kernel)⟩
theorem flX6_11 : h_FL RX6 11 6 0 (.array (.object "NewSilver$Sort")) true := ⟨_, _, _, rfl, by decide, rfl, rfl, by decide +kernel, List.mem_of_getElem? (i := 181) (by decide +kernel)⟩
theorem flX6_78 : h_FL RX6 78 6 1 .int false := ⟨_, _, _, rfl, by decide, rfl, rfl, by decide +kernel, List.mem_of_getElem? (i := 182) (by decide +kernel)⟩
theorem flX6_17 : h_FL RX6 17 6 2 (.array (.object "NewSilver$Lot")) true := ⟨_, _, _, rfl, by decide, rfl, rfl, by decide +kernel, List.mem_of_getElem? (i := 183) (by decide +kernel)⟩
theorem flX6_97 : h_FL RX6 97 6 3 .int false := ⟨_, _, _, rfl, by decide, rfl, rfl, by decide +kernel, List.mem_of_getElem? (i := 184) (by decide +kernel)⟩
theorem flX6_23 : h_FL RX6 23 6 4 (.array (.object "NewSilver$Order")) true := ⟨_, _, _, rfl, by decide, rfl, rfl, by decide +kernel, List.mem_of_getElem? (i := 185) (by decide +kernel)⟩
theorem flX6_186 : h_FL RX6 186 6 5 .int false := ⟨_, _, _, rfl, by decide, rfl, rfl, by decide +kernel, List.mem_of_getElem? (i := 186) (by decide +kernel)⟩
theorem flX6_30 : h_FL RX6 30 6 6 (.object "NewSilver$Tape") true := ⟨_, _, _, rfl, by decide, rfl, rfl, by decide +kernel, List.mem_of_getElem? (i := 187) (by decide +kernel)⟩
theorem flX6_36 : h_FL RX6 36 6 7 (.array (.object "NewSilver$Pot")) true := ⟨_, _, _, rfl, by decide, rfl, rfl, by decide +kernel, List.mem_of_getElem? (i := 188) (by decide +kernel)⟩
theorem flX6_40 : h_FL RX6 40 6 8 (.array .int) true := ⟨_, _, _, rfl, by decide, rfl, rfl, by decide +kernel, List.mem_of_getElem? (i := 189) (by decide +kernel)⟩
theorem flX6_44 : h_FL RX6 44 6 9 (.array .long) true := ⟨_, _, _, rfl, by decide, rfl, rfl, by decide +kernel, List.mem_of_getElem? (i := 190) (by decide +kernel)⟩
theorem flX6_48 : h_FL RX6 48 6 10 (.array .int) true := ⟨_, _, _, rfl, by decide, rfl, rfl, by decide +kernel, List.mem_of_getElem? (i := 191) (by decide +kernel)⟩
theorem flX6_230 : h_FL RX6 230 6 11 .int false := ⟨_, _, _, rfl, by decide, rfl, rfl, by decide +kernel, List.mem_of_getElem? (i := 192) (by decide +kernel)⟩
theorem flX6_51 : h_FL RX6 51 6 12 (.array .int) true := ⟨_, _, _, rfl, by decide, rfl, rfl, by decide +kernel, List.mem_of_getElem? (i := 193) (by decide +kernel)⟩
theorem flX6_54 : h_FL RX6 54 6 13 (.array .int) true := ⟨_, _, _, rfl, by decide, rfl, rfl, by decide +kernel, List.mem_of_getElem? (i := 194) (by decide +kernel)⟩
theorem flX6_57 : h_FL RX6 57 6 14 (.array .int) true := ⟨_, _, _, rfl, by decide, rfl, rfl, by decide +kernel, List.mem_of_getElem? (i := 195) (by decide +kernel)⟩
theorem flX6_63 : h_FL RX6 63 6 15 (.object "NewSilver$Carrier") true := ⟨_, _, _, rfl, by decide, rfl, rfl, by decide +kernel, List.mem_of_getElem? (i := 196) (by decide +kernel)⟩
theorem flX6_154 : h_FL RX6 154 6 16 .int false := ⟨_, _, _, rfl, by decide, rfl, rfl, by decide +kernel, List.mem_of_getElem? (i := 197) (by decide +kernel)⟩
theorem flX4_9 : h_FL RX4 9 4 0 .int true := ⟨_, _, _, rfl, by decide, rfl, rfl, by decide +kernel, List.mem_of_getElem? (i := 245) (by decide +kernel)⟩
theorem flX6_134 : h_FL RX6 134 4 0 .int true := ⟨_, _, _, rfl, by decide, rfl, rfl, by decide +kernel, List.mem_of_getElem? (i := 246) (by decide +kernel)⟩
theorem flX4_15 : h_FL RX4 15 4 1 .int true := ⟨_, _, _, rfl, by decide, rfl, rfl, by decide +kernel, List.mem_of_getElem? (i := 247) (by decide +kernel)⟩
theorem flX6_127 : h_FL RX6 127 4 1 .int true := ⟨_, _, _, rfl, by decide, rfl, rfl, by decide +kernel, List.mem_of_getElem? (i := 248) (by decide +kernel)⟩
theorem flX1_54 : h_FL RX1 54 4 1 .int true := ⟨_, _, _, rfl, by decide, rfl, rfl, by decide +kernel, List.mem_of_getElem? (i := 249) (by decide +kernel)⟩
theorem flX4_18 : h_FL RX4 18 4 2 .int true := ⟨_, _, _, rfl, by decide, rfl, rfl, by decide +kernel, List.mem_of_getElem? (i := 250) (by decide +kernel)⟩
theorem flX6_103 : h_FL RX6 103 4 2 .int true := ⟨_, _, _, rfl, by decide, rfl, rfl, by decide +kernel, List.mem_of_getElem? (i := 251) (by decide +kernel)⟩
theorem flX4_21 : h_FL RX4 21 4 3 .int true := ⟨_, _, _, rfl, by decide, rfl, rfl, by decide +kernel, List.mem_of_getElem? (i := 252) (by decide +kernel)⟩
theorem flX6_321 : h_FL RX6 321 4 3 .int true := ⟨_, _, _, rfl, by decide, rfl, rfl, by decide +kernel, List.mem_of_getElem? (i := 253) (by decide +kernel)⟩
theorem flX1_21 : h_FL RX1 21 1 0 .int true := ⟨_, _, _, rfl, by decide, rfl, rfl, by decide +kernel, List.mem_of_getElem? (i := 290) (by decide +kernel)⟩
theorem flX6_147 : h_FL RX6 147 1 0 .int true := ⟨_, _, _, rfl, by decide, rfl, rfl, by decide +kernel, List.mem_of_getElem? (i := 291) (by decide +kernel)⟩
theorem flX1_24 : h_FL RX1 24 1 1 (.object "NewSilver$Sort") true := ⟨_, _, _, rfl, by decide, rfl, rfl, by decide +kernel, List.mem_of_getElem? (i := 292) (by decide +kernel)⟩
theorem flX6_123 : h_FL RX6 123 1 1 (.object "NewSilver$Sort") true := ⟨_, _, _, rfl, by decide, rfl, rfl, by decide +kernel, List.mem_of_getElem? (i := 293) (by decide +kernel)⟩
theorem flX1_28 : h_FL RX1 28 1 2 .int true := ⟨_, _, _, rfl, by decide, rfl, rfl, by decide +kernel, List.mem_of_getElem? (i := 294) (by decide +kernel)⟩
theorem flX6_120 : h_FL RX6 120 1 2 .int true := ⟨_, _, _, rfl, by decide, rfl, rfl, by decide +kernel, List.mem_of_getElem? (i := 295) (by decide +kernel)⟩
theorem flX1_34 : h_FL RX1 34 1 3 .int true := ⟨_, _, _, rfl, by decide, rfl, rfl, by decide +kernel, List.mem_of_getElem? (i := 296) (by decide +kernel)⟩
theorem flX6_150 : h_FL RX6 150 1 3 .int true := ⟨_, _, _, rfl, by decide, rfl, rfl, by decide +kernel, List.mem_of_getElem? (i := 297) (by decide +kernel)⟩
theorem flX1_18 : h_FL RX1 18 1 4 .int false := ⟨_, _, _, rfl, by decide, rfl, rfl, by decide +kernel, List.mem_of_getElem? (i := 298) (by decide +kernel)⟩
theorem flX6_137 : h_FL RX6 137 1 4 .int false := ⟨_, _, _, rfl, by decide, rfl, rfl, by decide +kernel, List.mem_of_getElem? (i := 299) (by decide +kernel)⟩
theorem flX1_31 : h_FL RX1 31 1 5 .int false := ⟨_, _, _, rfl, by decide, rfl, rfl, by decide +kernel, List.mem_of_getElem? (i := 300) (by decide +kernel)⟩
theorem flX6_140 : h_FL RX6 140 1 5 .int false := ⟨_, _, _, rfl, by decide, rfl, rfl, by decide +kernel, List.mem_of_getElem? (i := 301) (by decide +kernel)⟩
theorem flX1_9 : h_FL RX1 9 1 6 .int false := ⟨_, _, _, rfl, by decide, rfl, rfl, by decide +kernel, List.mem_of_getElem? (i := 302) (by decide +kernel)⟩
theorem flX6_109 : h_FL RX6 109 1 6 .int false := ⟨_, _, _, rfl, by decide, rfl, rfl, by decide +kernel, List.mem_of_getElem? (i := 303) (by decide +kernel)⟩
theorem flX1_15 : h_FL RX1 15 1 7 .int false := ⟨_, _, _, rfl, by decide, rfl, rfl, by decide +kernel, List.mem_of_getElem? (i := 304) (by decide +kernel)⟩
theorem flX6_151 : h_FL RX6 151 1 7 .int false := ⟨_, _, _, rfl, by decide, rfl, rfl, by decide +kernel, List.mem_of_getElem? (i := 305) (by decide +kernel)⟩
theorem flX1_41 : h_FL RX1 41 1 8 .int false := ⟨_, _, _, rfl, by decide, rfl, rfl, by decide +kernel, List.mem_of_getElem? (i := 306) (by decide +kernel)⟩
theorem flX6_160 : h_FL RX6 160 1 8 .int false := ⟨_, _, _, rfl, by decide, rfl, rfl, by decide +kernel, List.mem_of_getElem? (i := 307) (by decide +kernel)⟩
theorem flX1_37 : h_FL RX1 37 1 9 .boolean false := ⟨_, _, _, rfl, by decide, rfl, rfl, by decide +kernel, List.mem_of_getElem? (i := 308) (by decide +kernel)⟩
theorem flX6_163 : h_FL RX6 163 1 9 .boolean false := ⟨_, _, _, rfl, by decide, rfl, rfl, by decide +kernel, List.mem_of_getElem? (i := 309) (by decide +kernel)⟩
theorem flX6_167 : h_FL RX6 167 1 10 .boolean false := ⟨_, _, _, rfl, by decide, rfl, rfl, by decide +kernel, List.mem_of_getElem? (i := 310) (by decide +kernel)⟩
theorem flX6_170 : h_FL RX6 170 1 11 .boolean false := ⟨_, _, _, rfl, by decide, rfl, rfl, by decide +kernel, List.mem_of_getElem? (i := 311) (by decide +kernel)⟩
theorem flX2_21 : h_FL RX2 21 2 0 (.array .int) true := ⟨_, _, _, rfl, by decide, rfl, rfl, by decide +kernel, List.mem_of_getElem? (i := 497) (by decide +kernel)⟩
theorem flX6_320 : h_FL RX6 320 2 0 (.array .int) true := ⟨_, _, _, rfl, by decide, rfl, rfl, by decide +kernel, List.mem_of_getElem? (i := 498) (by decide +kernel)⟩
theorem flX2_24 : h_FL RX2 24 2 1 (.array .int) true := ⟨_, _, _, rfl, by decide, rfl, rfl, by decide +kernel, List.mem_of_getElem? (i := 499) (by decide +kernel)⟩
theorem flX6_224 : h_FL RX6 224 2 1 (.array .int) true := ⟨_, _, _, rfl, by decide, rfl, rfl, by decide +kernel, List.mem_of_getElem? (i := 500) (by decide +kernel)⟩
theorem flX2_9 : h_FL RX2 9 2 2 (.array .int) true := ⟨_, _, _, rfl, by decide, rfl, rfl, by decide +kernel, List.mem_of_getElem? (i := 501) (by decide +kernel)⟩
theorem flX6_206 : h_FL RX6 206 2 2 (.array .int) true := ⟨_, _, _, rfl, by decide, rfl, rfl, by decide +kernel, List.mem_of_getElem? (i := 502) (by decide +kernel)⟩
theorem flX7_135 : h_FL RX7 135 7 1 .int false := ⟨_, _, _, rfl, by decide, rfl, rfl, by decide +kernel, List.mem_of_getElem? (i := 736) (by decide +kernel)⟩
theorem flX7_7 : h_FL RX7 7 7 2 (.array .int) true := ⟨_, _, _, rfl, by decide, rfl, rfl, by decide +kernel, List.mem_of_getElem? (i := 737) (by decide +kernel)⟩
theorem flX7_13 : h_FL RX7 13 7 3 (.array .int) true := ⟨_, _, _, rfl, by decide, rfl, rfl, by decide +kernel, List.mem_of_getElem? (i := 738) (by decide +kernel)⟩
theorem flX7_16 : h_FL RX7 16 7 4 (.array .int) true := ⟨_, _, _, rfl, by decide, rfl, rfl, by decide +kernel, List.mem_of_getElem? (i := 739) (by decide +kernel)⟩
theorem flX7_19 : h_FL RX7 19 7 5 (.array .int) true := ⟨_, _, _, rfl, by decide, rfl, rfl, by decide +kernel, List.mem_of_getElem? (i := 740) (by decide +kernel)⟩
theorem flX7_167 : h_FL RX7 167 7 6 .int false := ⟨_, _, _, rfl, by decide, rfl, rfl, by decide +kernel, List.mem_of_getElem? (i := 741) (by decide +kernel)⟩
theorem flX7_142 : h_FL RX7 142 7 7 .int false := ⟨_, _, _, rfl, by decide, rfl, rfl, by decide +kernel, List.mem_of_getElem? (i := 742) (by decide +kernel)⟩
theorem flX7_22 : h_FL RX7 22 7 8 (.array .int) true := ⟨_, _, _, rfl, by decide, rfl, rfl, by decide +kernel, List.mem_of_getElem? (i := 743) (by decide +kernel)⟩
theorem flX7_25 : h_FL RX7 25 7 9 (.array .int) true := ⟨_, _, _, rfl, by decide, rfl, rfl, by decide +kernel, List.mem_of_getElem? (i := 744) (by decide +kernel)⟩
theorem flX7_28 : h_FL RX7 28 7 10 (.array .int) true := ⟨_, _, _, rfl, by decide, rfl, rfl, by decide +kernel, List.mem_of_getElem? (i := 745) (by decide +kernel)⟩
theorem flX7_31 : h_FL RX7 31 7 11 (.array .int) true := ⟨_, _, _, rfl, by decide, rfl, rfl, by decide +kernel, List.mem_of_getElem? (i := 746) (by decide +kernel)⟩
theorem flX7_34 : h_FL RX7 34 7 12 (.array .int) true := ⟨_, _, _, rfl, by decide, rfl, rfl, by decide +kernel, List.mem_of_getElem? (i := 747) (by decide +kernel)⟩
theorem flX7_37 : h_FL RX7 37 7 13 (.array .int) true := ⟨_, _, _, rfl, by decide, rfl, rfl, by decide +kernel, List.mem_of_getElem? (i := 748) (by decide +kernel)⟩
theorem flX7_40 : h_FL RX7 40 7 14 (.array .int) true := ⟨_, _, _, rfl, by decide, rfl, rfl, by decide +kernel, List.mem_of_getElem? (i := 749) (by decide +kernel)⟩
theorem flX7_43 : h_FL RX7 43 7 15 (.array .int) true := ⟨_, _, _, rfl, by decide, rfl, rfl, by decide +kernel, List.mem_of_getElem? (i := 750) (by decide +kernel)⟩
theorem flX7_46 : h_FL RX7 46 7 16 (.array .boolean) true := ⟨_, _, _, rfl, by decide, rfl, rfl, by decide +kernel, List.mem_of_getElem? (i := 751) (by decide +kernel)⟩
theorem flX7_50 : h_FL RX7 50 7 17 (.array .boolean) true := ⟨_, _, _, rfl, by decide, rfl, rfl, by decide +kernel, List.mem_of_getElem? (i := 752) (by decide +kernel)⟩
theorem flX7_53 : h_FL RX7 53 7 18 (.array .boolean) true := ⟨_, _, _, rfl, by decide, rfl, rfl, by decide +kernel, List.mem_of_getElem? (i := 753) (by decide +kernel)⟩
theorem flX7_56 : h_FL RX7 56 7 19 (.array .byte) true := ⟨_, _, _, rfl, by decide, rfl, rfl, by decide +kernel, List.mem_of_getElem? (i := 754) (by decide +kernel)⟩
theorem flX7_179 : h_FL RX7 179 7 20 .int false := ⟨_, _, _, rfl, by decide, rfl, rfl, by decide +kernel, List.mem_of_getElem? (i := 755) (by decide +kernel)⟩
theorem flX7_205 : h_FL RX7 205 7 21 .int false := ⟨_, _, _, rfl, by decide, rfl, rfl, by decide +kernel, List.mem_of_getElem? (i := 756) (by decide +kernel)⟩
theorem flX7_60 : h_FL RX7 60 7 22 (.array .int) true := ⟨_, _, _, rfl, by decide, rfl, rfl, by decide +kernel, List.mem_of_getElem? (i := 757) (by decide +kernel)⟩
theorem flX7_63 : h_FL RX7 63 7 23 (.array .int) true := ⟨_, _, _, rfl, by decide, rfl, rfl, by decide +kernel, List.mem_of_getElem? (i := 758) (by decide +kernel)⟩
theorem flX7_66 : h_FL RX7 66 7 24 (.array .int) true := ⟨_, _, _, rfl, by decide, rfl, rfl, by decide +kernel, List.mem_of_getElem? (i := 759) (by decide +kernel)⟩
theorem flX7_69 : h_FL RX7 69 7 25 (.array .int) true := ⟨_, _, _, rfl, by decide, rfl, rfl, by decide +kernel, List.mem_of_getElem? (i := 760) (by decide +kernel)⟩
theorem flX7_182 : h_FL RX7 182 7 26 .int false := ⟨_, _, _, rfl, by decide, rfl, rfl, by decide +kernel, List.mem_of_getElem? (i := 761) (by decide +kernel)⟩
theorem flX7_188 : h_FL RX7 188 7 27 .int false := ⟨_, _, _, rfl, by decide, rfl, rfl, by decide +kernel, List.mem_of_getElem? (i := 762) (by decide +kernel)⟩
theorem flX7_72 : h_FL RX7 72 7 28 (.array .long) true := ⟨_, _, _, rfl, by decide, rfl, rfl, by decide +kernel, List.mem_of_getElem? (i := 763) (by decide +kernel)⟩
theorem flX7_235 : h_FL RX7 235 7 29 .int false := ⟨_, _, _, rfl, by decide, rfl, rfl, by decide +kernel, List.mem_of_getElem? (i := 764) (by decide +kernel)⟩
theorem flX7_76 : h_FL RX7 76 7 30 (.array .int) true := ⟨_, _, _, rfl, by decide, rfl, rfl, by decide +kernel, List.mem_of_getElem? (i := 765) (by decide +kernel)⟩
theorem flX7_79 : h_FL RX7 79 7 31 (.array .int) true := ⟨_, _, _, rfl, by decide, rfl, rfl, by decide +kernel, List.mem_of_getElem? (i := 766) (by decide +kernel)⟩
theorem flX7_82 : h_FL RX7 82 7 32 (.array .int) true := ⟨_, _, _, rfl, by decide, rfl, rfl, by decide +kernel, List.mem_of_getElem? (i := 767) (by decide +kernel)⟩
theorem flX7_85 : h_FL RX7 85 7 33 (.array .long) true := ⟨_, _, _, rfl, by decide, rfl, rfl, by decide +kernel, List.mem_of_getElem? (i := 768) (by decide +kernel)⟩
theorem flX7_88 : h_FL RX7 88 7 34 (.array .long) true := ⟨_, _, _, rfl, by decide, rfl, rfl, by decide +kernel, List.mem_of_getElem? (i := 769) (by decide +kernel)⟩
theorem flX7_91 : h_FL RX7 91 7 35 (.array .boolean) true := ⟨_, _, _, rfl, by decide, rfl, rfl, by decide +kernel, List.mem_of_getElem? (i := 770) (by decide +kernel)⟩
theorem flX7_94 : h_FL RX7 94 7 36 (.array .long) true := ⟨_, _, _, rfl, by decide, rfl, rfl, by decide +kernel, List.mem_of_getElem? (i := 771) (by decide +kernel)⟩
theorem flX7_97 : h_FL RX7 97 7 37 (.array .long) true := ⟨_, _, _, rfl, by decide, rfl, rfl, by decide +kernel, List.mem_of_getElem? (i := 772) (by decide +kernel)⟩
theorem flX7_101 : h_FL RX7 101 7 38 (.array .int) true := ⟨_, _, _, rfl, by decide, rfl, rfl, by decide +kernel, List.mem_of_getElem? (i := 773) (by decide +kernel)⟩
theorem flX7_104 : h_FL RX7 104 7 39 (.array .int) true := ⟨_, _, _, rfl, by decide, rfl, rfl, by decide +kernel, List.mem_of_getElem? (i := 774) (by decide +kernel)⟩
theorem flX7_107 : h_FL RX7 107 7 40 (.array .int) true := ⟨_, _, _, rfl, by decide, rfl, rfl, by decide +kernel, List.mem_of_getElem? (i := 775) (by decide +kernel)⟩
theorem flX7_253 : h_FL RX7 253 7 41 .long false := ⟨_, _, _, rfl, by decide, rfl, rfl, by decide +kernel, List.mem_of_getElem? (i := 776) (by decide +kernel)⟩
theorem flX7_110 : h_FL RX7 110 7 42 (.array .int) true := ⟨_, _, _, rfl, by decide, rfl, rfl, by decide +kernel, List.mem_of_getElem? (i := 777) (by decide +kernel)⟩
theorem flX7_113 : h_FL RX7 113 7 43 (.array .int) true := ⟨_, _, _, rfl, by decide, rfl, rfl, by decide +kernel, List.mem_of_getElem? (i := 778) (by decide +kernel)⟩
theorem flX7_116 : h_FL RX7 116 7 44 (.array .int) true := ⟨_, _, _, rfl, by decide, rfl, rfl, by decide +kernel, List.mem_of_getElem? (i := 779) (by decide +kernel)⟩
theorem flX7_119 : h_FL RX7 119 7 45 (.array .int) true := ⟨_, _, _, rfl, by decide, rfl, rfl, by decide +kernel, List.mem_of_getElem? (i := 780) (by decide +kernel)⟩
theorem flX7_122 : h_FL RX7 122 7 46 (.array .int) true := ⟨_, _, _, rfl, by decide, rfl, rfl, by decide +kernel, List.mem_of_getElem? (i := 781) (by decide +kernel)⟩
theorem flX7_125 : h_FL RX7 125 7 47 (.array .int) true := ⟨_, _, _, rfl, by decide, rfl, rfl, by decide +kernel, List.mem_of_getElem? (i := 782) (by decide +kernel)⟩
theorem flX7_128 : h_FL RX7 128 7 48 (.array .int) true := ⟨_, _, _, rfl, by decide, rfl, rfl, by decide +kernel, List.mem_of_getElem? (i := 783) (by decide +kernel)⟩
-- ===== the classes of the world =====
def h_CK (C : String) (T : u_T) (N : Nat) : Prop := (∀ w ∈ u_ws C T N, w ∈ lw_tbl) ∧ (∃ ty : Nat → FieldType, ∀ k, k < N → parseFieldDescriptor (T k).2.2.1 = some (ty k)) ∧ (∀ a, a < N → ∀ b, b < N → a ≠ b → (T a).2.1 ≠ (T b).2.1) ∧ Cond.instantiable C N ∈ lw_tbl ∧ Cond.initialized C ∈ lw_tbl
theorem ckwX0 : u_ws RX0 TX0 7 = ([121, 123, 125, 127, 129, 131, 133] : List Nat).filterMap (fun i => lw_tbl[i]?) := by decide +kernel
theorem ckX0 : h_CK RX0 TX0 7 := ⟨fun w h => by rw [ckwX0] at h; obtain ⟨i, -, hi⟩ := List.mem_filterMap.mp h; exact List.mem_of_getElem? hi, ⟨tyX0, tyX0_ok⟩, nmX0, List.mem_of_getElem? (i := 109) (by decide +kernel), List.mem_of_getElem? (i := 52) (by decide +kernel)⟩
theorem ckwX1 : u_ws RX1 TX1 12 = ([312, 314, 316, 318, 320, 322, 324, 326, 328, 330, 332, 334] : List Nat).filterMap (fun i => lw_tbl[i]?) := by decide +kernel
theorem ckX1 : h_CK RX1 TX1 12 := ⟨fun w h => by rw [ckwX1] at h; obtain ⟨i, -, hi⟩ := List.mem_filterMap.mp h; exact List.mem_of_getElem? hi, ⟨tyX1, tyX1_ok⟩, nmX1, List.mem_of_getElem? (i := 285) (by decide +kernel), List.mem_of_getElem? (i := 57) (by decide +kernel)⟩
theorem ckwX2 : u_ws RX2 TX2 3 = ([503, 505, 507] : List Nat).filterMap (fun i => lw_tbl[i]?) := by decide +kernel
theorem ckX2 : h_CK RX2 TX2 3 := ⟨fun w h => by rw [ckwX2] at h; obtain ⟨i, -, hi⟩ := List.mem_filterMap.mp h; exact List.mem_of_getElem? hi, ⟨tyX2, tyX2_ok⟩, nmX2, List.mem_of_getElem? (i := 475) (by decide +kernel), List.mem_of_getElem? (i := 62) (by decide +kernel)⟩
theorem ckwX3 : u_ws RX3 TX3 9 = ([162, 164, 166, 168, 170, 172, 174, 176, 178] : List Nat).filterMap (fun i => lw_tbl[i]?) := by decide +kernel
theorem ckX3 : h_CK RX3 TX3 9 := ⟨fun w h => by rw [ckwX3] at h; obtain ⟨i, -, hi⟩ := List.mem_filterMap.mp h; exact List.mem_of_getElem? hi, ⟨tyX3, tyX3_ok⟩, nmX3, List.mem_of_getElem? (i := 140) (by decide +kernel), List.mem_of_getElem? (i := 54) (by decide +kernel)⟩
theorem ckwX4 : u_ws RX4 TX4 4 = ([254, 256, 258, 260] : List Nat).filterMap (fun i => lw_tbl[i]?) := by decide +kernel
theorem ckX4 : h_CK RX4 TX4 4 := ⟨fun w h => by rw [ckwX4] at h; obtain ⟨i, -, hi⟩ := List.mem_filterMap.mp h; exact List.mem_of_getElem? hi, ⟨tyX4, tyX4_ok⟩, nmX4, List.mem_of_getElem? (i := 240) (by decide +kernel), List.mem_of_getElem? (i := 56) (by decide +kernel)⟩
theorem ckwX5 : u_ws RX5 TX5 5 = ([93, 95, 97, 99, 101] : List Nat).filterMap (fun i => lw_tbl[i]?) := by decide +kernel
theorem ckX5 : h_CK RX5 TX5 5 := ⟨fun w h => by rw [ckwX5] at h; obtain ⟨i, -, hi⟩ := List.mem_filterMap.mp h; exact List.mem_of_getElem? hi, ⟨tyX5, tyX5_ok⟩, nmX5, List.mem_of_getElem? (i := 80) (by decide +kernel), List.mem_of_getElem? (i := 51) (by decide +kernel)⟩
theorem ckwX6 : u_ws RX6 TX6 17 = ([198, 200, 202, 204, 206, 208, 210, 212, 214, 216, 218, 220, 222, 224, 226, 228, 230] : List Nat).filterMap (fun i => lw_tbl[i]?) := by decide +kernel
theorem ckX6 : h_CK RX6 TX6 17 := ⟨fun w h => by rw [ckwX6] at h; obtain ⟨i, -, hi⟩ := List.mem_filterMap.mp h; exact List.mem_of_getElem? hi, ⟨tyX6, tyX6_ok⟩, nmX6, List.mem_of_getElem? (i := 66) (by decide +kernel), List.mem_of_getElem? (i := 50) (by decide +kernel)⟩
theorem ckwX7 : u_ws RX7 TX7 49 = ([784, 786, 788, 790, 792, 794, 796, 798, 800, 802, 804, 806, 808, 810, 812, 814, 816, 818, 820, 822, 824, 826, 828, 830, 832, 834, 836, 838, 840, 842, 844, 846, 848, 850, 852, 854, 856, 858, 860, 862, 864, 866, 868, 870, 872, 874, 876, 878, 880] : List Nat).filterMap (fun i => lw_tbl[i]?) := by decide +kernel
theorem ckX7 : h_CK RX7 TX7 49 := ⟨fun w h => by rw [ckwX7] at h; obtain ⟨i, -, hi⟩ := List.mem_filterMap.mp h; exact List.mem_of_getElem? hi, ⟨tyX7, tyX7_ok⟩, nmX7, List.mem_of_getElem? (i := 730) (by decide +kernel), List.mem_of_getElem? (i := 55) (by decide +kernel)⟩
theorem h_cls (ci : Nat) (C : String) (T : u_T) (N : Nat) (h : vwCl[ci]? = some (C, T, N)) : h_CK C T N := by
  match ci, h with
  | 0, h => cases h; exact ckX0
  | 1, h => cases h; exact ckX1
  | 2, h => cases h; exact ckX2
  | 3, h => cases h; exact ckX3
  | 4, h => cases h; exact ckX4
  | 5, h => cases h; exact ckX5
  | 6, h => cases h; exact ckX6
  | 7, h => cases h; exact ckX7
  | n + 8, h => simp [vwCl] at h
abbrev h_nest : List (String × Nat × MethodName × String) := [(RX6, 29, yX5_init, RX6), (RX6, 62, yX0_init, RX6), (RX6, 73, yX3_init, RX6), (RX5, 52, yX6_within, RX6), (RX1, 44, yX6_within, RX6), (RX0, 70, yX6_isMint, RX6), (RX0, 74, yX6_isTown, RX6)]
/-- what the tables say of a call -/
def h_LV (own : String) (idx : Nat) (y : MethodName) : Prop := Cond.methodLink own idx y ∈ lw_tbl ∧ Cond.instanceMethod y ∈ lw_tbl ∧ Cond.selects y.cls y y ∈ lw_tbl ∧ Cond.initialized y.cls ∈ lw_tbl
def h_LS (own : String) (idx : Nat) (y : MethodName) : Prop := Cond.methodLink own idx y ∈ lw_tbl ∧ Cond.static y ∈ lw_tbl ∧ Cond.initialized y.cls ∈ lw_tbl
def h_LI (own : String) (idx : Nat) (y : MethodName) : Prop := Cond.methodLink own idx y ∈ lw_tbl ∧ Cond.instanceMethod y ∈ lw_tbl ∧ Cond.initialized y.cls ∈ lw_tbl ∧ y.name = "<init>"
def h_LSN (own : String) (idx : Nat) (y : MethodName) (host : String) : Prop := (own, idx, y, host) ∈ h_nest ∧ Cond.static y ∈ lw_tbl ∧ Cond.initialized y.cls ∈ lw_tbl
def h_LIN (own : String) (idx : Nat) (y : MethodName) (host : String) : Prop := (own, idx, y, host) ∈ h_nest ∧ Cond.instanceMethod y ∈ lw_tbl ∧ Cond.initialized y.cls ∈ lw_tbl ∧ y.name = "<init>"

/-! methods: own class, name, bytes, locals, return type, what each place decodes to -/
abbrev hM : Type := String × MethodName × ByteArray × Nat × Option FieldType × List (Nat × (Instr × Nat))
abbrev h_own (M : hM) : String := M.1
abbrev h_y (M : hM) : MethodName := M.2.1
abbrev h_cc (M : hM) : ByteArray := M.2.2.1
abbrev h_nL (M : hM) : Nat := M.2.2.2.1
abbrev h_ret (M : hM) : Option FieldType := M.2.2.2.2.1
abbrev h_tab (M : hM) : List (Nat × (Instr × Nat)) := M.2.2.2.2.2
/-- what the tables say of a method: its code, its class, how many arguments -/
def h_MI (M : hM) (n : Nat) : Prop := Cond.code (h_y M) (h_cc M) (h_nL M) (h_ret M) ∈ lw_tbl ∧ plainName (h_y M).cls = true ∧ (h_y M).cls = h_own M ∧ ((h_y M).cls ≠ "java/lang/invoke/MethodHandle" ∧ (h_y M).cls ≠ "java/lang/invoke/VarHandle" ∧ (parseMethodDescriptor (h_y M).desc).map (fun d => d.parameters.length) = some n) ∧ (∀ q ∈ h_tab M, decode (h_cc M) q.1 = .ok q.2)
