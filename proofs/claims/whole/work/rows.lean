section
-- ===== PART A: goes FIRST, ahead of the names: the tables' words, and 'selects' of the private methods out of them =====
/-- a private method of a class that the tables say can be made, by its rows of tables_1 -/
def lw_okq (q : MethodName × Nat) : Prop := (q.1.cls ≠ "java/lang/invoke/MethodHandle" ∧ q.1.cls ≠ "java/lang/invoke/VarHandle") ∧ Cond.instantiable q.1.cls q.2 ∈ tables_1 ∧ Cond.privateMethod q.1 ∈ tables_1 ∧ Cond.instanceMethod q.1 ∈ tables_1
theorem lw_p0 : lw_okq (⟨"NewSilver", "sortAt", "(I)LNewSilver$Sort;"⟩, 17) := ⟨⟨by decide +kernel, by decide +kernel⟩, List.mem_of_getElem? (i := 17) (by decide +kernel), List.mem_of_getElem? (i := 219) (by decide +kernel), List.mem_of_getElem? (i := 220) (by decide +kernel)⟩
theorem lw_p1 : lw_okq (⟨"NewSilver", "keepLot", "(LNewSilver$Lot;)I"⟩, 17) := ⟨⟨by decide +kernel, by decide +kernel⟩, List.mem_of_getElem? (i := 17) (by decide +kernel), List.mem_of_getElem? (i := 289) (by decide +kernel), List.mem_of_getElem? (i := 290) (by decide +kernel)⟩
theorem lw_p2 : lw_okq (⟨"NewSilver", "lotAt", "(I)LNewSilver$Lot;"⟩, 17) := ⟨⟨by decide +kernel, by decide +kernel⟩, List.mem_of_getElem? (i := 17) (by decide +kernel), List.mem_of_getElem? (i := 297) (by decide +kernel), List.mem_of_getElem? (i := 298) (by decide +kernel)⟩
theorem lw_p3 : lw_okq (⟨"NewSilver$Tape", "readClauses", "()Z"⟩, 5) := ⟨⟨by decide +kernel, by decide +kernel⟩, List.mem_of_getElem? (i := 31) (by decide +kernel), List.mem_of_getElem? (i := 346) (by decide +kernel), List.mem_of_getElem? (i := 347) (by decide +kernel)⟩
theorem lw_p4 : lw_okq (⟨"NewSilver$Tape", "readWord", "(Ljava/lang/String;)Z"⟩, 5) := ⟨⟨by decide +kernel, by decide +kernel⟩, List.mem_of_getElem? (i := 31) (by decide +kernel), List.mem_of_getElem? (i := 351) (by decide +kernel), List.mem_of_getElem? (i := 352) (by decide +kernel)⟩
theorem lw_p5 : lw_okq (⟨"NewSilver$Tape", "isHere", "(C)Z"⟩, 5) := ⟨⟨by decide +kernel, by decide +kernel⟩, List.mem_of_getElem? (i := 31) (by decide +kernel), List.mem_of_getElem? (i := 403) (by decide +kernel), List.mem_of_getElem? (i := 404) (by decide +kernel)⟩
theorem lw_p6 : lw_okq (⟨"NewSilver$Tape", "readClause", "()Z"⟩, 5) := ⟨⟨by decide +kernel, by decide +kernel⟩, List.mem_of_getElem? (i := 31) (by decide +kernel), List.mem_of_getElem? (i := 407) (by decide +kernel), List.mem_of_getElem? (i := 408) (by decide +kernel)⟩
theorem lw_p7 : lw_okq (⟨"NewSilver$Tape", "digitHere", "()I"⟩, 5) := ⟨⟨by decide +kernel, by decide +kernel⟩, List.mem_of_getElem? (i := 31) (by decide +kernel), List.mem_of_getElem? (i := 411) (by decide +kernel), List.mem_of_getElem? (i := 412) (by decide +kernel)⟩
theorem lw_p8 : lw_okq (⟨"NewSilver$Tape", "readNumber", "(II)I"⟩, 5) := ⟨⟨by decide +kernel, by decide +kernel⟩, List.mem_of_getElem? (i := 31) (by decide +kernel), List.mem_of_getElem? (i := 418) (by decide +kernel), List.mem_of_getElem? (i := 419) (by decide +kernel)⟩
theorem lw_p9 : lw_okq (⟨"NewSilver$Tape", "readWeight", "(I)Z"⟩, 5) := ⟨⟨by decide +kernel, by decide +kernel⟩, List.mem_of_getElem? (i := 31) (by decide +kernel), List.mem_of_getElem? (i := 422) (by decide +kernel), List.mem_of_getElem? (i := 423) (by decide +kernel)⟩
theorem lw_p10 : lw_okq (⟨"NewSilver", "orderAt", "(I)LNewSilver$Order;"⟩, 17) := ⟨⟨by decide +kernel, by decide +kernel⟩, List.mem_of_getElem? (i := 17) (by decide +kernel), List.mem_of_getElem? (i := 466) (by decide +kernel), List.mem_of_getElem? (i := 467) (by decide +kernel)⟩
theorem lw_p11 : lw_okq (⟨"NewSilver", "orderInForce", "(II)I"⟩, 17) := ⟨⟨by decide +kernel, by decide +kernel⟩, List.mem_of_getElem? (i := 17) (by decide +kernel), List.mem_of_getElem? (i := 474) (by decide +kernel), List.mem_of_getElem? (i := 475) (by decide +kernel)⟩
theorem lw_p12 : lw_okq (⟨"NewSilver", "reckonWorth", "(I)J"⟩, 17) := ⟨⟨by decide +kernel, by decide +kernel⟩, List.mem_of_getElem? (i := 17) (by decide +kernel), List.mem_of_getElem? (i := 504) (by decide +kernel), List.mem_of_getElem? (i := 505) (by decide +kernel)⟩
theorem lw_p13 : lw_okq (⟨"NewSilver", "payWorst", "()I"⟩, 17) := ⟨⟨by decide +kernel, by decide +kernel⟩, List.mem_of_getElem? (i := 17) (by decide +kernel), List.mem_of_getElem? (i := 508) (by decide +kernel), List.mem_of_getElem? (i := 509) (by decide +kernel)⟩
theorem lw_p14 : lw_okq (⟨"NewSilver", "potAt", "(I)LNewSilver$Pot;"⟩, 17) := ⟨⟨by decide +kernel, by decide +kernel⟩, List.mem_of_getElem? (i := 17) (by decide +kernel), List.mem_of_getElem? (i := 553) (by decide +kernel), List.mem_of_getElem? (i := 554) (by decide +kernel)⟩
theorem lw_p15 : lw_okq (⟨"NewSilver", "findFalse", "(I)V"⟩, 17) := ⟨⟨by decide +kernel, by decide +kernel⟩, List.mem_of_getElem? (i := 17) (by decide +kernel), List.mem_of_getElem? (i := 557) (by decide +kernel), List.mem_of_getElem? (i := 558) (by decide +kernel)⟩
def lw_privs_1 : List (MethodName × Nat) := [(⟨"NewSilver", "sortAt", "(I)LNewSilver$Sort;"⟩, 17), (⟨"NewSilver", "keepLot", "(LNewSilver$Lot;)I"⟩, 17), (⟨"NewSilver", "lotAt", "(I)LNewSilver$Lot;"⟩, 17), (⟨"NewSilver$Tape", "readClauses", "()Z"⟩, 5), (⟨"NewSilver$Tape", "readWord", "(Ljava/lang/String;)Z"⟩, 5), (⟨"NewSilver$Tape", "isHere", "(C)Z"⟩, 5), (⟨"NewSilver$Tape", "readClause", "()Z"⟩, 5), (⟨"NewSilver$Tape", "digitHere", "()I"⟩, 5), (⟨"NewSilver$Tape", "readNumber", "(II)I"⟩, 5), (⟨"NewSilver$Tape", "readWeight", "(I)Z"⟩, 5), (⟨"NewSilver", "orderAt", "(I)LNewSilver$Order;"⟩, 17), (⟨"NewSilver", "orderInForce", "(II)I"⟩, 17), (⟨"NewSilver", "reckonWorth", "(I)J"⟩, 17), (⟨"NewSilver", "payWorst", "()I"⟩, 17), (⟨"NewSilver", "potAt", "(I)LNewSilver$Pot;"⟩, 17), (⟨"NewSilver", "findFalse", "(I)V"⟩, 17)]
theorem lw_r1 : ∀ q ∈ lw_privs_1, lw_okq q := List.forall_mem_cons.mpr ⟨lw_p0, List.forall_mem_cons.mpr ⟨lw_p1, List.forall_mem_cons.mpr ⟨lw_p2, List.forall_mem_cons.mpr ⟨lw_p3, List.forall_mem_cons.mpr ⟨lw_p4, List.forall_mem_cons.mpr ⟨lw_p5, List.forall_mem_cons.mpr ⟨lw_p6, List.forall_mem_cons.mpr ⟨lw_p7, List.forall_mem_cons.mpr ⟨lw_p8, List.forall_mem_cons.mpr ⟨lw_p9, List.forall_mem_cons.mpr ⟨lw_p10, List.forall_mem_cons.mpr ⟨lw_p11, List.forall_mem_cons.mpr ⟨lw_p12, List.forall_mem_cons.mpr ⟨lw_p13, List.forall_mem_cons.mpr ⟨lw_p14, List.forall_mem_cons.mpr ⟨lw_p15, fun _ h => absurd h List.not_mem_nil⟩⟩⟩⟩⟩⟩⟩⟩⟩⟩⟩⟩⟩⟩⟩⟩
theorem lw_p16 : lw_okq (⟨"NewSilver$Carrier", "findWays", "([I)V"⟩, 7) := ⟨⟨by decide +kernel, by decide +kernel⟩, List.mem_of_getElem? (i := 60) (by decide +kernel), List.mem_of_getElem? (i := 629) (by decide +kernel), List.mem_of_getElem? (i := 630) (by decide +kernel)⟩
theorem lw_p17 : lw_okq (⟨"NewSilver$Carrier", "goOn", "(I[I)V"⟩, 7) := ⟨⟨by decide +kernel, by decide +kernel⟩, List.mem_of_getElem? (i := 60) (by decide +kernel), List.mem_of_getElem? (i := 634) (by decide +kernel), List.mem_of_getElem? (i := 635) (by decide +kernel)⟩
theorem lw_p18 : lw_okq (⟨"NewSilver$Carrier", "takeBack", "(I[I)Z"⟩, 7) := ⟨⟨by decide +kernel, by decide +kernel⟩, List.mem_of_getElem? (i := 60) (by decide +kernel), List.mem_of_getElem? (i := 638) (by decide +kernel), List.mem_of_getElem? (i := 639) (by decide +kernel)⟩
theorem lw_p19 : lw_okq (⟨"NewSilver$Carrier", "cheapestTown", "()I"⟩, 7) := ⟨⟨by decide +kernel, by decide +kernel⟩, List.mem_of_getElem? (i := 60) (by decide +kernel), List.mem_of_getElem? (i := 642) (by decide +kernel), List.mem_of_getElem? (i := 643) (by decide +kernel)⟩
theorem lw_p20 : lw_okq (⟨"NewSilver$Carrier", "roomOfWay", "(I)I"⟩, 7) := ⟨⟨by decide +kernel, by decide +kernel⟩, List.mem_of_getElem? (i := 60) (by decide +kernel), List.mem_of_getElem? (i := 646) (by decide +kernel), List.mem_of_getElem? (i := 647) (by decide +kernel)⟩
theorem lw_p21 : lw_okq (⟨"NewSilver$Carrier", "carry", "(II)V"⟩, 7) := ⟨⟨by decide +kernel, by decide +kernel⟩, List.mem_of_getElem? (i := 60) (by decide +kernel), List.mem_of_getElem? (i := 653) (by decide +kernel), List.mem_of_getElem? (i := 654) (by decide +kernel)⟩
theorem lw_p22 : lw_okq (⟨"NewSilver", "countMelted", "()I"⟩, 17) := ⟨⟨by decide +kernel, by decide +kernel⟩, List.mem_of_getElem? (i := 17) (by decide +kernel), List.mem_of_getElem? (i := 669) (by decide +kernel), List.mem_of_getElem? (i := 670) (by decide +kernel)⟩
theorem lw_p23 : lw_okq (⟨"NewSilver", "countOnRoads", "()I"⟩, 17) := ⟨⟨by decide +kernel, by decide +kernel⟩, List.mem_of_getElem? (i := 17) (by decide +kernel), List.mem_of_getElem? (i := 673) (by decide +kernel), List.mem_of_getElem? (i := 674) (by decide +kernel)⟩
theorem lw_p24 : lw_okq (⟨"NewSilver", "countInChests", "()I"⟩, 17) := ⟨⟨by decide +kernel, by decide +kernel⟩, List.mem_of_getElem? (i := 17) (by decide +kernel), List.mem_of_getElem? (i := 677) (by decide +kernel), List.mem_of_getElem? (i := 678) (by decide +kernel)⟩
theorem lw_p25 : lw_okq (⟨"NewSilverModel", "isSort", "(I)Z"⟩, 49) := ⟨⟨by decide +kernel, by decide +kernel⟩, List.mem_of_getElem? (i := 681) (by decide +kernel), List.mem_of_getElem? (i := 847) (by decide +kernel), List.mem_of_getElem? (i := 848) (by decide +kernel)⟩
theorem lw_p26 : lw_okq (⟨"NewSilverModel", "isWeight", "(IIII)Z"⟩, 49) := ⟨⟨by decide +kernel, by decide +kernel⟩, List.mem_of_getElem? (i := 681) (by decide +kernel), List.mem_of_getElem? (i := 854) (by decide +kernel), List.mem_of_getElem? (i := 855) (by decide +kernel)⟩
theorem lw_p27 : lw_okq (⟨"NewSilverModel", "newLot", "(IIIIIII)I"⟩, 49) := ⟨⟨by decide +kernel, by decide +kernel⟩, List.mem_of_getElem? (i := 681) (by decide +kernel), List.mem_of_getElem? (i := 858) (by decide +kernel), List.mem_of_getElem? (i := 859) (by decide +kernel)⟩
theorem lw_p28 : lw_okq (⟨"NewSilverModel", "isLot", "(I)Z"⟩, 49) := ⟨⟨by decide +kernel, by decide +kernel⟩, List.mem_of_getElem? (i := 681) (by decide +kernel), List.mem_of_getElem? (i := 866) (by decide +kernel), List.mem_of_getElem? (i := 867) (by decide +kernel)⟩
theorem lw_p29 : lw_okq (⟨"NewSilverModel", "fine", "(I)I"⟩, 49) := ⟨⟨by decide +kernel, by decide +kernel⟩, List.mem_of_getElem? (i := 681) (by decide +kernel), List.mem_of_getElem? (i := 874) (by decide +kernel), List.mem_of_getElem? (i := 875) (by decide +kernel)⟩
theorem lw_p30 : lw_okq (⟨"NewSilverModel", "isUnderWay", "(I)Z"⟩, 49) := ⟨⟨by decide +kernel, by decide +kernel⟩, List.mem_of_getElem? (i := 681) (by decide +kernel), List.mem_of_getElem? (i := 878) (by decide +kernel), List.mem_of_getElem? (i := 879) (by decide +kernel)⟩
theorem lw_p31 : lw_okq (⟨"NewSilverModel", "silverOf", "(I)J"⟩, 49) := ⟨⟨by decide +kernel, by decide +kernel⟩, List.mem_of_getElem? (i := 681) (by decide +kernel), List.mem_of_getElem? (i := 886) (by decide +kernel), List.mem_of_getElem? (i := 887) (by decide +kernel)⟩
def lw_privs_2 : List (MethodName × Nat) := [(⟨"NewSilver$Carrier", "findWays", "([I)V"⟩, 7), (⟨"NewSilver$Carrier", "goOn", "(I[I)V"⟩, 7), (⟨"NewSilver$Carrier", "takeBack", "(I[I)Z"⟩, 7), (⟨"NewSilver$Carrier", "cheapestTown", "()I"⟩, 7), (⟨"NewSilver$Carrier", "roomOfWay", "(I)I"⟩, 7), (⟨"NewSilver$Carrier", "carry", "(II)V"⟩, 7), (⟨"NewSilver", "countMelted", "()I"⟩, 17), (⟨"NewSilver", "countOnRoads", "()I"⟩, 17), (⟨"NewSilver", "countInChests", "()I"⟩, 17), (⟨"NewSilverModel", "isSort", "(I)Z"⟩, 49), (⟨"NewSilverModel", "isWeight", "(IIII)Z"⟩, 49), (⟨"NewSilverModel", "newLot", "(IIIIIII)I"⟩, 49), (⟨"NewSilverModel", "isLot", "(I)Z"⟩, 49), (⟨"NewSilverModel", "fine", "(I)I"⟩, 49), (⟨"NewSilverModel", "isUnderWay", "(I)Z"⟩, 49), (⟨"NewSilverModel", "silverOf", "(I)J"⟩, 49)]
theorem lw_r2 : ∀ q ∈ lw_privs_2, lw_okq q := List.forall_mem_cons.mpr ⟨lw_p16, List.forall_mem_cons.mpr ⟨lw_p17, List.forall_mem_cons.mpr ⟨lw_p18, List.forall_mem_cons.mpr ⟨lw_p19, List.forall_mem_cons.mpr ⟨lw_p20, List.forall_mem_cons.mpr ⟨lw_p21, List.forall_mem_cons.mpr ⟨lw_p22, List.forall_mem_cons.mpr ⟨lw_p23, List.forall_mem_cons.mpr ⟨lw_p24, List.forall_mem_cons.mpr ⟨lw_p25, List.forall_mem_cons.mpr ⟨lw_p26, List.forall_mem_cons.mpr ⟨lw_p27, List.forall_mem_cons.mpr ⟨lw_p28, List.forall_mem_cons.mpr ⟨lw_p29, List.forall_mem_cons.mpr ⟨lw_p30, List.forall_mem_cons.mpr ⟨lw_p31, fun _ h => absurd h List.not_mem_nil⟩⟩⟩⟩⟩⟩⟩⟩⟩⟩⟩⟩⟩⟩⟩⟩
theorem lw_p32 : lw_okq (⟨"NewSilverModel", "clause", "(I)Z"⟩, 49) := ⟨⟨by decide +kernel, by decide +kernel⟩, List.mem_of_getElem? (i := 681) (by decide +kernel), List.mem_of_getElem? (i := 903) (by decide +kernel), List.mem_of_getElem? (i := 904) (by decide +kernel)⟩
theorem lw_p33 : lw_okq (⟨"NewSilverModel", "takesIs", "()Z"⟩, 49) := ⟨⟨by decide +kernel, by decide +kernel⟩, List.mem_of_getElem? (i := 681) (by decide +kernel), List.mem_of_getElem? (i := 907) (by decide +kernel), List.mem_of_getElem? (i := 908) (by decide +kernel)⟩
theorem lw_p34 : lw_okq (⟨"NewSilverModel", "takes", "(I)Z"⟩, 49) := ⟨⟨by decide +kernel, by decide +kernel⟩, List.mem_of_getElem? (i := 681) (by decide +kernel), List.mem_of_getElem? (i := 911) (by decide +kernel), List.mem_of_getElem? (i := 912) (by decide +kernel)⟩
theorem lw_p35 : lw_okq (⟨"NewSilverModel", "takesNumber", "(II)Z"⟩, 49) := ⟨⟨by decide +kernel, by decide +kernel⟩, List.mem_of_getElem? (i := 681) (by decide +kernel), List.mem_of_getElem? (i := 915) (by decide +kernel), List.mem_of_getElem? (i := 916) (by decide +kernel)⟩
theorem lw_p36 : lw_okq (⟨"NewSilverModel", "digitAt", "(I)Z"⟩, 49) := ⟨⟨by decide +kernel, by decide +kernel⟩, List.mem_of_getElem? (i := 681) (by decide +kernel), List.mem_of_getElem? (i := 919) (by decide +kernel), List.mem_of_getElem? (i := 920) (by decide +kernel)⟩
theorem lw_p37 : lw_okq (⟨"NewSilverModel", "takesWeight", "()Z"⟩, 49) := ⟨⟨by decide +kernel, by decide +kernel⟩, List.mem_of_getElem? (i := 681) (by decide +kernel), List.mem_of_getElem? (i := 923) (by decide +kernel), List.mem_of_getElem? (i := 924) (by decide +kernel)⟩
theorem lw_p38 : lw_okq (⟨"NewSilverModel", "isOrder", "(I)Z"⟩, 49) := ⟨⟨by decide +kernel, by decide +kernel⟩, List.mem_of_getElem? (i := 681) (by decide +kernel), List.mem_of_getElem? (i := 931) (by decide +kernel), List.mem_of_getElem? (i := 932) (by decide +kernel)⟩
theorem lw_p39 : lw_okq (⟨"NewSilverModel", "forceIn", "(II)I"⟩, 49) := ⟨⟨by decide +kernel, by decide +kernel⟩, List.mem_of_getElem? (i := 681) (by decide +kernel), List.mem_of_getElem? (i := 939) (by decide +kernel), List.mem_of_getElem? (i := 940) (by decide +kernel)⟩
theorem lw_p40 : lw_okq (⟨"NewSilverModel", "passes", "(III)I"⟩, 49) := ⟨⟨by decide +kernel, by decide +kernel⟩, List.mem_of_getElem? (i := 681) (by decide +kernel), List.mem_of_getElem? (i := 947) (by decide +kernel), List.mem_of_getElem? (i := 948) (by decide +kernel)⟩
theorem lw_p41 : lw_okq (⟨"NewSilverModel", "isDrawn", "(III)Z"⟩, 49) := ⟨⟨by decide +kernel, by decide +kernel⟩, List.mem_of_getElem? (i := 681) (by decide +kernel), List.mem_of_getElem? (i := 955) (by decide +kernel), List.mem_of_getElem? (i := 956) (by decide +kernel)⟩
theorem lw_p42 : lw_okq (⟨"NewSilverModel", "lowest", "(I)I"⟩, 49) := ⟨⟨by decide +kernel, by decide +kernel⟩, List.mem_of_getElem? (i := 681) (by decide +kernel), List.mem_of_getElem? (i := 959) (by decide +kernel), List.mem_of_getElem? (i := 960) (by decide +kernel)⟩
theorem lw_p43 : lw_okq (⟨"NewSilverModel", "isThere", "(II)Z"⟩, 49) := ⟨⟨by decide +kernel, by decide +kernel⟩, List.mem_of_getElem? (i := 681) (by decide +kernel), List.mem_of_getElem? (i := 968) (by decide +kernel), List.mem_of_getElem? (i := 969) (by decide +kernel)⟩
theorem lw_p44 : lw_okq (⟨"NewSilverModel", "isWorse", "(III)Z"⟩, 49) := ⟨⟨by decide +kernel, by decide +kernel⟩, List.mem_of_getElem? (i := 681) (by decide +kernel), List.mem_of_getElem? (i := 972) (by decide +kernel), List.mem_of_getElem? (i := 973) (by decide +kernel)⟩
theorem lw_p45 : lw_okq (⟨"NewSilverModel", "isAtMint", "(I)Z"⟩, 49) := ⟨⟨by decide +kernel, by decide +kernel⟩, List.mem_of_getElem? (i := 681) (by decide +kernel), List.mem_of_getElem? (i := 1007) (by decide +kernel), List.mem_of_getElem? (i := 1008) (by decide +kernel)⟩
theorem lw_p46 : lw_okq (⟨"NewSilverModel", "meltedToday", "(I)I"⟩, 49) := ⟨⟨by decide +kernel, by decide +kernel⟩, List.mem_of_getElem? (i := 681) (by decide +kernel), List.mem_of_getElem? (i := 1015) (by decide +kernel), List.mem_of_getElem? (i := 1016) (by decide +kernel)⟩
theorem lw_p47 : lw_okq (⟨"NewSilverModel", "sendOne", "()I"⟩, 49) := ⟨⟨by decide +kernel, by decide +kernel⟩, List.mem_of_getElem? (i := 681) (by decide +kernel), List.mem_of_getElem? (i := 1054) (by decide +kernel), List.mem_of_getElem? (i := 1055) (by decide +kernel)⟩
def lw_privs_3 : List (MethodName × Nat) := [(⟨"NewSilverModel", "clause", "(I)Z"⟩, 49), (⟨"NewSilverModel", "takesIs", "()Z"⟩, 49), (⟨"NewSilverModel", "takes", "(I)Z"⟩, 49), (⟨"NewSilverModel", "takesNumber", "(II)Z"⟩, 49), (⟨"NewSilverModel", "digitAt", "(I)Z"⟩, 49), (⟨"NewSilverModel", "takesWeight", "()Z"⟩, 49), (⟨"NewSilverModel", "isOrder", "(I)Z"⟩, 49), (⟨"NewSilverModel", "forceIn", "(II)I"⟩, 49), (⟨"NewSilverModel", "passes", "(III)I"⟩, 49), (⟨"NewSilverModel", "isDrawn", "(III)Z"⟩, 49), (⟨"NewSilverModel", "lowest", "(I)I"⟩, 49), (⟨"NewSilverModel", "isThere", "(II)Z"⟩, 49), (⟨"NewSilverModel", "isWorse", "(III)Z"⟩, 49), (⟨"NewSilverModel", "isAtMint", "(I)Z"⟩, 49), (⟨"NewSilverModel", "meltedToday", "(I)I"⟩, 49), (⟨"NewSilverModel", "sendOne", "()I"⟩, 49)]
theorem lw_r3 : ∀ q ∈ lw_privs_3, lw_okq q := List.forall_mem_cons.mpr ⟨lw_p32, List.forall_mem_cons.mpr ⟨lw_p33, List.forall_mem_cons.mpr ⟨lw_p34, List.forall_mem_cons.mpr ⟨lw_p35, List.forall_mem_cons.mpr ⟨lw_p36, List.forall_mem_cons.mpr ⟨lw_p37, List.forall_mem_cons.mpr ⟨lw_p38, List.forall_mem_cons.mpr ⟨lw_p39, List.forall_mem_cons.mpr ⟨lw_p40, List.forall_mem_cons.mpr ⟨lw_p41, List.forall_mem_cons.mpr ⟨lw_p42, List.forall_mem_cons.mpr ⟨lw_p43, List.forall_mem_cons.mpr ⟨lw_p44, List.forall_mem_cons.mpr ⟨lw_p45, List.forall_mem_cons.mpr ⟨lw_p46, List.forall_mem_cons.mpr ⟨lw_p47, fun _ h => absurd h List.not_mem_nil⟩⟩⟩⟩⟩⟩⟩⟩⟩⟩⟩⟩⟩⟩⟩⟩
theorem lw_p48 : lw_okq (⟨"NewSilverModel", "findFar", "()V"⟩, 49) := ⟨⟨by decide +kernel, by decide +kernel⟩, List.mem_of_getElem? (i := 681) (by decide +kernel), List.mem_of_getElem? (i := 1058) (by decide +kernel), List.mem_of_getElem? (i := 1059) (by decide +kernel)⟩
def lw_privs_4 : List (MethodName × Nat) := [(⟨"NewSilverModel", "findFar", "()V"⟩, 49)]
theorem lw_r4 : ∀ q ∈ lw_privs_4, lw_okq q := List.forall_mem_cons.mpr ⟨lw_p48, fun _ h => absurd h List.not_mem_nil⟩
def lw_privs : List (MethodName × Nat) := lw_privs_1 ++ (lw_privs_2 ++ (lw_privs_3 ++ (lw_privs_4)))
def lw_tbl : List Cond := k2_sels lw_privs ++ tables_1
theorem lw_privs_ok : ∀ q ∈ lw_privs, lw_okq q := by
  show ∀ q ∈ lw_privs_1 ++ (lw_privs_2 ++ (lw_privs_3 ++ (lw_privs_4))), lw_okq q
  exact List.forall_mem_append.mpr ⟨lw_r1, List.forall_mem_append.mpr ⟨lw_r2, List.forall_mem_append.mpr ⟨lw_r3, lw_r4⟩⟩⟩
-- ===== names, by program =====
def RX0 : String := "NewSilver$Carrier"
def TX0 : u_T := fun k => match k with
  | 0 => ("NewSilver$Carrier", "left", "[I", true)
  | 1 => ("NewSilver$Carrier", "wanted", "[I", true)
  | 2 => ("NewSilver$Carrier", "carried", "[I", true)
  | 3 => ("NewSilver$Carrier", "mintCost", "[I", true)
  | 4 => ("NewSilver$Carrier", "townCost", "[I", true)
  | 5 => ("NewSilver$Carrier", "townBefore", "[I", true)
  | _ => ("NewSilver$Carrier", "mintBefore", "[I", true)
def tyX0 : Nat → FieldType := fun k => match k with
  | 0 => .array .int
  | 1 => .array .int
  | 2 => .array .int
  | 3 => .array .int
  | 4 => .array .int
  | 5 => .array .int
  | _ => .array .int
abbrev wsX00 : List Cond := u_ws RX0 TX0 7
theorem nmX0 : ∀ a, a < 7 → ∀ b, b < 7 → a ≠ b → (TX0 a).2.1 ≠ (TX0 b).2.1 := by decide +kernel
theorem tyX0_ok : ∀ k, k < 7 → parseFieldDescriptor (TX0 k).2.2.1 = some (tyX0 k) := by decide +kernel
abbrev cX0_init : ByteArray := prog_2_method_1_code
def yX0_init : MethodName := ⟨RX0, "<init>", "()V"⟩
abbrev cX0_leastCost : ByteArray := prog_2_method_2_code
def yX0_leastCost : MethodName := ⟨RX0, "leastCost", "([I[I[I)I"⟩
abbrev cX0_findWays : ByteArray := prog_2_method_3_code
def yX0_findWays : MethodName := ⟨RX0, "findWays", "([I)V"⟩
abbrev cX0_goOn : ByteArray := prog_2_method_4_code
def yX0_goOn : MethodName := ⟨RX0, "goOn", "(I[I)V"⟩
abbrev cX0_takeBack : ByteArray := prog_2_method_5_code
def yX0_takeBack : MethodName := ⟨RX0, "takeBack", "(I[I)Z"⟩
abbrev cX0_cheapestTown : ByteArray := prog_2_method_6_code
def yX0_cheapestTown : MethodName := ⟨RX0, "cheapestTown", "()I"⟩
abbrev cX0_roomOfWay : ByteArray := prog_2_method_7_code
def yX0_roomOfWay : MethodName := ⟨RX0, "roomOfWay", "(I)I"⟩
abbrev cX0_carry : ByteArray := prog_2_method_8_code
def yX0_carry : MethodName := ⟨RX0, "carry", "(II)V"⟩
def RX1 : String := "NewSilver$Lot"
def TX1 : u_T := fun k => match k with
  | 0 => ("NewSilver$Lot", "sortNumber", "I", true)
  | 1 => ("NewSilver$Lot", "sort", "LNewSilver$Sort;", true)
  | 2 => ("NewSilver$Lot", "coins", "I", true)
  | 3 => ("NewSilver$Lot", "fine", "I", true)
  | 4 => ("NewSilver$Lot", "kind", "I", false)
  | 5 => ("NewSilver$Lot", "weight", "I", false)
  | 6 => ("NewSilver$Lot", "town", "I", false)
  | 7 => ("NewSilver$Lot", "mint", "I", false)
  | 8 => ("NewSilver$Lot", "comes", "I", false)
  | 9 => ("NewSilver$Lot", "melted", "Z", false)
  | 10 => ("NewSilver$Lot", "inChest", "Z", false)
  | _ => ("NewSilver$Lot", "found", "Z", false)
def tyX1 : Nat → FieldType := fun k => match k with
  | 0 => .int
  | 1 => .object "NewSilver$Sort"
  | 2 => .int
  | 3 => .int
  | 4 => .int
  | 5 => .int
  | 6 => .int
  | 7 => .int
  | 8 => .int
  | 9 => .boolean
  | 10 => .boolean
  | _ => .boolean
abbrev wsX10 : List Cond := u_ws RX1 TX1 12
theorem nmX1 : ∀ a, a < 12 → ∀ b, b < 12 → a ≠ b → (TX1 a).2.1 ≠ (TX1 b).2.1 := by decide +kernel
theorem tyX1_ok : ∀ k, k < 12 → parseFieldDescriptor (TX1 k).2.2.1 = some (tyX1 k) := by decide +kernel
abbrev cX1_init : ByteArray := prog_3_method_1_code
def yX1_init : MethodName := ⟨RX1, "<init>", "(IILNewSilver$Sort;III)V"⟩
abbrev cX1_silverHeld : ByteArray := prog_3_method_2_code
def yX1_silverHeld : MethodName := ⟨RX1, "silverHeld", "()J"⟩
abbrev cX1_isSealedBag : ByteArray := prog_3_method_3_code
def yX1_isSealedBag : MethodName := ⟨RX1, "isSealedBag", "()Z"⟩
abbrev cX1_isOnRoad : ByteArray := prog_3_method_4_code
def yX1_isOnRoad : MethodName := ⟨RX1, "isOnRoad", "(I)Z"⟩
abbrev cX1_vanish : ByteArray := prog_3_method_5_code
def yX1_vanish : MethodName := ⟨RX1, "vanish", "()V"⟩
abbrev cX1_canDraw : ByteArray := prog_3_method_6_code
def yX1_canDraw : MethodName := ⟨RX1, "canDraw", "(II)Z"⟩
abbrev cX1_leastDrawn : ByteArray := prog_3_method_7_code
def yX1_leastDrawn : MethodName := ⟨RX1, "leastDrawn", "(II)I"⟩
abbrev cX1_mostDrawn : ByteArray := prog_3_method_8_code
def yX1_mostDrawn : MethodName := ⟨RX1, "mostDrawn", "(II)I"⟩
def RX2 : String := "NewSilver$Order"
def TX2 : u_T := fun k => match k with
  | 0 => ("NewSilver$Order", "pence", "[I", true)
  | 1 => ("NewSilver$Order", "grains", "[I", true)
  | _ => ("NewSilver$Order", "told", "[I", true)
def tyX2 : Nat → FieldType := fun k => match k with
  | 0 => .array .int
  | 1 => .array .int
  | _ => .array .int
abbrev wsX20 : List Cond := u_ws RX2 TX2 3
theorem nmX2 : ∀ a, a < 3 → ∀ b, b < 3 → a ≠ b → (TX2 a).2.1 ≠ (TX2 b).2.1 := by decide +kernel
theorem tyX2_ok : ∀ k, k < 3 → parseFieldDescriptor (TX2 k).2.2.1 = some (tyX2 k) := by decide +kernel
abbrev cX2_init : ByteArray := prog_4_method_1_code
def yX2_init : MethodName := ⟨RX2, "<init>", "([I[I)V"⟩
def RX3 : String := "NewSilver$Pot"
def TX3 : u_T := fun k => match k with
  | 0 => ("NewSilver$Pot", "grains", "J", false)
  | 1 => ("NewSilver$Pot", "silver", "J", false)
  | 2 => ("NewSilver$Pot", "refined", "Z", false)
  | 3 => ("NewSilver$Pot", "copper", "J", false)
  | 4 => ("NewSilver$Pot", "treasure", "J", false)
  | 5 => ("NewSilver$Pot", "wentOff", "J", false)
  | 6 => ("NewSilver$Pot", "furnace", "I", false)
  | 7 => ("NewSilver$Pot", "melted", "I", false)
  | _ => ("NewSilver$Pot", "meltingDay", "I", false)
def tyX3 : Nat → FieldType := fun k => match k with
  | 0 => .long
  | 1 => .long
  | 2 => .boolean
  | 3 => .long
  | 4 => .long
  | 5 => .long
  | 6 => .int
  | 7 => .int
  | _ => .int
abbrev wsX30 : List Cond := u_ws RX3 TX3 9
theorem nmX3 : ∀ a, a < 9 → ∀ b, b < 9 → a ≠ b → (TX3 a).2.1 ≠ (TX3 b).2.1 := by decide +kernel
theorem tyX3_ok : ∀ k, k < 9 → parseFieldDescriptor (TX3 k).2.2.1 = some (tyX3 k) := by decide +kernel
abbrev cX3_init : ByteArray := prog_5_method_1_code
def yX3_init : MethodName := ⟨RX3, "<init>", "()V"⟩
abbrev cX3_meltedOn : ByteArray := prog_5_method_2_code
def yX3_meltedOn : MethodName := ⟨RX3, "meltedOn", "(I)I"⟩
abbrev cX3_takeIn : ByteArray := prog_5_method_3_code
def yX3_takeIn : MethodName := ⟨RX3, "takeIn", "(IJI)V"⟩
abbrev cX3_bringToLaw : ByteArray := prog_5_method_4_code
def yX3_bringToLaw : MethodName := ⟨RX3, "bringToLaw", "()J"⟩
abbrev cX3_pourOut : ByteArray := prog_5_method_5_code
def yX3_pourOut : MethodName := ⟨RX3, "pourOut", "(I)V"⟩
def RX4 : String := "NewSilver$Sort"
def TX4 : u_T := fun k => match k with
  | 0 => ("NewSilver$Sort", "least", "I", true)
  | 1 => ("NewSilver$Sort", "most", "I", true)
  | 2 => ("NewSilver$Sort", "fine", "I", true)
  | _ => ("NewSilver$Sort", "value", "I", true)
def tyX4 : Nat → FieldType := fun k => match k with
  | 0 => .int
  | 1 => .int
  | 2 => .int
  | _ => .int
abbrev wsX40 : List Cond := u_ws RX4 TX4 4
theorem nmX4 : ∀ a, a < 4 → ∀ b, b < 4 → a ≠ b → (TX4 a).2.1 ≠ (TX4 b).2.1 := by decide +kernel
theorem tyX4_ok : ∀ k, k < 4 → parseFieldDescriptor (TX4 k).2.2.1 = some (tyX4 k) := by decide +kernel
abbrev cX4_init : ByteArray := prog_6_method_1_code
def yX4_init : MethodName := ⟨RX4, "<init>", "(IIII)V"⟩
abbrev cX4_leastOfCoin : ByteArray := prog_6_method_2_code
def yX4_leastOfCoin : MethodName := ⟨RX4, "leastOfCoin", "(I)I"⟩
def RX5 : String := "NewSilver$Tape"
def TX5 : u_T := fun k => match k with
  | 0 => ("NewSilver$Tape", "pence", "[I", true)
  | 1 => ("NewSilver$Tape", "grains", "[I", true)
  | 2 => ("NewSilver$Tape", "length", "I", false)
  | 3 => ("NewSilver$Tape", "bytes", "[B", true)
  | _ => ("NewSilver$Tape", "at", "I", false)
def tyX5 : Nat → FieldType := fun k => match k with
  | 0 => .array .int
  | 1 => .array .int
  | 2 => .int
  | 3 => .array .byte
  | _ => .int
abbrev wsX50 : List Cond := u_ws RX5 TX5 5
theorem nmX5 : ∀ a, a < 5 → ∀ b, b < 5 → a ≠ b → (TX5 a).2.1 ≠ (TX5 b).2.1 := by decide +kernel
theorem tyX5_ok : ∀ k, k < 5 → parseFieldDescriptor (TX5 k).2.2.1 = some (tyX5 k) := by decide +kernel
abbrev cX5_init : ByteArray := prog_7_method_1_code
def yX5_init : MethodName := ⟨RX5, "<init>", "()V"⟩
abbrev cX5_append : ByteArray := prog_7_method_2_code
def yX5_append : MethodName := ⟨RX5, "append", "(JI)Z"⟩
abbrev cX5_findFault : ByteArray := prog_7_method_3_code
def yX5_findFault : MethodName := ⟨RX5, "findFault", "()I"⟩
abbrev cX5_readClauses : ByteArray := prog_7_method_4_code
def yX5_readClauses : MethodName := ⟨RX5, "readClauses", "()Z"⟩
abbrev cX5_readClause : ByteArray := prog_7_method_5_code
def yX5_readClause : MethodName := ⟨RX5, "readClause", "()Z"⟩
abbrev cX5_readWeight : ByteArray := prog_7_method_6_code
def yX5_readWeight : MethodName := ⟨RX5, "readWeight", "(I)Z"⟩
abbrev cX5_readWord : ByteArray := prog_7_method_7_code
def yX5_readWord : MethodName := ⟨RX5, "readWord", "(Ljava/lang/String;)Z"⟩
abbrev cX5_readNumber : ByteArray := prog_7_method_8_code
def yX5_readNumber : MethodName := ⟨RX5, "readNumber", "(II)I"⟩
abbrev cX5_isHere : ByteArray := prog_7_method_9_code
def yX5_isHere : MethodName := ⟨RX5, "isHere", "(C)Z"⟩
abbrev cX5_digitHere : ByteArray := prog_7_method_10_code
def yX5_digitHere : MethodName := ⟨RX5, "digitHere", "()I"⟩
def RX6 : String := "NewSilver"
def TX6 : u_T := fun k => match k with
  | 0 => ("NewSilver", "sorts", "[LNewSilver$Sort;", true)
  | 1 => ("NewSilver", "sortCount", "I", false)
  | 2 => ("NewSilver", "lots", "[LNewSilver$Lot;", true)
  | 3 => ("NewSilver", "lotCount", "I", false)
  | 4 => ("NewSilver", "orders", "[LNewSilver$Order;", true)
  | 5 => ("NewSilver", "orderCount", "I", false)
  | 6 => ("NewSilver", "tape", "LNewSilver$Tape;", true)
  | 7 => ("NewSilver", "pots", "[LNewSilver$Pot;", true)
  | 8 => ("NewSilver", "roadDays", "[I", true)
  | 9 => ("NewSilver", "credits", "[J", true)
  | 10 => ("NewSilver", "payment", "[I", true)
  | 11 => ("NewSilver", "paymentCount", "I", false)
  | 12 => ("NewSilver", "worth", "[I", true)
  | 13 => ("NewSilver", "gives", "[I", true)
  | 14 => ("NewSilver", "needs", "[I", true)
  | 15 => ("NewSilver", "carrier", "LNewSilver$Carrier;", true)
  | _ => ("NewSilver", "thisDay", "I", false)
def tyX6 : Nat → FieldType := fun k => match k with
  | 0 => .array (.object "NewSilver$Sort")
  | 1 => .int
  | 2 => .array (.object "NewSilver$Lot")
  | 3 => .int
  | 4 => .array (.object "NewSilver$Order")
  | 5 => .int
  | 6 => .object "NewSilver$Tape"
  | 7 => .array (.object "NewSilver$Pot")
  | 8 => .array .int
  | 9 => .array .long
  | 10 => .array .int
  | 11 => .int
  | 12 => .array .int
  | 13 => .array .int
  | 14 => .array .int
  | 15 => .object "NewSilver$Carrier"
  | _ => .int
abbrev wsX60 : List Cond := u_ws RX6 TX6 17
theorem nmX6 : ∀ a, a < 17 → ∀ b, b < 17 → a ≠ b → (TX6 a).2.1 ≠ (TX6 b).2.1 := by decide +kernel
theorem tyX6_ok : ∀ k, k < 17 → parseFieldDescriptor (TX6 k).2.2.1 = some (tyX6 k) := by decide +kernel
abbrev cX6_init : ByteArray := prog_1_method_1_code
def yX6_init : MethodName := ⟨RX6, "<init>", "()V"⟩
abbrev cX6_sort : ByteArray := prog_1_method_2_code
def yX6_sort : MethodName := ⟨RX6, "sort", "(IIII)I"⟩
abbrev cX6_lot : ByteArray := prog_1_method_3_code
def yX6_lot : MethodName := ⟨RX6, "lot", "(IIIIII)I"⟩
abbrev cX6_open : ByteArray := prog_1_method_4_code
def yX6_open : MethodName := ⟨RX6, "open", "(II)I"⟩
abbrev cX6_about : ByteArray := prog_1_method_5_code
def yX6_about : MethodName := ⟨RX6, "about", "(II)I"⟩
abbrev cX6_silver : ByteArray := prog_1_method_6_code
def yX6_silver : MethodName := ⟨RX6, "silver", "(I)J"⟩
abbrev cX6_today : ByteArray := prog_1_method_7_code
def yX6_today : MethodName := ⟨RX6, "today", "(I)I"⟩
abbrev cX6_feed : ByteArray := prog_1_method_8_code
def yX6_feed : MethodName := ⟨RX6, "feed", "(JI)I"⟩
abbrev cX6_order : ByteArray := prog_1_method_9_code
def yX6_order : MethodName := ⟨RX6, "order", "()I"⟩
abbrev cX6_tell : ByteArray := prog_1_method_10_code
def yX6_tell : MethodName := ⟨RX6, "tell", "(II)I"⟩
abbrev cX6_force : ByteArray := prog_1_method_11_code
def yX6_force : MethodName := ⟨RX6, "force", "(II)I"⟩
abbrev cX6_pass : ByteArray := prog_1_method_12_code
def yX6_pass : MethodName := ⟨RX6, "pass", "(III)I"⟩
abbrev cX6_light : ByteArray := prog_1_method_13_code
def yX6_light : MethodName := ⟨RX6, "light", "(IIII)I"⟩
abbrev cX6_pay : ByteArray := prog_1_method_14_code
def yX6_pay : MethodName := ⟨RX6, "pay", "(II)I"⟩
abbrev cX6_paid : ByteArray := prog_1_method_15_code
def yX6_paid : MethodName := ⟨RX6, "paid", "(I)I"⟩
abbrev cX6_credit : ByteArray := prog_1_method_16_code
def yX6_credit : MethodName := ⟨RX6, "credit", "(I)J"⟩
abbrev cX6_give : ByteArray := prog_1_method_17_code
def yX6_give : MethodName := ⟨RX6, "give", "(I)I"⟩
abbrev cX6_lack : ByteArray := prog_1_method_18_code
def yX6_lack : MethodName := ⟨RX6, "lack", "(II)I"⟩
abbrev cX6_road : ByteArray := prog_1_method_19_code
def yX6_road : MethodName := ⟨RX6, "road", "(III)I"⟩
abbrev cX6_send : ByteArray := prog_1_method_20_code
def yX6_send : MethodName := ⟨RX6, "send", "(II)I"⟩
abbrev cX6_bring : ByteArray := prog_1_method_21_code
def yX6_bring : MethodName := ⟨RX6, "bring", "(II)I"⟩
abbrev cX6_melt : ByteArray := prog_1_method_22_code
def yX6_melt : MethodName := ⟨RX6, "melt", "(I)I"⟩
abbrev cX6_furnace : ByteArray := prog_1_method_23_code
def yX6_furnace : MethodName := ⟨RX6, "furnace", "(II)I"⟩
abbrev cX6_refine : ByteArray := prog_1_method_24_code
def yX6_refine : MethodName := ⟨RX6, "refine", "(I)I"⟩
abbrev cX6_strike : ByteArray := prog_1_method_25_code
def yX6_strike : MethodName := ⟨RX6, "strike", "(III)I"⟩
abbrev cX6_mint : ByteArray := prog_1_method_26_code
def yX6_mint : MethodName := ⟨RX6, "mint", "(II)J"⟩
abbrev cX6_all : ByteArray := prog_1_method_27_code
def yX6_all : MethodName := ⟨RX6, "all", "()J"⟩
abbrev cX6_drawn : ByteArray := prog_1_method_28_code
def yX6_drawn : MethodName := ⟨RX6, "drawn", "(IIII)I"⟩
abbrev cX6_wish : ByteArray := prog_1_method_29_code
def yX6_wish : MethodName := ⟨RX6, "wish", "(III)I"⟩
abbrev cX6_flow : ByteArray := prog_1_method_30_code
def yX6_flow : MethodName := ⟨RX6, "flow", "()I"⟩
abbrev cX6_sent : ByteArray := prog_1_method_31_code
def yX6_sent : MethodName := ⟨RX6, "sent", "()I"⟩
abbrev cX6_count : ByteArray := prog_1_method_32_code
def yX6_count : MethodName := ⟨RX6, "count", "(I)I"⟩
abbrev cX6_within : ByteArray := prog_1_method_33_code
def yX6_within : MethodName := ⟨RX6, "within", "(III)Z"⟩
abbrev cX6_oneIf : ByteArray := prog_1_method_34_code
def yX6_oneIf : MethodName := ⟨RX6, "oneIf", "(Z)I"⟩
abbrev cX6_sumOf : ByteArray := prog_1_method_35_code
def yX6_sumOf : MethodName := ⟨RX6, "sumOf", "([I)I"⟩
abbrev cX6_isTown : ByteArray := prog_1_method_36_code
def yX6_isTown : MethodName := ⟨RX6, "isTown", "(I)Z"⟩
abbrev cX6_isMint : ByteArray := prog_1_method_37_code
def yX6_isMint : MethodName := ⟨RX6, "isMint", "(I)Z"⟩
abbrev cX6_sortAt : ByteArray := prog_1_method_38_code
def yX6_sortAt : MethodName := ⟨RX6, "sortAt", "(I)LNewSilver$Sort;"⟩
abbrev cX6_lotAt : ByteArray := prog_1_method_39_code
def yX6_lotAt : MethodName := ⟨RX6, "lotAt", "(I)LNewSilver$Lot;"⟩
abbrev cX6_orderAt : ByteArray := prog_1_method_40_code
def yX6_orderAt : MethodName := ⟨RX6, "orderAt", "(I)LNewSilver$Order;"⟩
abbrev cX6_potAt : ByteArray := prog_1_method_41_code
def yX6_potAt : MethodName := ⟨RX6, "potAt", "(I)LNewSilver$Pot;"⟩
abbrev cX6_hasOwnFine : ByteArray := prog_1_method_42_code
def yX6_hasOwnFine : MethodName := ⟨RX6, "hasOwnFine", "(I)Z"⟩
abbrev cX6_isLotAsTold : ByteArray := prog_1_method_43_code
def yX6_isLotAsTold : MethodName := ⟨RX6, "isLotAsTold", "(ILNewSilver$Sort;III)Z"⟩
abbrev cX6_keepLot : ByteArray := prog_1_method_44_code
def yX6_keepLot : MethodName := ⟨RX6, "keepLot", "(LNewSilver$Lot;)I"⟩
abbrev cX6_orderInForce : ByteArray := prog_1_method_45_code
def yX6_orderInForce : MethodName := ⟨RX6, "orderInForce", "(II)I"⟩
abbrev cX6_worthOf : ByteArray := prog_1_method_46_code
def yX6_worthOf : MethodName := ⟨RX6, "worthOf", "(LNewSilver$Lot;ILNewSilver$Order;)I"⟩
abbrev cX6_reckonWorth : ByteArray := prog_1_method_47_code
def yX6_reckonWorth : MethodName := ⟨RX6, "reckonWorth", "(I)J"⟩
abbrev cX6_payWorst : ByteArray := prog_1_method_48_code
def yX6_payWorst : MethodName := ⟨RX6, "payWorst", "()I"⟩
abbrev cX6_isWorse : ByteArray := prog_1_method_49_code
def yX6_isWorse : MethodName := ⟨RX6, "isWorse", "(LNewSilver$Lot;ILNewSilver$Lot;I)Z"⟩
abbrev cX6_findFalse : ByteArray := prog_1_method_50_code
def yX6_findFalse : MethodName := ⟨RX6, "findFalse", "(I)V"⟩
abbrev cX6_countMelted : ByteArray := prog_1_method_51_code
def yX6_countMelted : MethodName := ⟨RX6, "countMelted", "()I"⟩
abbrev cX6_countOnRoads : ByteArray := prog_1_method_52_code
def yX6_countOnRoads : MethodName := ⟨RX6, "countOnRoads", "()I"⟩
abbrev cX6_countInChests : ByteArray := prog_1_method_53_code
def yX6_countInChests : MethodName := ⟨RX6, "countInChests", "()I"⟩
def RX7 : String := "NewSilverModel"
def TX7 : u_T := fun k => match k with
  | 0 => ("NewSilverModel", "code", "I", false)
  | 1 => ("NewSilverModel", "sorts", "I", false)
  | 2 => ("NewSilverModel", "least", "[I", true)
  | 3 => ("NewSilverModel", "most", "[I", true)
  | 4 => ("NewSilverModel", "fineOf", "[I", true)
  | 5 => ("NewSilverModel", "value", "[I", true)
  | 6 => ("NewSilverModel", "today", "I", false)
  | 7 => ("NewSilverModel", "lots", "I", false)
  | 8 => ("NewSilverModel", "kind", "[I", true)
  | 9 => ("NewSilverModel", "sort", "[I", true)
  | 10 => ("NewSilverModel", "coins", "[I", true)
  | 11 => ("NewSilverModel", "weight", "[I", true)
  | 12 => ("NewSilverModel", "ownFine", "[I", true)
  | 13 => ("NewSilverModel", "town", "[I", true)
  | 14 => ("NewSilverModel", "mint", "[I", true)
  | 15 => ("NewSilverModel", "comes", "[I", true)
  | 16 => ("NewSilverModel", "melted", "[Z", true)
  | 17 => ("NewSilverModel", "chest", "[Z", true)
  | 18 => ("NewSilverModel", "isFound", "[Z", true)
  | 19 => ("NewSilverModel", "tape", "[B", true)
  | 20 => ("NewSilverModel", "taped", "I", false)
  | 21 => ("NewSilverModel", "orders", "I", false)
  | 22 => ("NewSilverModel", "says", "[I", true)
  | 23 => ("NewSilverModel", "pence", "[I", true)
  | 24 => ("NewSilverModel", "grains", "[I", true)
  | 25 => ("NewSilverModel", "toldOn", "[I", true)
  | 26 => ("NewSilverModel", "at", "I", false)
  | 27 => ("NewSilverModel", "number", "I", false)
  | 28 => ("NewSilverModel", "credits", "[J", true)
  | 29 => ("NewSilverModel", "paidMany", "I", false)
  | 30 => ("NewSilverModel", "paidLot", "[I", true)
  | 31 => ("NewSilverModel", "row", "[I", true)
  | 32 => ("NewSilverModel", "roads", "[I", true)
  | 33 => ("NewSilverModel", "pot", "[J", true)
  | 34 => ("NewSilverModel", "potSilver", "[J", true)
  | 35 => ("NewSilverModel", "refined", "[Z", true)
  | 36 => ("NewSilverModel", "copper", "[J", true)
  | 37 => ("NewSilverModel", "treasury", "[J", true)
  | 38 => ("NewSilverModel", "furnace", "[I", true)
  | 39 => ("NewSilverModel", "meltedGrains", "[I", true)
  | 40 => ("NewSilverModel", "meltedOn", "[I", true)
  | 41 => ("NewSilverModel", "off", "J", false)
  | 42 => ("NewSilverModel", "gives", "[I", true)
  | 43 => ("NewSilverModel", "needs", "[I", true)
  | 44 => ("NewSilverModel", "flow", "[I", true)
  | 45 => ("NewSilverModel", "has", "[I", true)
  | 46 => ("NewSilverModel", "wants", "[I", true)
  | 47 => ("NewSilverModel", "far", "[I", true)
  | _ => ("NewSilverModel", "before", "[I", true)
def tyX7 : Nat → FieldType := fun k => match k with
  | 0 => .int
  | 1 => .int
  | 2 => .array .int
  | 3 => .array .int
  | 4 => .array .int
  | 5 => .array .int
  | 6 => .int
  | 7 => .int
  | 8 => .array .int
  | 9 => .array .int
  | 10 => .array .int
  | 11 => .array .int
  | 12 => .array .int
  | 13 => .array .int
  | 14 => .array .int
  | 15 => .array .int
  | 16 => .array .boolean
  | 17 => .array .boolean
  | 18 => .array .boolean
  | 19 => .array .byte
  | 20 => .int
  | 21 => .int
  | 22 => .array .int
  | 23 => .array .int
  | 24 => .array .int
  | 25 => .array .int
  | 26 => .int
  | 27 => .int
  | 28 => .array .long
  | 29 => .int
  | 30 => .array .int
  | 31 => .array .int
  | 32 => .array .int
  | 33 => .array .long
  | 34 => .array .long
  | 35 => .array .boolean
  | 36 => .array .long
  | 37 => .array .long
  | 38 => .array .int
  | 39 => .array .int
  | 40 => .array .int
  | 41 => .long
  | 42 => .array .int
  | 43 => .array .int
  | 44 => .array .int
  | 45 => .array .int
  | 46 => .array .int
  | 47 => .array .int
  | _ => .array .int
abbrev wsX70 : List Cond := u_ws RX7 TX7 49
theorem nmX7 : ∀ a, a < 49 → ∀ b, b < 49 → a ≠ b → (TX7 a).2.1 ≠ (TX7 b).2.1 := by decide +kernel
theorem tyX7_ok : ∀ k, k < 49 → parseFieldDescriptor (TX7 k).2.2.1 = some (tyX7 k) := by decide +kernel
abbrev cX7_init : ByteArray := prog_9_method_1_code
def yX7_init : MethodName := ⟨RX7, "<init>", "()V"⟩
abbrev cX7_in : ByteArray := prog_9_method_3_code
def yX7_in : MethodName := ⟨RX7, "in", "(III)Z"⟩
abbrev cX7_isSort : ByteArray := prog_9_method_4_code
def yX7_isSort : MethodName := ⟨RX7, "isSort", "(I)Z"⟩
abbrev cX7_isLot : ByteArray := prog_9_method_5_code
def yX7_isLot : MethodName := ⟨RX7, "isLot", "(I)Z"⟩
abbrev cX7_isTown : ByteArray := prog_9_method_6_code
def yX7_isTown : MethodName := ⟨RX7, "isTown", "(I)Z"⟩
abbrev cX7_isMint : ByteArray := prog_9_method_7_code
def yX7_isMint : MethodName := ⟨RX7, "isMint", "(I)Z"⟩
abbrev cX7_sort : ByteArray := prog_9_method_8_code
def yX7_sort : MethodName := ⟨RX7, "sort", "(IIII)I"⟩
abbrev cX7_isWeight : ByteArray := prog_9_method_9_code
def yX7_isWeight : MethodName := ⟨RX7, "isWeight", "(IIII)Z"⟩
abbrev cX7_newLot : ByteArray := prog_9_method_10_code
def yX7_newLot : MethodName := ⟨RX7, "newLot", "(IIIIIII)I"⟩
abbrev cX7_lot : ByteArray := prog_9_method_11_code
def yX7_lot : MethodName := ⟨RX7, "lot", "(IIIIII)I"⟩
abbrev cX7_open : ByteArray := prog_9_method_12_code
def yX7_open : MethodName := ⟨RX7, "open", "(II)I"⟩
abbrev cX7_fine : ByteArray := prog_9_method_13_code
def yX7_fine : MethodName := ⟨RX7, "fine", "(I)I"⟩
abbrev cX7_silverOf : ByteArray := prog_9_method_14_code
def yX7_silverOf : MethodName := ⟨RX7, "silverOf", "(I)J"⟩
abbrev cX7_isUnderWay : ByteArray := prog_9_method_15_code
def yX7_isUnderWay : MethodName := ⟨RX7, "isUnderWay", "(I)Z"⟩
abbrev cX7_about : ByteArray := prog_9_method_16_code
def yX7_about : MethodName := ⟨RX7, "about", "(II)I"⟩
abbrev cX7_silver : ByteArray := prog_9_method_17_code
def yX7_silver : MethodName := ⟨RX7, "silver", "(I)J"⟩
abbrev cX7_today : ByteArray := prog_9_method_18_code
def yX7_today : MethodName := ⟨RX7, "today", "(I)I"⟩
abbrev cX7_feed : ByteArray := prog_9_method_19_code
def yX7_feed : MethodName := ⟨RX7, "feed", "(JI)I"⟩
abbrev cX7_takes : ByteArray := prog_9_method_20_code
def yX7_takes : MethodName := ⟨RX7, "takes", "(I)Z"⟩
abbrev cX7_digitAt : ByteArray := prog_9_method_21_code
def yX7_digitAt : MethodName := ⟨RX7, "digitAt", "(I)Z"⟩
abbrev cX7_takesNumber : ByteArray := prog_9_method_22_code
def yX7_takesNumber : MethodName := ⟨RX7, "takesNumber", "(II)Z"⟩
abbrev cX7_takesIs : ByteArray := prog_9_method_23_code
def yX7_takesIs : MethodName := ⟨RX7, "takesIs", "()Z"⟩
abbrev cX7_takesWeight : ByteArray := prog_9_method_24_code
def yX7_takesWeight : MethodName := ⟨RX7, "takesWeight", "()Z"⟩
abbrev cX7_clause : ByteArray := prog_9_method_25_code
def yX7_clause : MethodName := ⟨RX7, "clause", "(I)Z"⟩
abbrev cX7_order : ByteArray := prog_9_method_26_code
def yX7_order : MethodName := ⟨RX7, "order", "()I"⟩
abbrev cX7_isOrder : ByteArray := prog_9_method_27_code
def yX7_isOrder : MethodName := ⟨RX7, "isOrder", "(I)Z"⟩
abbrev cX7_tell : ByteArray := prog_9_method_28_code
def yX7_tell : MethodName := ⟨RX7, "tell", "(II)I"⟩
abbrev cX7_forceIn : ByteArray := prog_9_method_29_code
def yX7_forceIn : MethodName := ⟨RX7, "forceIn", "(II)I"⟩
abbrev cX7_force : ByteArray := prog_9_method_30_code
def yX7_force : MethodName := ⟨RX7, "force", "(II)I"⟩
abbrev cX7_passes : ByteArray := prog_9_method_31_code
def yX7_passes : MethodName := ⟨RX7, "passes", "(III)I"⟩
abbrev cX7_pass : ByteArray := prog_9_method_32_code
def yX7_pass : MethodName := ⟨RX7, "pass", "(III)I"⟩
abbrev cX7_lowest : ByteArray := prog_9_method_33_code
def yX7_lowest : MethodName := ⟨RX7, "lowest", "(I)I"⟩
abbrev cX7_isDrawn : ByteArray := prog_9_method_34_code
def yX7_isDrawn : MethodName := ⟨RX7, "isDrawn", "(III)Z"⟩
abbrev cX7_light : ByteArray := prog_9_method_35_code
def yX7_light : MethodName := ⟨RX7, "light", "(IIII)I"⟩
abbrev cX7_isThere : ByteArray := prog_9_method_36_code
def yX7_isThere : MethodName := ⟨RX7, "isThere", "(II)Z"⟩
abbrev cX7_isWorse : ByteArray := prog_9_method_37_code
def yX7_isWorse : MethodName := ⟨RX7, "isWorse", "(III)Z"⟩
abbrev cX7_pay : ByteArray := prog_9_method_38_code
def yX7_pay : MethodName := ⟨RX7, "pay", "(II)I"⟩
abbrev cX7_paid : ByteArray := prog_9_method_39_code
def yX7_paid : MethodName := ⟨RX7, "paid", "(I)I"⟩
abbrev cX7_credit : ByteArray := prog_9_method_40_code
def yX7_credit : MethodName := ⟨RX7, "credit", "(I)J"⟩
abbrev cX7_give : ByteArray := prog_9_method_41_code
def yX7_give : MethodName := ⟨RX7, "give", "(I)I"⟩
abbrev cX7_lack : ByteArray := prog_9_method_42_code
def yX7_lack : MethodName := ⟨RX7, "lack", "(II)I"⟩
abbrev cX7_road : ByteArray := prog_9_method_43_code
def yX7_road : MethodName := ⟨RX7, "road", "(III)I"⟩
abbrev cX7_send : ByteArray := prog_9_method_44_code
def yX7_send : MethodName := ⟨RX7, "send", "(II)I"⟩
abbrev cX7_isAtMint : ByteArray := prog_9_method_45_code
def yX7_isAtMint : MethodName := ⟨RX7, "isAtMint", "(I)Z"⟩
abbrev cX7_bring : ByteArray := prog_9_method_46_code
def yX7_bring : MethodName := ⟨RX7, "bring", "(II)I"⟩
abbrev cX7_meltedToday : ByteArray := prog_9_method_47_code
def yX7_meltedToday : MethodName := ⟨RX7, "meltedToday", "(I)I"⟩
abbrev cX7_melt : ByteArray := prog_9_method_48_code
def yX7_melt : MethodName := ⟨RX7, "melt", "(I)I"⟩
abbrev cX7_furnace : ByteArray := prog_9_method_49_code
def yX7_furnace : MethodName := ⟨RX7, "furnace", "(II)I"⟩
abbrev cX7_refine : ByteArray := prog_9_method_50_code
def yX7_refine : MethodName := ⟨RX7, "refine", "(I)I"⟩
abbrev cX7_strike : ByteArray := prog_9_method_51_code
def yX7_strike : MethodName := ⟨RX7, "strike", "(III)I"⟩
abbrev cX7_mint : ByteArray := prog_9_method_52_code
def yX7_mint : MethodName := ⟨RX7, "mint", "(II)J"⟩
abbrev cX7_all : ByteArray := prog_9_method_53_code
def yX7_all : MethodName := ⟨RX7, "all", "()J"⟩
abbrev cX7_drawn : ByteArray := prog_9_method_54_code
def yX7_drawn : MethodName := ⟨RX7, "drawn", "(IIII)I"⟩
abbrev cX7_wish : ByteArray := prog_9_method_55_code
def yX7_wish : MethodName := ⟨RX7, "wish", "(III)I"⟩
abbrev cX7_findFar : ByteArray := prog_9_method_56_code
def yX7_findFar : MethodName := ⟨RX7, "findFar", "()V"⟩
abbrev cX7_sendOne : ByteArray := prog_9_method_57_code
def yX7_sendOne : MethodName := ⟨RX7, "sendOne", "()I"⟩
abbrev cX7_flow : ByteArray := prog_9_method_58_code
def yX7_flow : MethodName := ⟨RX7, "flow", "()I"⟩
abbrev cX7_sent : ByteArray := prog_9_method_59_code
def yX7_sent : MethodName := ⟨RX7, "sent", "()I"⟩
abbrev cX7_count : ByteArray := prog_9_method_60_code
def yX7_count : MethodName := ⟨RX7, "count", "(I)I"⟩
def RJx8e188 : String := "java/lang/Cloneable"
def TJx8e188 : u_T := fun k => match k with
  | _ => ("", "", "", false)
def tyJx8e188 : Nat → FieldType := fun k => match k with
  | _ => .int
abbrev wsJx8e1880 : List Cond := u_ws RJx8e188 TJx8e188 0
theorem nmJx8e188 : ∀ a, a < 0 → ∀ b, b < 0 → a ≠ b → (TJx8e188 a).2.1 ≠ (TJx8e188 b).2.1 := by decide +kernel
theorem tyJx8e188_ok : ∀ k, k < 0 → parseFieldDescriptor (TJx8e188 k).2.2.1 = some (tyJx8e188 k) := by decide +kernel
def RJ9 : String := "java/lang/Math"
def TJ9 : u_T := fun k => match k with
  | _ => ("", "", "", false)
def tyJ9 : Nat → FieldType := fun k => match k with
  | _ => .int
abbrev wsJ90 : List Cond := u_ws RJ9 TJ9 0
theorem nmJ9 : ∀ a, a < 0 → ∀ b, b < 0 → a ≠ b → (TJ9 a).2.1 ≠ (TJ9 b).2.1 := by decide +kernel
theorem tyJ9_ok : ∀ k, k < 0 → parseFieldDescriptor (TJ9 k).2.2.1 = some (tyJ9 k) := by decide +kernel
abbrev cJ9_max_f86c9 : ByteArray := prog_11_method_66_code
def yJ9_max_f86c9 : MethodName := ⟨RJ9, "max", "(JJ)J"⟩
abbrev cJ9_min_7cf53 : ByteArray := prog_11_method_69_code
def yJ9_min_7cf53 : MethodName := ⟨RJ9, "min", "(II)I"⟩
def RJ0 : String := "java/lang/String"
def TJ0 : u_T := fun k => match k with
  | _ => ("", "", "", false)
def tyJ0 : Nat → FieldType := fun k => match k with
  | _ => .int
abbrev wsJ00 : List Cond := u_ws RJ0 TJ0 0
theorem nmJ0 : ∀ a, a < 0 → ∀ b, b < 0 → a ≠ b → (TJ0 a).2.1 ≠ (TJ0 b).2.1 := by decide +kernel
theorem tyJ0_ok : ∀ k, k < 0 → parseFieldDescriptor (TJ0 k).2.2.1 = some (tyJ0 k) := by decide +kernel
abbrev cJ0_length_8abf5 : ByteArray := prog_12_method_54_code
def yJ0_length_8abf5 : MethodName := ⟨RJ0, "length", "()I"⟩
abbrev cJ0_charAt_5068e : ByteArray := prog_12_method_56_code
def yJ0_charAt_5068e : MethodName := ⟨RJ0, "charAt", "(I)C"⟩
abbrev cJ0_coder_7d493 : ByteArray := prog_12_method_152_code
def yJ0_coder_7d493 : MethodName := ⟨RJ0, "coder", "()B"⟩
abbrev cJ0_isLatin1_aae02 : ByteArray := prog_12_method_154_code
def yJ0_isLatin1_aae02 : MethodName := ⟨RJ0, "isLatin1", "()Z"⟩
abbrev cJ0_checkIndex_df160 : ByteArray := prog_12_method_155_code
def yJ0_checkIndex_df160 : MethodName := ⟨RJ0, "checkIndex", "(II)V"⟩
def RJ1 : String := "java/lang/StringLatin1"
def TJ1 : u_T := fun k => match k with
  | _ => ("", "", "", false)
def tyJ1 : Nat → FieldType := fun k => match k with
  | _ => .int
abbrev wsJ10 : List Cond := u_ws RJ1 TJ1 0
theorem nmJ1 : ∀ a, a < 0 → ∀ b, b < 0 → a ≠ b → (TJ1 a).2.1 ≠ (TJ1 b).2.1 := by decide +kernel
theorem tyJ1_ok : ∀ k, k < 0 → parseFieldDescriptor (TJ1 k).2.2.1 = some (tyJ1 k) := by decide +kernel
abbrev cJ1_charAt_3b067 : ByteArray := prog_13_method_2_code
def yJ1_charAt_3b067 : MethodName := ⟨RJ1, "charAt", "([BI)C"⟩
def RJ2 : String := "java/lang/StringUTF16"
def TJ2 : u_T := fun k => match k with
  | _ => ("", "", "", false)
def tyJ2 : Nat → FieldType := fun k => match k with
  | _ => .int
abbrev wsJ20 : List Cond := u_ws RJ2 TJ2 0
theorem nmJ2 : ∀ a, a < 0 → ∀ b, b < 0 → a ≠ b → (TJ2 a).2.1 ≠ (TJ2 b).2.1 := by decide +kernel
theorem tyJ2_ok : ∀ k, k < 0 → parseFieldDescriptor (TJ2 k).2.2.1 = some (tyJ2 k) := by decide +kernel
abbrev cJ2_getChar_3b067 : ByteArray := prog_14_method_5_code
def yJ2_getChar_3b067 : MethodName := ⟨RJ2, "getChar", "([BI)C"⟩
abbrev cJ2_length_9d52b : ByteArray := prog_14_method_6_code
def yJ2_length_9d52b : MethodName := ⟨RJ2, "length", "([B)I"⟩
abbrev cJ2_charAt_3b067 : ByteArray := prog_14_method_83_code
def yJ2_charAt_3b067 : MethodName := ⟨RJ2, "charAt", "([BI)C"⟩
abbrev cJ2_checkIndex_2214a : ByteArray := prog_14_method_91_code
def yJ2_checkIndex_2214a : MethodName := ⟨RJ2, "checkIndex", "(I[B)V"⟩
def RJ10 : String := "java/lang/System"
def TJ10 : u_T := fun k => match k with
  | _ => ("", "", "", false)
def tyJ10 : Nat → FieldType := fun k => match k with
  | _ => .int
abbrev wsJ100 : List Cond := u_ws RJ10 TJ10 0
theorem nmJ10 : ∀ a, a < 0 → ∀ b, b < 0 → a ≠ b → (TJ10 a).2.1 ≠ (TJ10 b).2.1 := by decide +kernel
theorem tyJ10_ok : ∀ k, k < 0 → parseFieldDescriptor (TJ10 k).2.2.1 = some (tyJ10 k) := by decide +kernel
def RJ7 : String := "java/util/Arrays"
def TJ7 : u_T := fun k => match k with
  | _ => ("", "", "", false)
def tyJ7 : Nat → FieldType := fun k => match k with
  | _ => .int
abbrev wsJ70 : List Cond := u_ws RJ7 TJ7 0
theorem nmJ7 : ∀ a, a < 0 → ∀ b, b < 0 → a ≠ b → (TJ7 a).2.1 ≠ (TJ7 b).2.1 := by decide +kernel
theorem tyJ7_ok : ∀ k, k < 0 → parseFieldDescriptor (TJ7 k).2.2.1 = some (tyJ7 k) := by decide +kernel
abbrev cJ7_fill_53178 : ByteArray := prog_16_method_103_code
def yJ7_fill_53178 : MethodName := ⟨RJ7, "fill", "([II)V"⟩
abbrev cJ7_copyOf_59c91 : ByteArray := prog_16_method_123_code
def yJ7_copyOf_59c91 : MethodName := ⟨RJ7, "copyOf", "([II)[I"⟩
def RJ3 : String := "jdk/internal/util/Preconditions"
def TJ3 : u_T := fun k => match k with
  | _ => ("", "", "", false)
def tyJ3 : Nat → FieldType := fun k => match k with
  | _ => .int
abbrev wsJ30 : List Cond := u_ws RJ3 TJ3 0
theorem nmJ3 : ∀ a, a < 0 → ∀ b, b < 0 → a ≠ b → (TJ3 a).2.1 ≠ (TJ3 b).2.1 := by decide +kernel
theorem tyJ3_ok : ∀ k, k < 0 → parseFieldDescriptor (TJ3 k).2.2.1 = some (tyJ3 k) := by decide +kernel
abbrev cJ3_checkIndex_8e157 : ByteArray := prog_17_method_11_code
def yJ3_checkIndex_8e157 : MethodName := ⟨RJ3, "checkIndex", "(IILjava/util/function/BiFunction;)I"⟩
def RL : String := "NewSilverLaw"
abbrev cL_law : ByteArray := code
def yL_law : MethodName := ⟨RL, "law", "([I)Z"⟩
abbrev vwCl : List vw_C := [(RX0, TX0, 7), (RX1, TX1, 12), (RX2, TX2, 3), (RX3, TX3, 9), (RX4, TX4, 4), (RX5, TX5, 5), (RX6, TX6, 17), (RX7, TX7, 49)]
-- ===== what the tables say of a field's use: own class, pool number, class number, slot, type, final =====
def h_FL (own : String) (idx ci k : Nat) (ty : FieldType) (fin : Bool) : Prop := ∃ (C : String) (T : u_T) (N : Nat), vwCl[ci]? = some (C, T, N) ∧ k < N ∧ (T k).1 = C ∧ (T k).2.2.2 = fin ∧ parseFieldDescriptor (T k).2.2.1 = some ty ∧ Cond.fieldLink own idx C (T k).2.1 (T k).2.2.1 ∈ lw_tbl
theorem flX5_9 : h_FL RX5 9 5 0 (.array .int) true := ⟨_, _, _, rfl, by decide, rfl, rfl, by decide +kernel, List.mem_of_getElem? (i := 85) (by decide +kernel)⟩
theorem flX6_193 : h_FL RX6 193 5 0 (.array .int) true := ⟨_, _, _, rfl, by decide, rfl, rfl, by decide +kernel, List.mem_of_getElem? (i := 86) (by decide +kernel)⟩
theorem flX5_15 : h_FL RX5 15 5 1 (.array .int) true := ⟨_, _, _, rfl, by decide, rfl, rfl, by decide +kernel, List.mem_of_getElem? (i := 87) (by decide +kernel)⟩
theorem flX6_196 : h_FL RX6 196 5 1 (.array .int) true := ⟨_, _, _, rfl, by decide, rfl, rfl, by decide +kernel, List.mem_of_getElem? (i := 88) (by decide +kernel)⟩
theorem flX5_22 : h_FL RX5 22 5 2 .int false := ⟨_, _, _, rfl, by decide, rfl, rfl, by decide +kernel, List.mem_of_getElem? (i := 89) (by decide +kernel)⟩
theorem flX6_183 : h_FL RX6 183 5 2 .int false := ⟨_, _, _, rfl, by decide, rfl, rfl, by decide +kernel, List.mem_of_getElem? (i := 90) (by decide +kernel)⟩
theorem flX5_18 : h_FL RX5 18 5 3 (.array .byte) true := ⟨_, _, _, rfl, by decide, rfl, rfl, by decide +kernel, List.mem_of_getElem? (i := 91) (by decide +kernel)⟩
theorem flX5_26 : h_FL RX5 26 5 4 .int false := ⟨_, _, _, rfl, by decide, rfl, rfl, by decide +kernel, List.mem_of_getElem? (i := 92) (by decide +kernel)⟩
theorem flX0_9 : h_FL RX0 9 0 0 (.array .int) true := ⟨_, _, _, rfl, by decide, rfl, rfl, by decide +kernel, List.mem_of_getElem? (i := 114) (by decide +kernel)⟩
theorem flX0_15 : h_FL RX0 15 0 1 (.array .int) true := ⟨_, _, _, rfl, by decide, rfl, rfl, by decide +kernel, List.mem_of_getElem? (i := 115) (by decide +kernel)⟩
theorem flX0_18 : h_FL RX0 18 0 2 (.array .int) true := ⟨_, _, _, rfl, by decide, rfl, rfl, by decide +kernel, List.mem_of_getElem? (i := 116) (by decide +kernel)⟩
theorem flX0_21 : h_FL RX0 21 0 3 (.array .int) true := ⟨_, _, _, rfl, by decide, rfl, rfl, by decide +kernel, List.mem_of_getElem? (i := 117) (by decide +kernel)⟩
theorem flX0_24 : h_FL RX0 24 0 4 (.array .int) true := ⟨_, _, _, rfl, by decide, rfl, rfl, by decide +kernel, List.mem_of_getElem? (i := 118) (by decide +kernel)⟩
theorem flX0_27 : h_FL RX0 27 0 5 (.array .int) true := ⟨_, _, _, rfl, by decide, rfl, rfl, by decide +kernel, List.mem_of_getElem? (i := 119) (by decide +kernel)⟩
theorem flX0_30 : h_FL RX0 30 0 6 (.array .int) true := ⟨_, _, _, rfl, by decide, rfl, rfl, by decide +kernel, List.mem_of_getElem? (i := 120) (by decide +kernel)⟩
theorem flX3_26 : h_FL RX3 26 3 0 .long false := ⟨_, _, _, rfl, by decide, rfl, rfl, by decide +kernel, List.mem_of_getElem? (i := 146) (by decide +kernel)⟩
theorem flX6_268 : h_FL RX6 268 3 0 .long false := ⟨_, _, _, rfl, by decide, rfl, rfl, by decide +kernel, List.mem_of_getElem? (i := 147) (by decide +kernel)⟩
theorem flX3_30 : h_FL RX3 30 3 1 .long false := ⟨_, _, _, rfl, by decide, rfl, rfl, by decide +kernel, List.mem_of_getElem? (i := 148) (by decide +kernel)⟩
theorem flX6_280 : h_FL RX6 280 3 1 .long false := ⟨_, _, _, rfl, by decide, rfl, rfl, by decide +kernel, List.mem_of_getElem? (i := 149) (by decide +kernel)⟩
theorem flX3_33 : h_FL RX3 33 3 2 .boolean false := ⟨_, _, _, rfl, by decide, rfl, rfl, by decide +kernel, List.mem_of_getElem? (i := 150) (by decide +kernel)⟩
theorem flX6_274 : h_FL RX6 274 3 2 .boolean false := ⟨_, _, _, rfl, by decide, rfl, rfl, by decide +kernel, List.mem_of_getElem? (i := 151) (by decide +kernel)⟩
theorem flX3_39 : h_FL RX3 39 3 3 .long false := ⟨_, _, _, rfl, by decide, rfl, rfl, by decide +kernel, List.mem_of_getElem? (i := 152) (by decide +kernel)⟩
theorem flX6_283 : h_FL RX6 283 3 3 .long false := ⟨_, _, _, rfl, by decide, rfl, rfl, by decide +kernel, List.mem_of_getElem? (i := 153) (by decide +kernel)⟩
theorem flX3_46 : h_FL RX3 46 3 4 .long false := ⟨_, _, _, rfl, by decide, rfl, rfl, by decide +kernel, List.mem_of_getElem? (i := 154) (by decide +kernel)⟩
theorem flX6_286 : h_FL RX6 286 3 4 .long false := ⟨_, _, _, rfl, by decide, rfl, rfl, by decide +kernel, List.mem_of_getElem? (i := 155) (by decide +kernel)⟩
theorem flX3_51 : h_FL RX3 51 3 5 .long false := ⟨_, _, _, rfl, by decide, rfl, rfl, by decide +kernel, List.mem_of_getElem? (i := 156) (by decide +kernel)⟩
theorem flX6_291 : h_FL RX6 291 3 5 .long false := ⟨_, _, _, rfl, by decide, rfl, rfl, by decide +kernel, List.mem_of_getElem? (i := 157) (by decide +kernel)⟩
theorem flX3_10 : h_FL RX3 10 3 6 .int false := ⟨_, _, _, rfl, by decide, rfl, rfl, by decide +kernel, List.mem_of_getElem? (i := 158) (by decide +kernel)⟩
theorem flX6_258 : h_FL RX6 258 3 6 .int false := ⟨_, _, _, rfl, by decide, rfl, rfl, by decide +kernel, List.mem_of_getElem? (i := 159) (by decide +kernel)⟩
theorem flX3_19 : h_FL RX3 19 3 7 .int false := ⟨_, _, _, rfl, by decide, rfl, rfl, by decide +kernel, List.mem_of_getElem? (i := 160) (by decide +kernel)⟩
theorem flX3_16 : h_FL RX3 16 3 8 .int false := ⟨_, _, _, rfl, by decide, rfl, rfl, by decide +kernel, List.mem_of_getElem? (i := 161) (by decide +kernel)⟩
theorem flX6_11 : h_FL RX6 11 6 0 (.array (.object "NewSilver$Sort")) true := ⟨_, _, _, rfl, by decide, rfl, rfl, by decide +kernel, List.mem_of_getElem? (i := 181) (by decide +kernel)⟩
theorem flX6_78 : h_FL RX6 78 6 1 .int false := ⟨_, _, _, rfl, by decide, rfl, rfl, by decide +kernel, List.mem_of_getElem? (i := 182) (by decide +kernel)⟩
theorem flX6_17 : h_FL RX6 17 6 2 (.array (.object "NewSilver$Lot")) true := ⟨_, _, _, rfl, by decide, rfl, rfl, by decide +kernel, List.mem_of_getElem? (i := 183) (by decide +kernel)⟩
theorem flX6_97 : h_FL RX6 97 6 3 .int false := ⟨_, _, _, rfl, by decide, rfl, rfl, by decide +kernel, List.mem_of_getElem? (i := 184) (by decide +kernel)⟩
theorem flX6_23 : h_FL RX6 23 6 4 (.array (.object "NewSilver$Order")) true := ⟨_, _, _, rfl, by decide, rfl, rfl, by decide +kernel, List.mem_of_getElem? (i := 185) (by decide +kernel)⟩
theorem flX6_186 : h_FL RX6 186 6 5 .int false := ⟨_, _, _, rfl, by decide, rfl, rfl, by decide +kernel, List.mem_of_getElem? (i := 186) (by decide +kernel)⟩
theorem flX6_30 : h_FL RX6 30 6 6 (.object "NewSilver$Tape") true := ⟨_, _, _, rfl, by decide, rfl, rfl, by decide +kernel, List.mem_of_getElem? (i := 187) (by decide +kernel)⟩
theorem flX6_36 : h_FL RX6 36 6 7 (.array (.object "NewSilver$Pot")) true := ⟨_, _, _, rfl, by decide, rfl, rfl, by decide +kernel, List.mem_of_getElem? (i := 188) (by decide +kernel)⟩
theorem flX6_40 : h_FL RX6 40 6 8 (.array .int) true := ⟨_, _, _, rfl, by decide, rfl, rfl, by decide +kernel, List.mem_of_getElem? (i := 189) (by decide +kernel)⟩
theorem flX6_44 : h_FL RX6 44 6 9 (.array .long) true := ⟨_, _, _, rfl, by decide, rfl, rfl, by decide +kernel, List.mem_of_getElem? (i := 190) (by decide +kernel)⟩
theorem flX6_48 : h_FL RX6 48 6 10 (.array .int) true := ⟨_, _, _, rfl, by decide, rfl, rfl, by decide +kernel, List.mem_of_getElem? (i := 191) (by decide +kernel)⟩
theorem flX6_230 : h_FL RX6 230 6 11 .int false := ⟨_, _, _, rfl, by decide, rfl, rfl, by decide +kernel, List.mem_of_getElem? (i := 192) (by decide +kernel)⟩
theorem flX6_51 : h_FL RX6 51 6 12 (.array .int) true := ⟨_, _, _, rfl, by decide, rfl, rfl, by decide +kernel, List.mem_of_getElem? (i := 193) (by decide +kernel)⟩
theorem flX6_54 : h_FL RX6 54 6 13 (.array .int) true := ⟨_, _, _, rfl, by decide, rfl, rfl, by decide +kernel, List.mem_of_getElem? (i := 194) (by decide +kernel)⟩
theorem flX6_57 : h_FL RX6 57 6 14 (.array .int) true := ⟨_, _, _, rfl, by decide, rfl, rfl, by decide +kernel, List.mem_of_getElem? (i := 195) (by decide +kernel)⟩
theorem flX6_63 : h_FL RX6 63 6 15 (.object "NewSilver$Carrier") true := ⟨_, _, _, rfl, by decide, rfl, rfl, by decide +kernel, List.mem_of_getElem? (i := 196) (by decide +kernel)⟩
theorem flX6_154 : h_FL RX6 154 6 16 .int false := ⟨_, _, _, rfl, by decide, rfl, rfl, by decide +kernel, List.mem_of_getElem? (i := 197) (by decide +kernel)⟩
theorem flX4_9 : h_FL RX4 9 4 0 .int true := ⟨_, _, _, rfl, by decide, rfl, rfl, by decide +kernel, List.mem_of_getElem? (i := 245) (by decide +kernel)⟩
theorem flX6_134 : h_FL RX6 134 4 0 .int true := ⟨_, _, _, rfl, by decide, rfl, rfl, by decide +kernel, List.mem_of_getElem? (i := 246) (by decide +kernel)⟩
theorem flX4_15 : h_FL RX4 15 4 1 .int true := ⟨_, _, _, rfl, by decide, rfl, rfl, by decide +kernel, List.mem_of_getElem? (i := 247) (by decide +kernel)⟩
theorem flX6_127 : h_FL RX6 127 4 1 .int true := ⟨_, _, _, rfl, by decide, rfl, rfl, by decide +kernel, List.mem_of_getElem? (i := 248) (by decide +kernel)⟩
theorem flX1_54 : h_FL RX1 54 4 1 .int true := ⟨_, _, _, rfl, by decide, rfl, rfl, by decide +kernel, List.mem_of_getElem? (i := 249) (by decide +kernel)⟩
theorem flX4_18 : h_FL RX4 18 4 2 .int true := ⟨_, _, _, rfl, by decide, rfl, rfl, by decide +kernel, List.mem_of_getElem? (i := 250) (by decide +kernel)⟩
theorem flX6_103 : h_FL RX6 103 4 2 .int true := ⟨_, _, _, rfl, by decide, rfl, rfl, by decide +kernel, List.mem_of_getElem? (i := 251) (by decide +kernel)⟩
theorem flX4_21 : h_FL RX4 21 4 3 .int true := ⟨_, _, _, rfl, by decide, rfl, rfl, by decide +kernel, List.mem_of_getElem? (i := 252) (by decide +kernel)⟩
theorem flX6_321 : h_FL RX6 321 4 3 .int true := ⟨_, _, _, rfl, by decide, rfl, rfl, by decide +kernel, List.mem_of_getElem? (i := 253) (by decide +kernel)⟩
theorem flX1_21 : h_FL RX1 21 1 0 .int true := ⟨_, _, _, rfl, by decide, rfl, rfl, by decide +kernel, List.mem_of_getElem? (i := 290) (by decide +kernel)⟩
theorem flX6_147 : h_FL RX6 147 1 0 .int true := ⟨_, _, _, rfl, by decide, rfl, rfl, by decide +kernel, List.mem_of_getElem? (i := 291) (by decide +kernel)⟩
theorem flX1_24 : h_FL RX1 24 1 1 (.object "NewSilver$Sort") true := ⟨_, _, _, rfl, by decide, rfl, rfl, by decide +kernel, List.mem_of_getElem? (i := 292) (by decide +kernel)⟩
theorem flX6_123 : h_FL RX6 123 1 1 (.object "NewSilver$Sort") true := ⟨_, _, _, rfl, by decide, rfl, rfl, by decide +kernel, List.mem_of_getElem? (i := 293) (by decide +kernel)⟩
theorem flX1_28 : h_FL RX1 28 1 2 .int true := ⟨_, _, _, rfl, by decide, rfl, rfl, by decide +kernel, List.mem_of_getElem? (i := 294) (by decide +kernel)⟩
theorem flX6_120 : h_FL RX6 120 1 2 .int true := ⟨_, _, _, rfl, by decide, rfl, rfl, by decide +kernel, List.mem_of_getElem? (i := 295) (by decide +kernel)⟩
theorem flX1_34 : h_FL RX1 34 1 3 .int true := ⟨_, _, _, rfl, by decide, rfl, rfl, by decide +kernel, List.mem_of_getElem? (i := 296) (by decide +kernel)⟩
theorem flX6_150 : h_FL RX6 150 1 3 .int true := ⟨_, _, _, rfl, by decide, rfl, rfl, by decide +kernel, List.mem_of_getElem? (i := 297) (by decide +kernel)⟩
theorem flX1_18 : h_FL RX1 18 1 4 .int false := ⟨_, _, _, rfl, by decide, rfl, rfl, by decide +kernel, List.mem_of_getElem? (i := 298) (by decide +kernel)⟩
theorem flX6_137 : h_FL RX6 137 1 4 .int false := ⟨_, _, _, rfl, by decide, rfl, rfl, by decide +kernel, List.mem_of_getElem? (i := 299) (by decide +kernel)⟩
theorem flX1_31 : h_FL RX1 31 1 5 .int false := ⟨_, _, _, rfl, by decide, rfl, rfl, by decide +kernel, List.mem_of_getElem? (i := 300) (by decide +kernel)⟩
theorem flX6_140 : h_FL RX6 140 1 5 .int false := ⟨_, _, _, rfl, by decide, rfl, rfl, by decide +kernel, List.mem_of_getElem? (i := 301) (by decide +kernel)⟩
theorem flX1_9 : h_FL RX1 9 1 6 .int false := ⟨_, _, _, rfl, by decide, rfl, rfl, by decide +kernel, List.mem_of_getElem? (i := 302) (by decide +kernel)⟩
theorem flX6_109 : h_FL RX6 109 1 6 .int false := ⟨_, _, _, rfl, by decide, rfl, rfl, by decide +kernel, List.mem_of_getElem? (i := 303) (by decide +kernel)⟩
theorem flX1_15 : h_FL RX1 15 1 7 .int false := ⟨_, _, _, rfl, by decide, rfl, rfl, by decide +kernel, List.mem_of_getElem? (i := 304) (by decide +kernel)⟩
theorem flX6_151 : h_FL RX6 151 1 7 .int false := ⟨_, _, _, rfl, by decide, rfl, rfl, by decide +kernel, List.mem_of_getElem? (i := 305) (by decide +kernel)⟩
theorem flX1_41 : h_FL RX1 41 1 8 .int false := ⟨_, _, _, rfl, by decide, rfl, rfl, by decide +kernel, List.mem_of_getElem? (i := 306) (by decide +kernel)⟩
theorem flX6_160 : h_FL RX6 160 1 8 .int false := ⟨_, _, _, rfl, by decide, rfl, rfl, by decide +kernel, List.mem_of_getElem? (i := 307) (by decide +kernel)⟩
theorem flX1_37 : h_FL RX1 37 1 9 .boolean false := ⟨_, _, _, rfl, by decide, rfl, rfl, by decide +kernel, List.mem_of_getElem? (i := 308) (by decide +kernel)⟩
theorem flX6_163 : h_FL RX6 163 1 9 .boolean false := ⟨_, _, _, rfl, by decide, rfl, rfl, by decide +kernel, List.mem_of_getElem? (i := 309) (by decide +kernel)⟩
theorem flX6_167 : h_FL RX6 167 1 10 .boolean false := ⟨_, _, _, rfl, by decide, rfl, rfl, by decide +kernel, List.mem_of_getElem? (i := 310) (by decide +kernel)⟩
theorem flX6_170 : h_FL RX6 170 1 11 .boolean false := ⟨_, _, _, rfl, by decide, rfl, rfl, by decide +kernel, List.mem_of_getElem? (i := 311) (by decide +kernel)⟩
theorem flX2_21 : h_FL RX2 21 2 0 (.array .int) true := ⟨_, _, _, rfl, by decide, rfl, rfl, by decide +kernel, List.mem_of_getElem? (i := 497) (by decide +kernel)⟩
theorem flX6_320 : h_FL RX6 320 2 0 (.array .int) true := ⟨_, _, _, rfl, by decide, rfl, rfl, by decide +kernel, List.mem_of_getElem? (i := 498) (by decide +kernel)⟩
theorem flX2_24 : h_FL RX2 24 2 1 (.array .int) true := ⟨_, _, _, rfl, by decide, rfl, rfl, by decide +kernel, List.mem_of_getElem? (i := 499) (by decide +kernel)⟩
theorem flX6_224 : h_FL RX6 224 2 1 (.array .int) true := ⟨_, _, _, rfl, by decide, rfl, rfl, by decide +kernel, List.mem_of_getElem? (i := 500) (by decide +kernel)⟩
theorem flX2_9 : h_FL RX2 9 2 2 (.array .int) true := ⟨_, _, _, rfl, by decide, rfl, rfl, by decide +kernel, List.mem_of_getElem? (i := 501) (by decide +kernel)⟩
theorem flX6_206 : h_FL RX6 206 2 2 (.array .int) true := ⟨_, _, _, rfl, by decide, rfl, rfl, by decide +kernel, List.mem_of_getElem? (i := 502) (by decide +kernel)⟩
theorem flX7_135 : h_FL RX7 135 7 1 .int false := ⟨_, _, _, rfl, by decide, rfl, rfl, by decide +kernel, List.mem_of_getElem? (i := 736) (by decide +kernel)⟩
theorem flX7_7 : h_FL RX7 7 7 2 (.array .int) true := ⟨_, _, _, rfl, by decide, rfl, rfl, by decide +kernel, List.mem_of_getElem? (i := 737) (by decide +kernel)⟩
theorem flX7_13 : h_FL RX7 13 7 3 (.array .int) true := ⟨_, _, _, rfl, by decide, rfl, rfl, by decide +kernel, List.mem_of_getElem? (i := 738) (by decide +kernel)⟩
theorem flX7_16 : h_FL RX7 16 7 4 (.array .int) true := ⟨_, _, _, rfl, by decide, rfl, rfl, by decide +kernel, List.mem_of_getElem? (i := 739) (by decide +kernel)⟩
theorem flX7_19 : h_FL RX7 19 7 5 (.array .int) true := ⟨_, _, _, rfl, by decide, rfl, rfl, by decide +kernel, List.mem_of_getElem? (i := 740) (by decide +kernel)⟩
theorem flX7_167 : h_FL RX7 167 7 6 .int false := ⟨_, _, _, rfl, by decide, rfl, rfl, by decide +kernel, List.mem_of_getElem? (i := 741) (by decide +kernel)⟩
theorem flX7_142 : h_FL RX7 142 7 7 .int false := ⟨_, _, _, rfl, by decide, rfl, rfl, by decide +kernel, List.mem_of_getElem? (i := 742) (by decide +kernel)⟩
theorem flX7_22 : h_FL RX7 22 7 8 (.array .int) true := ⟨_, _, _, rfl, by decide, rfl, rfl, by decide +kernel, List.mem_of_getElem? (i := 743) (by decide +kernel)⟩
theorem flX7_25 : h_FL RX7 25 7 9 (.array .int) true := ⟨_, _, _, rfl, by decide, rfl, rfl, by decide +kernel, List.mem_of_getElem? (i := 744) (by decide +kernel)⟩
theorem flX7_28 : h_FL RX7 28 7 10 (.array .int) true := ⟨_, _, _, rfl, by decide, rfl, rfl, by decide +kernel, List.mem_of_getElem? (i := 745) (by decide +kernel)⟩
theorem flX7_31 : h_FL RX7 31 7 11 (.array .int) true := ⟨_, _, _, rfl, by decide, rfl, rfl, by decide +kernel, List.mem_of_getElem? (i := 746) (by decide +kernel)⟩
theorem flX7_34 : h_FL RX7 34 7 12 (.array .int) true := ⟨_, _, _, rfl, by decide, rfl, rfl, by decide +kernel, List.mem_of_getElem? (i := 747) (by decide +kernel)⟩
theorem flX7_37 : h_FL RX7 37 7 13 (.array .int) true := ⟨_, _, _, rfl, by decide, rfl, rfl, by decide +kernel, List.mem_of_getElem? (i := 748) (by decide +kernel)⟩
theorem flX7_40 : h_FL RX7 40 7 14 (.array .int) true := ⟨_, _, _, rfl, by decide, rfl, rfl, by decide +kernel, List.mem_of_getElem? (i := 749) (by decide +kernel)⟩
theorem flX7_43 : h_FL RX7 43 7 15 (.array .int) true := ⟨_, _, _, rfl, by decide, rfl, rfl, by decide +kernel, List.mem_of_getElem? (i := 750) (by decide +kernel)⟩
theorem flX7_46 : h_FL RX7 46 7 16 (.array .boolean) true := ⟨_, _, _, rfl, by decide, rfl, rfl, by decide +kernel, List.mem_of_getElem? (i := 751) (by decide +kernel)⟩
theorem flX7_50 : h_FL RX7 50 7 17 (.array .boolean) true := ⟨_, _, _, rfl, by decide, rfl, rfl, by decide +kernel, List.mem_of_getElem? (i := 752) (by decide +kernel)⟩
theorem flX7_53 : h_FL RX7 53 7 18 (.array .boolean) true := ⟨_, _, _, rfl, by decide, rfl, rfl, by decide +kernel, List.mem_of_getElem? (i := 753) (by decide +kernel)⟩
theorem flX7_56 : h_FL RX7 56 7 19 (.array .byte) true := ⟨_, _, _, rfl, by decide, rfl, rfl, by decide +kernel, List.mem_of_getElem? (i := 754) (by decide +kernel)⟩
theorem flX7_179 : h_FL RX7 179 7 20 .int false := ⟨_, _, _, rfl, by decide, rfl, rfl, by decide +kernel, List.mem_of_getElem? (i := 755) (by decide +kernel)⟩
theorem flX7_205 : h_FL RX7 205 7 21 .int false := ⟨_, _, _, rfl, by decide, rfl, rfl, by decide +kernel, List.mem_of_getElem? (i := 756) (by decide +kernel)⟩
theorem flX7_60 : h_FL RX7 60 7 22 (.array .int) true := ⟨_, _, _, rfl, by decide, rfl, rfl, by decide +kernel, List.mem_of_getElem? (i := 757) (by decide +kernel)⟩
theorem flX7_63 : h_FL RX7 63 7 23 (.array .int) true := ⟨_, _, _, rfl, by decide, rfl, rfl, by decide +kernel, List.mem_of_getElem? (i := 758) (by decide +kernel)⟩
theorem flX7_66 : h_FL RX7 66 7 24 (.array .int) true := ⟨_, _, _, rfl, by decide, rfl, rfl, by decide +kernel, List.mem_of_getElem? (i := 759) (by decide +kernel)⟩
theorem flX7_69 : h_FL RX7 69 7 25 (.array .int) true := ⟨_, _, _, rfl, by decide, rfl, rfl, by decide +kernel, List.mem_of_getElem? (i := 760) (by decide +kernel)⟩
theorem flX7_182 : h_FL RX7 182 7 26 .int false := ⟨_, _, _, rfl, by decide, rfl, rfl, by decide +kernel, List.mem_of_getElem? (i := 761) (by decide +kernel)⟩
theorem flX7_188 : h_FL RX7 188 7 27 .int false := ⟨_, _, _, rfl, by decide, rfl, rfl, by decide +kernel, List.mem_of_getElem? (i := 762) (by decide +kernel)⟩
theorem flX7_72 : h_FL RX7 72 7 28 (.array .long) true := ⟨_, _, _, rfl, by decide, rfl, rfl, by decide +kernel, List.mem_of_getElem? (i := 763) (by decide +kernel)⟩
theorem flX7_235 : h_FL RX7 235 7 29 .int false := ⟨_, _, _, rfl, by decide, rfl, rfl, by decide +kernel, List.mem_of_getElem? (i := 764) (by decide +kernel)⟩
theorem flX7_76 : h_FL RX7 76 7 30 (.array .int) true := ⟨_, _, _, rfl, by decide, rfl, rfl, by decide +kernel, List.mem_of_getElem? (i := 765) (by decide +kernel)⟩
theorem flX7_79 : h_FL RX7 79 7 31 (.array .int) true := ⟨_, _, _, rfl, by decide, rfl, rfl, by decide +kernel, List.mem_of_getElem? (i := 766) (by decide +kernel)⟩
theorem flX7_82 : h_FL RX7 82 7 32 (.array .int) true := ⟨_, _, _, rfl, by decide, rfl, rfl, by decide +kernel, List.mem_of_getElem? (i := 767) (by decide +kernel)⟩
theorem flX7_85 : h_FL RX7 85 7 33 (.array .long) true := ⟨_, _, _, rfl, by decide, rfl, rfl, by decide +kernel, List.mem_of_getElem? (i := 768) (by decide +kernel)⟩
theorem flX7_88 : h_FL RX7 88 7 34 (.array .long) true := ⟨_, _, _, rfl, by decide, rfl, rfl, by decide +kernel, List.mem_of_getElem? (i := 769) (by decide +kernel)⟩
theorem flX7_91 : h_FL RX7 91 7 35 (.array .boolean) true := ⟨_, _, _, rfl, by decide, rfl, rfl, by decide +kernel, List.mem_of_getElem? (i := 770) (by decide +kernel)⟩
theorem flX7_94 : h_FL RX7 94 7 36 (.array .long) true := ⟨_, _, _, rfl, by decide, rfl, rfl, by decide +kernel, List.mem_of_getElem? (i := 771) (by decide +kernel)⟩
theorem flX7_97 : h_FL RX7 97 7 37 (.array .long) true := ⟨_, _, _, rfl, by decide, rfl, rfl, by decide +kernel, List.mem_of_getElem? (i := 772) (by decide +kernel)⟩
theorem flX7_101 : h_FL RX7 101 7 38 (.array .int) true := ⟨_, _, _, rfl, by decide, rfl, rfl, by decide +kernel, List.mem_of_getElem? (i := 773) (by decide +kernel)⟩
theorem flX7_104 : h_FL RX7 104 7 39 (.array .int) true := ⟨_, _, _, rfl, by decide, rfl, rfl, by decide +kernel, List.mem_of_getElem? (i := 774) (by decide +kernel)⟩
theorem flX7_107 : h_FL RX7 107 7 40 (.array .int) true := ⟨_, _, _, rfl, by decide, rfl, rfl, by decide +kernel, List.mem_of_getElem? (i := 775) (by decide +kernel)⟩
theorem flX7_253 : h_FL RX7 253 7 41 .long false := ⟨_, _, _, rfl, by decide, rfl, rfl, by decide +kernel, List.mem_of_getElem? (i := 776) (by decide +kernel)⟩
theorem flX7_110 : h_FL RX7 110 7 42 (.array .int) true := ⟨_, _, _, rfl, by decide, rfl, rfl, by decide +kernel, List.mem_of_getElem? (i := 777) (by decide +kernel)⟩
theorem flX7_113 : h_FL RX7 113 7 43 (.array .int) true := ⟨_, _, _, rfl, by decide, rfl, rfl, by decide +kernel, List.mem_of_getElem? (i := 778) (by decide +kernel)⟩
theorem flX7_116 : h_FL RX7 116 7 44 (.array .int) true := ⟨_, _, _, rfl, by decide, rfl, rfl, by decide +kernel, List.mem_of_getElem? (i := 779) (by decide +kernel)⟩
theorem flX7_119 : h_FL RX7 119 7 45 (.array .int) true := ⟨_, _, _, rfl, by decide, rfl, rfl, by decide +kernel, List.mem_of_getElem? (i := 780) (by decide +kernel)⟩
theorem flX7_122 : h_FL RX7 122 7 46 (.array .int) true := ⟨_, _, _, rfl, by decide, rfl, rfl, by decide +kernel, List.mem_of_getElem? (i := 781) (by decide +kernel)⟩
theorem flX7_125 : h_FL RX7 125 7 47 (.array .int) true := ⟨_, _, _, rfl, by decide, rfl, rfl, by decide +kernel, List.mem_of_getElem? (i := 782) (by decide +kernel)⟩
theorem flX7_128 : h_FL RX7 128 7 48 (.array .int) true := ⟨_, _, _, rfl, by decide, rfl, rfl, by decide +kernel, List.mem_of_getElem? (i := 783) (by decide +kernel)⟩
-- ===== the classes of the world =====
def h_CK (C : String) (T : u_T) (N : Nat) : Prop := (∀ w ∈ u_ws C T N, w ∈ lw_tbl) ∧ (∃ ty : Nat → FieldType, ∀ k, k < N → parseFieldDescriptor (T k).2.2.1 = some (ty k)) ∧ (∀ a, a < N → ∀ b, b < N → a ≠ b → (T a).2.1 ≠ (T b).2.1) ∧ Cond.instantiable C N ∈ lw_tbl ∧ Cond.initialized C ∈ lw_tbl
theorem ckwX0 : u_ws RX0 TX0 7 = ([121, 123, 125, 127, 129, 131, 133] : List Nat).filterMap (fun i => lw_tbl[i]?) := by decide +kernel
theorem ckX0 : h_CK RX0 TX0 7 := ⟨fun w h => by rw [ckwX0] at h; obtain ⟨i, -, hi⟩ := List.mem_filterMap.mp h; exact List.mem_of_getElem? hi, ⟨tyX0, tyX0_ok⟩, nmX0, List.mem_of_getElem? (i := 109) (by decide +kernel), List.mem_of_getElem? (i := 52) (by decide +kernel)⟩
theorem ckwX1 : u_ws RX1 TX1 12 = ([312, 314, 316, 318, 320, 322, 324, 326, 328, 330, 332, 334] : List Nat).filterMap (fun i => lw_tbl[i]?) := by decide +kernel
theorem ckX1 : h_CK RX1 TX1 12 := ⟨fun w h => by rw [ckwX1] at h; obtain ⟨i, -, hi⟩ := List.mem_filterMap.mp h; exact List.mem_of_getElem? hi, ⟨tyX1, tyX1_ok⟩, nmX1, List.mem_of_getElem? (i := 285) (by decide +kernel), List.mem_of_getElem? (i := 57) (by decide +kernel)⟩
theorem ckwX2 : u_ws RX2 TX2 3 = ([503, 505, 507] : List Nat).filterMap (fun i => lw_tbl[i]?) := by decide +kernel
theorem ckX2 : h_CK RX2 TX2 3 := ⟨fun w h => by rw [ckwX2] at h; obtain ⟨i, -, hi⟩ := List.mem_filterMap.mp h; exact List.mem_of_getElem? hi, ⟨tyX2, tyX2_ok⟩, nmX2, List.mem_of_getElem? (i := 475) (by decide +kernel), List.mem_of_getElem? (i := 62) (by decide +kernel)⟩
theorem ckwX3 : u_ws RX3 TX3 9 = ([162, 164, 166, 168, 170, 172, 174, 176, 178] : List Nat).filterMap (fun i => lw_tbl[i]?) := by decide +kernel
theorem ckX3 : h_CK RX3 TX3 9 := ⟨fun w h => by rw [ckwX3] at h; obtain ⟨i, -, hi⟩ := List.mem_filterMap.mp h; exact List.mem_of_getElem? hi, ⟨tyX3, tyX3_ok⟩, nmX3, List.mem_of_getElem? (i := 140) (by decide +kernel), List.mem_of_getElem? (i := 54) (by decide +kernel)⟩
theorem ckwX4 : u_ws RX4 TX4 4 = ([254, 256, 258, 260] : List Nat).filterMap (fun i => lw_tbl[i]?) := by decide +kernel
theorem ckX4 : h_CK RX4 TX4 4 := ⟨fun w h => by rw [ckwX4] at h; obtain ⟨i, -, hi⟩ := List.mem_filterMap.mp h; exact List.mem_of_getElem? hi, ⟨tyX4, tyX4_ok⟩, nmX4, List.mem_of_getElem? (i := 240) (by decide +kernel), List.mem_of_getElem? (i := 56) (by decide +kernel)⟩
theorem ckwX5 : u_ws RX5 TX5 5 = ([93, 95, 97, 99, 101] : List Nat).filterMap (fun i => lw_tbl[i]?) := by decide +kernel
theorem ckX5 : h_CK RX5 TX5 5 := ⟨fun w h => by rw [ckwX5] at h; obtain ⟨i, -, hi⟩ := List.mem_filterMap.mp h; exact List.mem_of_getElem? hi, ⟨tyX5, tyX5_ok⟩, nmX5, List.mem_of_getElem? (i := 80) (by decide +kernel), List.mem_of_getElem? (i := 51) (by decide +kernel)⟩
theorem ckwX6 : u_ws RX6 TX6 17 = ([198, 200, 202, 204, 206, 208, 210, 212, 214, 216, 218, 220, 222, 224, 226, 228, 230] : List Nat).filterMap (fun i => lw_tbl[i]?) := by decide +kernel
theorem ckX6 : h_CK RX6 TX6 17 := ⟨fun w h => by rw [ckwX6] at h; obtain ⟨i, -, hi⟩ := List.mem_filterMap.mp h; exact List.mem_of_getElem? hi, ⟨tyX6, tyX6_ok⟩, nmX6, List.mem_of_getElem? (i := 66) (by decide +kernel), List.mem_of_getElem? (i := 50) (by decide +kernel)⟩
theorem ckwX7 : u_ws RX7 TX7 49 = ([784, 786, 788, 790, 792, 794, 796, 798, 800, 802, 804, 806, 808, 810, 812, 814, 816, 818, 820, 822, 824, 826, 828, 830, 832, 834, 836, 838, 840, 842, 844, 846, 848, 850, 852, 854, 856, 858, 860, 862, 864, 866, 868, 870, 872, 874, 876, 878, 880] : List Nat).filterMap (fun i => lw_tbl[i]?) := by decide +kernel
theorem ckX7 : h_CK RX7 TX7 49 := ⟨fun w h => by rw [ckwX7] at h; obtain ⟨i, -, hi⟩ := List.mem_filterMap.mp h; exact List.mem_of_getElem? hi, ⟨tyX7, tyX7_ok⟩, nmX7, List.mem_of_getElem? (i := 730) (by decide +kernel), List.mem_of_getElem? (i := 55) (by decide +kernel)⟩
theorem h_cls (ci : Nat) (C : String) (T : u_T) (N : Nat) (h : vwCl[ci]? = some (C, T, N)) : h_CK C T N := by
  match ci, h with
  | 0, h => cases h; exact ckX0
  | 1, h => cases h; exact ckX1
  | 2, h => cases h; exact ckX2
  | 3, h => cases h; exact ckX3
  | 4, h => cases h; exact ckX4
  | 5, h => cases h; exact ckX5
  | 6, h => cases h; exact ckX6
  | 7, h => cases h; exact ckX7
  | n + 8, h => simp [vwCl] at h
abbrev h_nest : List (String × Nat × MethodName × String) := [(RX6, 29, yX5_init, RX6), (RX6, 62, yX0_init, RX6), (RX6, 73, yX3_init, RX6), (RX5, 52, yX6_within, RX6), (RX1, 44, yX6_within, RX6), (RX0, 70, yX6_isMint, RX6), (RX0, 74, yX6_isTown, RX6)]
/-- what the tables say of a call -/
def h_LV (own : String) (idx : Nat) (y : MethodName) : Prop := Cond.methodLink own idx y ∈ lw_tbl ∧ Cond.instanceMethod y ∈ lw_tbl ∧ Cond.selects y.cls y y ∈ lw_tbl ∧ Cond.initialized y.cls ∈ lw_tbl
def h_LS (own : String) (idx : Nat) (y : MethodName) : Prop := Cond.methodLink own idx y ∈ lw_tbl ∧ Cond.static y ∈ lw_tbl ∧ Cond.initialized y.cls ∈ lw_tbl
def h_LI (own : String) (idx : Nat) (y : MethodName) : Prop := Cond.methodLink own idx y ∈ lw_tbl ∧ Cond.instanceMethod y ∈ lw_tbl ∧ Cond.initialized y.cls ∈ lw_tbl ∧ y.name = "<init>"
def h_LSN (own : String) (idx : Nat) (y : MethodName) (host : String) : Prop := (own, idx, y, host) ∈ h_nest ∧ Cond.static y ∈ lw_tbl ∧ Cond.initialized y.cls ∈ lw_tbl
def h_LIN (own : String) (idx : Nat) (y : MethodName) (host : String) : Prop := (own, idx, y, host) ∈ h_nest ∧ Cond.instanceMethod y ∈ lw_tbl ∧ Cond.initialized y.cls ∈ lw_tbl ∧ y.name = "<init>"

/-! methods: own class, name, bytes, locals, return type, what each place decodes to -/
abbrev hM : Type := String × MethodName × ByteArray × Nat × Option FieldType × List (Nat × (Instr × Nat))
abbrev h_own (M : hM) : String := M.1
abbrev h_y (M : hM) : MethodName := M.2.1
abbrev h_cc (M : hM) : ByteArray := M.2.2.1
abbrev h_nL (M : hM) : Nat := M.2.2.2.1
abbrev h_ret (M : hM) : Option FieldType := M.2.2.2.2.1
abbrev h_tab (M : hM) : List (Nat × (Instr × Nat)) := M.2.2.2.2.2
/-- what the tables say of a method: its code, its class, how many arguments -/
def h_MI (M : hM) (n : Nat) : Prop := Cond.code (h_y M) (h_cc M) (h_nL M) (h_ret M) ∈ lw_tbl ∧ plainName (h_y M).cls = true ∧ (h_y M).cls = h_own M ∧ ((h_y M).cls ≠ "java/lang/invoke/MethodHandle" ∧ (h_y M).cls ≠ "java/lang/invoke/VarHandle" ∧ (parseMethodDescriptor (h_y M).desc).map (fun d => d.parameters.length) = some n) ∧ (∀ q ∈ h_tab M, decode (h_cc M) q.1 = .ok q.2)
end
section
def tX0_init : List (Nat × (Instr × Nat)) := [(0, (.aload_n 0, 1)), (1, (.invokespecial 3, 3)), (4, (.aload_n 0, 1)), (5, (.iconst 3, 1)), (6, (.newarray .int, 2)), (8, (.putfield 9, 3)), (11, (.aload_n 0, 1)), (12, (.bipush 6, 2)), (14, (.newarray .int, 2)), (16, (.putfield 15, 3)), (19, (.aload_n 0, 1)), (20, (.bipush 18, 2)), (22, (.newarray .int, 2)), (24, (.putfield 18, 3)), (27, (.aload_n 0, 1)), (28, (.iconst 3, 1)), (29, (.newarray .int, 2)), (31, (.putfield 21, 3)), (34, (.aload_n 0, 1)), (35, (.bipush 6, 2)), (37, (.newarray .int, 2)), (39, (.putfield 24, 3)), (42, (.aload_n 0, 1)), (43, (.iconst 3, 1)), (44, (.newarray .int, 2)), (46, (.putfield 27, 3)), (49, (.aload_n 0, 1)), (50, (.bipush 6, 2)), (52, (.newarray .int, 2)), (54, (.putfield 30, 3)), (57, (.return_, 1))]
def mX0_init : hM := (RX0, yX0_init, cX0_init, 1, (none : Option Jvm.ClassFile.FieldType), tX0_init)
theorem miX0_init : h_MI mX0_init 0 := ⟨List.mem_of_getElem? (i := 112) (by decide +kernel), by decide +kernel, rfl, ⟨by decide +kernel, by decide +kernel, by decide +kernel⟩, by decide +kernel⟩
def tX0_leastCost : List (Nat × (Instr × Nat)) := [(0, (.aload_n 1, 1)), (1, (.iconst 0, 1)), (2, (.aload_n 0, 1)), (3, (.getfield 9, 3)), (6, (.iconst 0, 1)), (7, (.iconst 3, 1)), (8, (.invokestatic 33, 3)), (11, (.aload_n 2, 1)), (12, (.iconst 0, 1)), (13, (.aload_n 0, 1)), (14, (.getfield 15, 3)), (17, (.iconst 0, 1)), (18, (.bipush 6, 2)), (20, (.invokestatic 33, 3)), (23, (.aload_n 0, 1)), (24, (.getfield 18, 3)), (27, (.iconst 0, 1)), (28, (.invokestatic 39, 3)), (31, (.iconst 0, 1)), (32, (.istore 4, 2)), (34, (.iconst 0, 1)), (35, (.istore 5, 2)), (37, (.iload 5, 2)), (39, (.sipush 3000, 3)), (42, (.if_icmp .ge 60, 3)), (45, (.aload_n 0, 1)), (46, (.aload_n 3, 1)), (47, (.invokevirtual 45, 3)), (50, (.aload_n 0, 1)), (51, (.invokevirtual 49, 3)), (54, (.istore 6, 2)), (56, (.iload 6, 2)), (58, (.iconst (-1), 1)), (59, (.if_icmp .ne 6, 3)), (62, (.iload 4, 2)), (64, (.ireturn, 1)), (65, (.aload_n 0, 1)), (66, (.iload 6, 2)), (68, (.invokevirtual 53, 3)), (71, (.istore 7, 2)), (73, (.iload 4, 2)), (75, (.iload 7, 2)), (77, (.aload_n 0, 1)), (78, (.getfield 24, 3)), (81, (.iload 6, 2)), (83, (.iaload, 1)), (84, (.imul, 1)), (85, (.iadd, 1)), (86, (.istore 4, 2)), (88, (.aload_n 0, 1)), (89, (.iload 6, 2)), (91, (.iload 7, 2)), (93, (.invokevirtual 57, 3)), (96, (.iinc 5 1, 3)), (99, (.goto (-62), 3)), (102, (.iload 4, 2)), (104, (.ireturn, 1))]
def mX0_leastCost : hM := (RX0, yX0_leastCost, cX0_leastCost, 8, (some .int), tX0_leastCost)
theorem miX0_leastCost : h_MI mX0_leastCost 3 := ⟨List.mem_of_getElem? (i := 674) (by decide +kernel), by decide +kernel, rfl, ⟨by decide +kernel, by decide +kernel, by decide +kernel⟩, by decide +kernel⟩
def tX0_findWays : List (Nat × (Instr × Nat)) := [(0, (.iconst 0, 1)), (1, (.istore_n 2, 1)), (2, (.iload_n 2, 1)), (3, (.iconst 3, 1)), (4, (.if_icmp .ge 30, 3)), (7, (.aload_n 0, 1)), (8, (.getfield 21, 3)), (11, (.iload_n 2, 1)), (12, (.aload_n 0, 1)), (13, (.getfield 9, 3)), (16, (.iload_n 2, 1)), (17, (.iaload, 1)), (18, (.ifCond .le 7, 3)), (21, (.iconst 0, 1)), (22, (.goto 5, 3)), (25, (.ldc 61, 2)), (27, (.iastore, 1)), (28, (.iinc 2 1, 3)), (31, (.goto (-29), 3)), (34, (.aload_n 0, 1)), (35, (.getfield 24, 3)), (38, (.ldc 61, 2)), (40, (.invokestatic 39, 3)), (43, (.aload_n 0, 1)), (44, (.getfield 27, 3)), (47, (.iconst (-1), 1)), (48, (.invokestatic 39, 3)), (51, (.aload_n 0, 1)), (52, (.getfield 30, 3)), (55, (.iconst (-1), 1)), (56, (.invokestatic 39, 3)), (59, (.iconst 1, 1)), (60, (.istore_n 2, 1)), (61, (.iconst 0, 1)), (62, (.istore_n 3, 1)), (63, (.iload_n 3, 1)), (64, (.bipush 9, 2)), (66, (.if_icmp .ge 58, 3)), (69, (.iload_n 2, 1)), (70, (.ifCond .eq 54, 3)), (73, (.iconst 0, 1)), (74, (.istore_n 2, 1)), (75, (.iconst 0, 1)), (76, (.istore 4, 2)), (78, (.iload 4, 2)), (80, (.bipush 6, 2)), (82, (.if_icmp .ge 36, 3)), (85, (.aload_n 0, 1)), (86, (.iload 4, 2)), (88, (.aload_n 1, 1)), (89, (.invokevirtual 62, 3)), (92, (.aload_n 0, 1)), (93, (.iload 4, 2)), (95, (.aload_n 1, 1)), (96, (.invokevirtual 66, 3)), (99, (.ifCond .ne 7, 3)), (102, (.iload_n 2, 1)), (103, (.ifCond .eq 7, 3)), (106, (.iconst 1, 1)), (107, (.goto 4, 3)), (110, (.iconst 0, 1)), (111, (.istore_n 2, 1)), (112, (.iinc 4 1, 3)), (115, (.goto (-37), 3)), (118, (.iinc 3 1, 3)), (121, (.goto (-58), 3)), (124, (.return_, 1))]
def mX0_findWays : hM := (RX0, yX0_findWays, cX0_findWays, 5, (none : Option Jvm.ClassFile.FieldType), tX0_findWays)
theorem miX0_findWays : h_MI mX0_findWays 1 := ⟨List.mem_of_getElem? (i := 680) (by decide +kernel), by decide +kernel, rfl, ⟨by decide +kernel, by decide +kernel, by decide +kernel⟩, by decide +kernel⟩
def tX0_goOn : List (Nat × (Instr × Nat)) := [(0, (.iconst 0, 1)), (1, (.istore_n 3, 1)), (2, (.iload_n 3, 1)), (3, (.iconst 3, 1)), (4, (.if_icmp .ge 62, 3)), (7, (.aload_n 0, 1)), (8, (.getfield 21, 3)), (11, (.iload_n 3, 1)), (12, (.iaload, 1)), (13, (.aload_n 2, 1)), (14, (.iload_n 1, 1)), (15, (.iconst 3, 1)), (16, (.imul, 1)), (17, (.iload_n 3, 1)), (18, (.iadd, 1)), (19, (.iaload, 1)), (20, (.iadd, 1)), (21, (.istore 4, 2)), (23, (.aload_n 0, 1)), (24, (.getfield 21, 3)), (27, (.iload_n 3, 1)), (28, (.iaload, 1)), (29, (.ldc 61, 2)), (31, (.if_icmp .ge 29, 3)), (34, (.iload 4, 2)), (36, (.aload_n 0, 1)), (37, (.getfield 24, 3)), (40, (.iload_n 1, 1)), (41, (.iaload, 1)), (42, (.if_icmp .ge 18, 3)), (45, (.aload_n 0, 1)), (46, (.getfield 24, 3)), (49, (.iload_n 1, 1)), (50, (.iload 4, 2)), (52, (.iastore, 1)), (53, (.aload_n 0, 1)), (54, (.getfield 30, 3)), (57, (.iload_n 1, 1)), (58, (.iload_n 3, 1)), (59, (.iastore, 1)), (60, (.iinc 3 1, 3)), (63, (.goto (-61), 3)), (66, (.return_, 1))]
def mX0_goOn : hM := (RX0, yX0_goOn, cX0_goOn, 5, (none : Option Jvm.ClassFile.FieldType), tX0_goOn)
theorem miX0_goOn : h_MI mX0_goOn 2 := ⟨List.mem_of_getElem? (i := 685) (by decide +kernel), by decide +kernel, rfl, ⟨by decide +kernel, by decide +kernel, by decide +kernel⟩, by decide +kernel⟩
def tX0_takeBack : List (Nat × (Instr × Nat)) := [(0, (.iconst 0, 1)), (1, (.istore_n 3, 1)), (2, (.iconst 0, 1)), (3, (.istore 4, 2)), (5, (.iload 4, 2)), (7, (.iconst 3, 1)), (8, (.if_icmp .ge 82, 3)), (11, (.aload_n 0, 1)), (12, (.getfield 24, 3)), (15, (.iload_n 1, 1)), (16, (.iaload, 1)), (17, (.aload_n 2, 1)), (18, (.iload_n 1, 1)), (19, (.iconst 3, 1)), (20, (.imul, 1)), (21, (.iload 4, 2)), (23, (.iadd, 1)), (24, (.iaload, 1)), (25, (.isub, 1)), (26, (.istore 5, 2)), (28, (.aload_n 0, 1)), (29, (.getfield 18, 3)), (32, (.iload_n 1, 1)), (33, (.iconst 3, 1)), (34, (.imul, 1)), (35, (.iload 4, 2)), (37, (.iadd, 1)), (38, (.iaload, 1)), (39, (.ifCond .le 45, 3)), (42, (.aload_n 0, 1)), (43, (.getfield 24, 3)), (46, (.iload_n 1, 1)), (47, (.iaload, 1)), (48, (.ldc 61, 2)), (50, (.if_icmp .ge 34, 3)), (53, (.iload 5, 2)), (55, (.aload_n 0, 1)), (56, (.getfield 21, 3)), (59, (.iload 4, 2)), (61, (.iaload, 1)), (62, (.if_icmp .ge 22, 3)), (65, (.aload_n 0, 1)), (66, (.getfield 21, 3)), (69, (.iload 4, 2)), (71, (.iload 5, 2)), (73, (.iastore, 1)), (74, (.aload_n 0, 1)), (75, (.getfield 27, 3)), (78, (.iload 4, 2)), (80, (.iload_n 1, 1)), (81, (.iastore, 1)), (82, (.iconst 1, 1)), (83, (.istore_n 3, 1)), (84, (.iinc 4 1, 3)), (87, (.goto (-82), 3)), (90, (.iload_n 3, 1)), (91, (.ireturn, 1))]
def mX0_takeBack : hM := (RX0, yX0_takeBack, cX0_takeBack, 6, (some .boolean), tX0_takeBack)
theorem miX0_takeBack : h_MI mX0_takeBack 2 := ⟨List.mem_of_getElem? (i := 689) (by decide +kernel), by decide +kernel, rfl, ⟨by decide +kernel, by decide +kernel, by decide +kernel⟩, by decide +kernel⟩
def tX0_cheapestTown : List (Nat × (Instr × Nat)) := [(0, (.iconst (-1), 1)), (1, (.istore_n 1, 1)), (2, (.iconst 0, 1)), (3, (.istore_n 2, 1)), (4, (.iload_n 2, 1)), (5, (.bipush 6, 2)), (7, (.if_icmp .ge 61, 3)), (10, (.aload_n 0, 1)), (11, (.getfield 15, 3)), (14, (.iload_n 2, 1)), (15, (.iaload, 1)), (16, (.ifCond .le 18, 3)), (19, (.aload_n 0, 1)), (20, (.getfield 24, 3)), (23, (.iload_n 2, 1)), (24, (.iaload, 1)), (25, (.ldc 61, 2)), (27, (.if_icmp .ge 7, 3)), (30, (.iconst 1, 1)), (31, (.goto 4, 3)), (34, (.iconst 0, 1)), (35, (.istore_n 3, 1)), (36, (.iload_n 3, 1)), (37, (.ifCond .eq 25, 3)), (40, (.iload_n 1, 1)), (41, (.iconst (-1), 1)), (42, (.if_icmp .eq 18, 3)), (45, (.aload_n 0, 1)), (46, (.getfield 24, 3)), (49, (.iload_n 2, 1)), (50, (.iaload, 1)), (51, (.aload_n 0, 1)), (52, (.getfield 24, 3)), (55, (.iload_n 1, 1)), (56, (.iaload, 1)), (57, (.if_icmp .ge 5, 3)), (60, (.iload_n 2, 1)), (61, (.istore_n 1, 1)), (62, (.iinc 2 1, 3)), (65, (.goto (-61), 3)), (68, (.iload_n 1, 1)), (69, (.ireturn, 1))]
def mX0_cheapestTown : hM := (RX0, yX0_cheapestTown, cX0_cheapestTown, 4, (some .int), tX0_cheapestTown)
theorem miX0_cheapestTown : h_MI mX0_cheapestTown 0 := ⟨List.mem_of_getElem? (i := 693) (by decide +kernel), by decide +kernel, rfl, ⟨by decide +kernel, by decide +kernel, by decide +kernel⟩, by decide +kernel⟩
def tX0_roomOfWay : List (Nat × (Instr × Nat)) := [(0, (.aload_n 0, 1)), (1, (.getfield 15, 3)), (4, (.iload_n 1, 1)), (5, (.iaload, 1)), (6, (.istore_n 2, 1)), (7, (.iload_n 1, 1)), (8, (.istore_n 3, 1)), (9, (.iconst 0, 1)), (10, (.istore 4, 2)), (12, (.iload 4, 2)), (14, (.iconst 3, 1)), (15, (.if_icmp .ge 76, 3)), (18, (.aload_n 0, 1)), (19, (.getfield 30, 3)), (22, (.iload_n 3, 1)), (23, (.iaload, 1)), (24, (.istore 5, 2)), (26, (.iload 5, 2)), (28, (.invokestatic 70, 3)), (31, (.ifCond .ne 5, 3)), (34, (.iconst 0, 1)), (35, (.ireturn, 1)), (36, (.aload_n 0, 1)), (37, (.getfield 27, 3)), (40, (.iload 5, 2)), (42, (.iaload, 1)), (43, (.invokestatic 74, 3)), (46, (.ifCond .ne 15, 3)), (49, (.iload_n 2, 1)), (50, (.aload_n 0, 1)), (51, (.getfield 9, 3)), (54, (.iload 5, 2)), (56, (.iaload, 1)), (57, (.invokestatic 77, 3)), (60, (.ireturn, 1)), (61, (.aload_n 0, 1)), (62, (.getfield 27, 3)), (65, (.iload 5, 2)), (67, (.iaload, 1)), (68, (.istore_n 3, 1)), (69, (.iload_n 2, 1)), (70, (.aload_n 0, 1)), (71, (.getfield 18, 3)), (74, (.iload_n 3, 1)), (75, (.iconst 3, 1)), (76, (.imul, 1)), (77, (.iload 5, 2)), (79, (.iadd, 1)), (80, (.iaload, 1)), (81, (.invokestatic 77, 3)), (84, (.istore_n 2, 1)), (85, (.iinc 4 1, 3)), (88, (.goto (-76), 3)), (91, (.iconst 0, 1)), (92, (.ireturn, 1))]
def mX0_roomOfWay : hM := (RX0, yX0_roomOfWay, cX0_roomOfWay, 6, (some .int), tX0_roomOfWay)
theorem miX0_roomOfWay : h_MI mX0_roomOfWay 1 := ⟨List.mem_of_getElem? (i := 697) (by decide +kernel), by decide +kernel, rfl, ⟨by decide +kernel, by decide +kernel, by decide +kernel⟩, by decide +kernel⟩
def tX0_carry : List (Nat × (Instr × Nat)) := [(0, (.aload_n 0, 1)), (1, (.getfield 15, 3)), (4, (.iload_n 1, 1)), (5, (.dup2, 1)), (6, (.iaload, 1)), (7, (.iload_n 2, 1)), (8, (.isub, 1)), (9, (.iastore, 1)), (10, (.iload_n 1, 1)), (11, (.istore_n 3, 1)), (12, (.iconst 0, 1)), (13, (.istore 4, 2)), (15, (.iload 4, 2)), (17, (.iconst 3, 1)), (18, (.if_icmp .ge 89, 3)), (21, (.aload_n 0, 1)), (22, (.getfield 30, 3)), (25, (.iload_n 3, 1)), (26, (.iaload, 1)), (27, (.istore 5, 2)), (29, (.iload 5, 2)), (31, (.invokestatic 70, 3)), (34, (.ifCond .ne 4, 3)), (37, (.return_, 1)), (38, (.aload_n 0, 1)), (39, (.getfield 18, 3)), (42, (.iload_n 3, 1)), (43, (.iconst 3, 1)), (44, (.imul, 1)), (45, (.iload 5, 2)), (47, (.iadd, 1)), (48, (.dup2, 1)), (49, (.iaload, 1)), (50, (.iload_n 2, 1)), (51, (.iadd, 1)), (52, (.iastore, 1)), (53, (.aload_n 0, 1)), (54, (.getfield 27, 3)), (57, (.iload 5, 2)), (59, (.iaload, 1)), (60, (.invokestatic 74, 3)), (63, (.ifCond .ne 15, 3)), (66, (.aload_n 0, 1)), (67, (.getfield 9, 3)), (70, (.iload 5, 2)), (72, (.dup2, 1)), (73, (.iaload, 1)), (74, (.iload_n 2, 1)), (75, (.isub, 1)), (76, (.iastore, 1)), (77, (.return_, 1)), (78, (.aload_n 0, 1)), (79, (.getfield 27, 3)), (82, (.iload 5, 2)), (84, (.iaload, 1)), (85, (.istore_n 3, 1)), (86, (.aload_n 0, 1)), (87, (.getfield 18, 3)), (90, (.iload_n 3, 1)), (91, (.iconst 3, 1)), (92, (.imul, 1)), (93, (.iload 5, 2)), (95, (.iadd, 1)), (96, (.dup2, 1)), (97, (.iaload, 1)), (98, (.iload_n 2, 1)), (99, (.isub, 1)), (100, (.iastore, 1)), (101, (.iinc 4 1, 3)), (104, (.goto (-89), 3)), (107, (.return_, 1))]
def mX0_carry : hM := (RX0, yX0_carry, cX0_carry, 6, (none : Option Jvm.ClassFile.FieldType), tX0_carry)
theorem miX0_carry : h_MI mX0_carry 2 := ⟨List.mem_of_getElem? (i := 704) (by decide +kernel), by decide +kernel, rfl, ⟨by decide +kernel, by decide +kernel, by decide +kernel⟩, by decide +kernel⟩
def tX1_init : List (Nat × (Instr × Nat)) := [(0, (.aload_n 0, 1)), (1, (.invokespecial 3, 3)), (4, (.aload_n 0, 1)), (5, (.iconst (-1), 1)), (6, (.putfield 9, 3)), (9, (.aload_n 0, 1)), (10, (.iconst (-1), 1)), (11, (.putfield 15, 3)), (14, (.aload_n 0, 1)), (15, (.iload_n 1, 1)), (16, (.putfield 18, 3)), (19, (.aload_n 0, 1)), (20, (.iload_n 2, 1)), (21, (.putfield 21, 3)), (24, (.aload_n 0, 1)), (25, (.aload_n 3, 1)), (26, (.putfield 24, 3)), (29, (.aload_n 0, 1)), (30, (.iload 4, 2)), (32, (.putfield 28, 3)), (35, (.aload_n 0, 1)), (36, (.iload 5, 2)), (38, (.putfield 31, 3)), (41, (.aload_n 0, 1)), (42, (.iload 6, 2)), (44, (.putfield 34, 3)), (47, (.return_, 1))]
def mX1_init : hM := (RX1, yX1_init, cX1_init, 7, (none : Option Jvm.ClassFile.FieldType), tX1_init)
theorem miX1_init : h_MI mX1_init 6 := ⟨List.mem_of_getElem? (i := 288) (by decide +kernel), by decide +kernel, rfl, ⟨by decide +kernel, by decide +kernel, by decide +kernel⟩, by decide +kernel⟩
def tX1_silverHeld : List (Nat × (Instr × Nat)) := [(0, (.aload_n 0, 1)), (1, (.getfield 31, 3)), (4, (.i2l, 1)), (5, (.aload_n 0, 1)), (6, (.getfield 34, 3)), (9, (.i2l, 1)), (10, (.lmul, 1)), (11, (.lreturn, 1))]
def mX1_silverHeld : hM := (RX1, yX1_silverHeld, cX1_silverHeld, 1, (some .long), tX1_silverHeld)
theorem miX1_silverHeld : h_MI mX1_silverHeld 0 := ⟨List.mem_of_getElem? (i := 372) (by decide +kernel), by decide +kernel, rfl, ⟨by decide +kernel, by decide +kernel, by decide +kernel⟩, by decide +kernel⟩
def tX1_isSealedBag : List (Nat × (Instr × Nat)) := [(0, (.aload_n 0, 1)), (1, (.getfield 18, 3)), (4, (.iconst 2, 1)), (5, (.if_icmp .ne 14, 3)), (8, (.aload_n 0, 1)), (9, (.getfield 37, 3)), (12, (.ifCond .ne 7, 3)), (15, (.iconst 1, 1)), (16, (.goto 4, 3)), (19, (.iconst 0, 1)), (20, (.ireturn, 1))]
def mX1_isSealedBag : hM := (RX1, yX1_isSealedBag, cX1_isSealedBag, 1, (some .boolean), tX1_isSealedBag)
theorem miX1_isSealedBag : h_MI mX1_isSealedBag 0 := ⟨List.mem_of_getElem? (i := 352) (by decide +kernel), by decide +kernel, rfl, ⟨by decide +kernel, by decide +kernel, by decide +kernel⟩, by decide +kernel⟩
def tX1_isOnRoad : List (Nat × (Instr × Nat)) := [(0, (.aload_n 0, 1)), (1, (.getfield 41, 3)), (4, (.iload_n 1, 1)), (5, (.if_icmp .le 7, 3)), (8, (.iconst 1, 1)), (9, (.goto 4, 3)), (12, (.iconst 0, 1)), (13, (.ireturn, 1))]
def mX1_isOnRoad : hM := (RX1, yX1_isOnRoad, cX1_isOnRoad, 2, (some .boolean), tX1_isOnRoad)
theorem miX1_isOnRoad : h_MI mX1_isOnRoad 1 := ⟨List.mem_of_getElem? (i := 363) (by decide +kernel), by decide +kernel, rfl, ⟨by decide +kernel, by decide +kernel, by decide +kernel⟩, by decide +kernel⟩
def tX1_vanish : List (Nat × (Instr × Nat)) := [(0, (.aload_n 0, 1)), (1, (.iconst 1, 1)), (2, (.putfield 37, 3)), (5, (.aload_n 0, 1)), (6, (.iconst (-1), 1)), (7, (.putfield 15, 3)), (10, (.return_, 1))]
def mX1_vanish : hM := (RX1, yX1_vanish, cX1_vanish, 1, (none : Option Jvm.ClassFile.FieldType), tX1_vanish)
theorem miX1_vanish : h_MI mX1_vanish 0 := ⟨List.mem_of_getElem? (i := 621) (by decide +kernel), by decide +kernel, rfl, ⟨by decide +kernel, by decide +kernel, by decide +kernel⟩, by decide +kernel⟩
def tX1_canDraw : List (Nat × (Instr × Nat)) := [(0, (.aload_n 0, 1)), (1, (.getfield 28, 3)), (4, (.ifCond .le 48, 3)), (7, (.iload_n 1, 1)), (8, (.iconst 0, 1)), (9, (.aload_n 0, 1)), (10, (.getfield 28, 3)), (13, (.invokestatic 44, 3)), (16, (.ifCond .eq 36, 3)), (19, (.iload_n 2, 1)), (20, (.iload_n 1, 1)), (21, (.aload_n 0, 1)), (22, (.getfield 24, 3)), (25, (.aload_n 0, 1)), (26, (.getfield 18, 3)), (29, (.invokevirtual 48, 3)), (32, (.imul, 1)), (33, (.iload_n 1, 1)), (34, (.aload_n 0, 1)), (35, (.getfield 24, 3)), (38, (.getfield 54, 3)), (41, (.imul, 1)), (42, (.invokestatic 44, 3)), (45, (.ifCond .eq 7, 3)), (48, (.iconst 1, 1)), (49, (.goto 4, 3)), (52, (.iconst 0, 1)), (53, (.ireturn, 1))]
def mX1_canDraw : hM := (RX1, yX1_canDraw, cX1_canDraw, 3, (some .boolean), tX1_canDraw)
theorem miX1_canDraw : h_MI mX1_canDraw 2 := ⟨List.mem_of_getElem? (i := 540) (by decide +kernel), by decide +kernel, rfl, ⟨by decide +kernel, by decide +kernel, by decide +kernel⟩, by decide +kernel⟩
def tX1_leastDrawn : List (Nat × (Instr × Nat)) := [(0, (.iload_n 2, 1)), (1, (.aload_n 0, 1)), (2, (.getfield 28, 3)), (5, (.iload_n 1, 1)), (6, (.isub, 1)), (7, (.aload_n 0, 1)), (8, (.getfield 24, 3)), (11, (.aload_n 0, 1)), (12, (.getfield 18, 3)), (15, (.invokevirtual 48, 3)), (18, (.imul, 1)), (19, (.iadd, 1)), (20, (.ireturn, 1))]
def mX1_leastDrawn : hM := (RX1, yX1_leastDrawn, cX1_leastDrawn, 3, (some .int), tX1_leastDrawn)
theorem miX1_leastDrawn : h_MI mX1_leastDrawn 2 := ⟨List.mem_of_getElem? (i := 662) (by decide +kernel), by decide +kernel, rfl, ⟨by decide +kernel, by decide +kernel, by decide +kernel⟩, by decide +kernel⟩
def tX1_mostDrawn : List (Nat × (Instr × Nat)) := [(0, (.iload_n 2, 1)), (1, (.aload_n 0, 1)), (2, (.getfield 28, 3)), (5, (.iload_n 1, 1)), (6, (.isub, 1)), (7, (.aload_n 0, 1)), (8, (.getfield 24, 3)), (11, (.getfield 54, 3)), (14, (.imul, 1)), (15, (.iadd, 1)), (16, (.ireturn, 1))]
def mX1_mostDrawn : hM := (RX1, yX1_mostDrawn, cX1_mostDrawn, 3, (some .int), tX1_mostDrawn)
theorem miX1_mostDrawn : h_MI mX1_mostDrawn 2 := ⟨List.mem_of_getElem? (i := 546) (by decide +kernel), by decide +kernel, rfl, ⟨by decide +kernel, by decide +kernel, by decide +kernel⟩, by decide +kernel⟩
def tX2_init : List (Nat × (Instr × Nat)) := [(0, (.aload_n 0, 1)), (1, (.invokespecial 3, 3)), (4, (.aload_n 0, 1)), (5, (.bipush 6, 2)), (7, (.newarray .int, 2)), (9, (.putfield 9, 3)), (12, (.aload_n 0, 1)), (13, (.aload_n 1, 1)), (14, (.bipush 8, 2)), (16, (.invokestatic 15, 3)), (19, (.putfield 21, 3)), (22, (.aload_n 0, 1)), (23, (.aload_n 2, 1)), (24, (.bipush 8, 2)), (26, (.invokestatic 15, 3)), (29, (.putfield 24, 3)), (32, (.aload_n 0, 1)), (33, (.getfield 9, 3)), (36, (.iconst (-1), 1)), (37, (.invokestatic 27, 3)), (40, (.return_, 1))]
def mX2_init : hM := (RX2, yX2_init, cX2_init, 3, (none : Option Jvm.ClassFile.FieldType), tX2_init)
theorem miX2_init : h_MI mX2_init 2 := ⟨List.mem_of_getElem? (i := 478) (by decide +kernel), by decide +kernel, rfl, ⟨by decide +kernel, by decide +kernel, by decide +kernel⟩, by decide +kernel⟩
def tX3_init : List (Nat × (Instr × Nat)) := [(0, (.aload_n 0, 1)), (1, (.invokespecial 3, 3)), (4, (.aload_n 0, 1)), (5, (.ldc 9, 2)), (7, (.putfield 10, 3)), (10, (.return_, 1))]
def mX3_init : hM := (RX3, yX3_init, cX3_init, 1, (none : Option Jvm.ClassFile.FieldType), tX3_init)
theorem miX3_init : h_MI mX3_init 0 := ⟨List.mem_of_getElem? (i := 143) (by decide +kernel), by decide +kernel, rfl, ⟨by decide +kernel, by decide +kernel, by decide +kernel⟩, by decide +kernel⟩
def tX3_meltedOn : List (Nat × (Instr × Nat)) := [(0, (.iload_n 1, 1)), (1, (.aload_n 0, 1)), (2, (.getfield 16, 3)), (5, (.if_icmp .ne 10, 3)), (8, (.aload_n 0, 1)), (9, (.getfield 19, 3)), (12, (.goto 4, 3)), (15, (.iconst 0, 1)), (16, (.ireturn, 1))]
def mX3_meltedOn : hM := (RX3, yX3_meltedOn, cX3_meltedOn, 2, (some .int), tX3_meltedOn)
theorem miX3_meltedOn : h_MI mX3_meltedOn 1 := ⟨List.mem_of_getElem? (i := 612) (by decide +kernel), by decide +kernel, rfl, ⟨by decide +kernel, by decide +kernel, by decide +kernel⟩, by decide +kernel⟩
def tX3_takeIn : List (Nat × (Instr × Nat)) := [(0, (.aload_n 0, 1)), (1, (.aload_n 0, 1)), (2, (.iload 4, 2)), (4, (.invokevirtual 22, 3)), (7, (.iload_n 1, 1)), (8, (.iadd, 1)), (9, (.putfield 19, 3)), (12, (.aload_n 0, 1)), (13, (.iload 4, 2)), (15, (.putfield 16, 3)), (18, (.aload_n 0, 1)), (19, (.dup, 1)), (20, (.getfield 26, 3)), (23, (.iload_n 1, 1)), (24, (.i2l, 1)), (25, (.ladd, 1)), (26, (.putfield 26, 3)), (29, (.aload_n 0, 1)), (30, (.dup, 1)), (31, (.getfield 30, 3)), (34, (.lload_n 2, 1)), (35, (.ladd, 1)), (36, (.putfield 30, 3)), (39, (.aload_n 0, 1)), (40, (.iconst 0, 1)), (41, (.putfield 33, 3)), (44, (.return_, 1))]
def mX3_takeIn : hM := (RX3, yX3_takeIn, cX3_takeIn, 5, (none : Option Jvm.ClassFile.FieldType), tX3_takeIn)
theorem miX3_takeIn : h_MI mX3_takeIn 3 := ⟨List.mem_of_getElem? (i := 616) (by decide +kernel), by decide +kernel, rfl, ⟨by decide +kernel, by decide +kernel, by decide +kernel⟩, by decide +kernel⟩
def tX3_bringToLaw : List (Nat × (Instr × Nat)) := [(0, (.aload_n 0, 1)), (1, (.getfield 30, 3)), (4, (.ldc2_w 37, 3)), (7, (.aload_n 0, 1)), (8, (.getfield 26, 3)), (11, (.lmul, 1)), (12, (.lsub, 1)), (13, (.lstore_n 1, 1)), (14, (.lload_n 1, 1)), (15, (.lconst 0, 1)), (16, (.lcmp, 1)), (17, (.ifCond .lt 22, 3)), (20, (.lload_n 1, 1)), (21, (.ldc2_w 37, 3)), (24, (.ldiv, 1)), (25, (.lstore_n 3, 1)), (26, (.aload_n 0, 1)), (27, (.dup, 1)), (28, (.getfield 39, 3)), (31, (.lload_n 3, 1)), (32, (.ladd, 1)), (33, (.putfield 39, 3)), (36, (.goto 37, 3)), (39, (.ldc2_w 42, 3)), (42, (.lload_n 1, 1)), (43, (.lsub, 1)), (44, (.ldc2_w 44, 3)), (47, (.ldiv, 1)), (48, (.lstore_n 3, 1)), (49, (.aload_n 0, 1)), (50, (.dup, 1)), (51, (.getfield 46, 3)), (54, (.lload_n 3, 1)), (55, (.ladd, 1)), (56, (.putfield 46, 3)), (59, (.aload_n 0, 1)), (60, (.dup, 1)), (61, (.getfield 30, 3)), (64, (.lload_n 3, 1)), (65, (.ldc2_w 49, 3)), (68, (.lmul, 1)), (69, (.ladd, 1)), (70, (.putfield 30, 3)), (73, (.aload_n 0, 1)), (74, (.dup, 1)), (75, (.getfield 26, 3)), (78, (.lload_n 3, 1)), (79, (.ladd, 1)), (80, (.putfield 26, 3)), (83, (.aload_n 0, 1)), (84, (.dup, 1)), (85, (.getfield 51, 3)), (88, (.aload_n 0, 1)), (89, (.getfield 30, 3)), (92, (.ldc2_w 37, 3)), (95, (.aload_n 0, 1)), (96, (.getfield 26, 3)), (99, (.lmul, 1)), (100, (.lsub, 1)), (101, (.ladd, 1)), (102, (.putfield 51, 3)), (105, (.aload_n 0, 1)), (106, (.ldc2_w 37, 3)), (109, (.aload_n 0, 1)), (110, (.getfield 26, 3)), (113, (.lmul, 1)), (114, (.putfield 30, 3)), (117, (.aload_n 0, 1)), (118, (.iconst 1, 1)), (119, (.putfield 33, 3)), (122, (.lload_n 3, 1)), (123, (.lreturn, 1))]
def mX3_bringToLaw : hM := (RX3, yX3_bringToLaw, cX3_bringToLaw, 5, (some .long), tX3_bringToLaw)
theorem miX3_bringToLaw : h_MI mX3_bringToLaw 0 := ⟨List.mem_of_getElem? (i := 633) (by decide +kernel), by decide +kernel, rfl, ⟨by decide +kernel, by decide +kernel, by decide +kernel⟩, by decide +kernel⟩
def tX3_pourOut : List (Nat × (Instr × Nat)) := [(0, (.aload_n 0, 1)), (1, (.dup, 1)), (2, (.getfield 26, 3)), (5, (.iload_n 1, 1)), (6, (.i2l, 1)), (7, (.lsub, 1)), (8, (.putfield 26, 3)), (11, (.aload_n 0, 1)), (12, (.dup, 1)), (13, (.getfield 30, 3)), (16, (.ldc2_w 37, 3)), (19, (.iload_n 1, 1)), (20, (.i2l, 1)), (21, (.lmul, 1)), (22, (.lsub, 1)), (23, (.putfield 30, 3)), (26, (.return_, 1))]
def mX3_pourOut : hM := (RX3, yX3_pourOut, cX3_pourOut, 2, (none : Option Jvm.ClassFile.FieldType), tX3_pourOut)
theorem miX3_pourOut : h_MI mX3_pourOut 1 := ⟨List.mem_of_getElem? (i := 645) (by decide +kernel), by decide +kernel, rfl, ⟨by decide +kernel, by decide +kernel, by decide +kernel⟩, by decide +kernel⟩
def tX4_init : List (Nat × (Instr × Nat)) := [(0, (.aload_n 0, 1)), (1, (.invokespecial 3, 3)), (4, (.aload_n 0, 1)), (5, (.iload_n 1, 1)), (6, (.putfield 9, 3)), (9, (.aload_n 0, 1)), (10, (.iload_n 2, 1)), (11, (.putfield 15, 3)), (14, (.aload_n 0, 1)), (15, (.iload_n 3, 1)), (16, (.putfield 18, 3)), (19, (.aload_n 0, 1)), (20, (.iload 4, 2)), (22, (.putfield 21, 3)), (25, (.return_, 1))]
def mX4_init : hM := (RX4, yX4_init, cX4_init, 5, (none : Option Jvm.ClassFile.FieldType), tX4_init)
theorem miX4_init : h_MI mX4_init 4 := ⟨List.mem_of_getElem? (i := 243) (by decide +kernel), by decide +kernel, rfl, ⟨by decide +kernel, by decide +kernel, by decide +kernel⟩, by decide +kernel⟩
def tX4_leastOfCoin : List (Nat × (Instr × Nat)) := [(0, (.iload_n 1, 1)), (1, (.iconst 1, 1)), (2, (.if_icmp .eq 8, 3)), (5, (.iload_n 1, 1)), (6, (.iconst 5, 1)), (7, (.if_icmp .ne 7, 3)), (10, (.iconst 1, 1)), (11, (.goto 7, 3)), (14, (.aload_n 0, 1)), (15, (.getfield 9, 3)), (18, (.ireturn, 1))]
def mX4_leastOfCoin : hM := (RX4, yX4_leastOfCoin, cX4_leastOfCoin, 2, (some .int), tX4_leastOfCoin)
theorem miX4_leastOfCoin : h_MI mX4_leastOfCoin 1 := ⟨List.mem_of_getElem? (i := 284) (by decide +kernel), by decide +kernel, rfl, ⟨by decide +kernel, by decide +kernel, by decide +kernel⟩, by decide +kernel⟩
def tX5_init : List (Nat × (Instr × Nat)) := [(0, (.aload_n 0, 1)), (1, (.invokespecial 3, 3)), (4, (.aload_n 0, 1)), (5, (.bipush 8, 2)), (7, (.newarray .int, 2)), (9, (.putfield 9, 3)), (12, (.aload_n 0, 1)), (13, (.bipush 8, 2)), (15, (.newarray .int, 2)), (17, (.putfield 15, 3)), (20, (.aload_n 0, 1)), (21, (.sipush 160, 3)), (24, (.newarray .byte, 2)), (26, (.putfield 18, 3)), (29, (.return_, 1))]
def mX5_init : hM := (RX5, yX5_init, cX5_init, 1, (none : Option Jvm.ClassFile.FieldType), tX5_init)
theorem miX5_init : h_MI mX5_init 0 := ⟨List.mem_of_getElem? (i := 83) (by decide +kernel), by decide +kernel, rfl, ⟨by decide +kernel, by decide +kernel, by decide +kernel⟩, by decide +kernel⟩
def tX5_append : List (Nat × (Instr × Nat)) := [(0, (.aload_n 0, 1)), (1, (.getfield 22, 3)), (4, (.iload_n 3, 1)), (5, (.iadd, 1)), (6, (.sipush 160, 3)), (9, (.if_icmp .le 5, 3)), (12, (.iconst 0, 1)), (13, (.ireturn, 1)), (14, (.iload_n 3, 1)), (15, (.iconst 1, 1)), (16, (.isub, 1)), (17, (.istore 4, 2)), (19, (.iload 4, 2)), (21, (.ifCond .lt 34, 3)), (24, (.aload_n 0, 1)), (25, (.getfield 18, 3)), (28, (.aload_n 0, 1)), (29, (.dup, 1)), (30, (.getfield 22, 3)), (33, (.dup_x1, 1)), (34, (.iconst 1, 1)), (35, (.iadd, 1)), (36, (.putfield 22, 3)), (39, (.lload_n 1, 1)), (40, (.bipush 8, 2)), (42, (.iload 4, 2)), (44, (.imul, 1)), (45, (.lshr, 1)), (46, (.l2i, 1)), (47, (.i2b, 1)), (48, (.bastore, 1)), (49, (.iinc 4 (-1), 3)), (52, (.goto (-33), 3)), (55, (.iconst 1, 1)), (56, (.ireturn, 1))]
def mX5_append : hM := (RX5, yX5_append, cX5_append, 5, (some .boolean), tX5_append)
theorem miX5_append : h_MI mX5_append 2 := ⟨List.mem_of_getElem? (i := 384) (by decide +kernel), by decide +kernel, rfl, ⟨by decide +kernel, by decide +kernel, by decide +kernel⟩, by decide +kernel⟩
def tX5_findFault : List (Nat × (Instr × Nat)) := [(0, (.aload_n 0, 1)), (1, (.iconst 0, 1)), (2, (.putfield 26, 3)), (5, (.aload_n 0, 1)), (6, (.getfield 9, 3)), (9, (.iconst (-1), 1)), (10, (.invokestatic 29, 3)), (13, (.aload_n 0, 1)), (14, (.getfield 15, 3)), (17, (.iconst 0, 1)), (18, (.invokestatic 29, 3)), (21, (.aload_n 0, 1)), (22, (.invokevirtual 35, 3)), (25, (.ifCond .eq 7, 3)), (28, (.iconst (-1), 1)), (29, (.goto 7, 3)), (32, (.aload_n 0, 1)), (33, (.getfield 26, 3)), (36, (.ireturn, 1))]
def mX5_findFault : hM := (RX5, yX5_findFault, cX5_findFault, 1, (some .int), tX5_findFault)
theorem miX5_findFault : h_MI mX5_findFault 0 := ⟨List.mem_of_getElem? (i := 392) (by decide +kernel), by decide +kernel, rfl, ⟨by decide +kernel, by decide +kernel, by decide +kernel⟩, by decide +kernel⟩
def tX5_readClauses : List (Nat × (Instr × Nat)) := [(0, (.iconst 0, 1)), (1, (.istore_n 1, 1)), (2, (.iload_n 1, 1)), (3, (.bipush 6, 2)), (5, (.if_icmp .ge 46, 3)), (8, (.iload_n 1, 1)), (9, (.ifCond .le 14, 3)), (12, (.aload_n 0, 1)), (13, (.ldc 39, 2)), (15, (.invokevirtual 41, 3)), (18, (.ifCond .ne 5, 3)), (21, (.iconst 0, 1)), (22, (.ireturn, 1)), (23, (.aload_n 0, 1)), (24, (.invokevirtual 45, 3)), (27, (.ifCond .ne 5, 3)), (30, (.iconst 0, 1)), (31, (.ireturn, 1)), (32, (.aload_n 0, 1)), (33, (.getfield 26, 3)), (36, (.aload_n 0, 1)), (37, (.getfield 22, 3)), (40, (.if_icmp .ne 5, 3)), (43, (.iconst 1, 1)), (44, (.ireturn, 1)), (45, (.iinc 1 1, 3)), (48, (.goto (-46), 3)), (51, (.iconst 0, 1)), (52, (.ireturn, 1))]
def mX5_readClauses : hM := (RX5, yX5_readClauses, cX5_readClauses, 2, (some .boolean), tX5_readClauses)
theorem miX5_readClauses : h_MI mX5_readClauses 0 := ⟨List.mem_of_getElem? (i := 397) (by decide +kernel), by decide +kernel, rfl, ⟨by decide +kernel, by decide +kernel, by decide +kernel⟩, by decide +kernel⟩
def tX5_readClause : List (Nat × (Instr × Nat)) := [(0, (.aload_n 0, 1)), (1, (.invokevirtual 48, 3)), (4, (.istore_n 1, 1)), (5, (.iload_n 1, 1)), (6, (.iconst 0, 1)), (7, (.bipush 7, 2)), (9, (.invokestatic 52, 3)), (12, (.ifCond .eq 13, 3)), (15, (.aload_n 0, 1)), (16, (.getfield 9, 3)), (19, (.iload_n 1, 1)), (20, (.iaload, 1)), (21, (.iconst (-1), 1)), (22, (.if_icmp .eq 5, 3)), (25, (.iconst 0, 1)), (26, (.ireturn, 1)), (27, (.aload_n 0, 1)), (28, (.dup, 1)), (29, (.getfield 26, 3)), (32, (.iconst 1, 1)), (33, (.iadd, 1)), (34, (.putfield 26, 3)), (37, (.aload_n 0, 1)), (38, (.ldc 56, 2)), (40, (.invokevirtual 41, 3)), (43, (.ifCond .ne 5, 3)), (46, (.iconst 0, 1)), (47, (.ireturn, 1)), (48, (.aload_n 0, 1)), (49, (.bipush 111, 2)), (51, (.invokevirtual 58, 3)), (54, (.ifCond .eq 17, 3)), (57, (.aload_n 0, 1)), (58, (.getfield 9, 3)), (61, (.iload_n 1, 1)), (62, (.iconst 0, 1)), (63, (.iastore, 1)), (64, (.aload_n 0, 1)), (65, (.ldc 62, 2)), (67, (.invokevirtual 41, 3)), (70, (.ireturn, 1)), (71, (.aload_n 0, 1)), (72, (.getfield 9, 3)), (75, (.iload_n 1, 1)), (76, (.aload_n 0, 1)), (77, (.iconst 0, 1)), (78, (.iconst 3, 1)), (79, (.invokevirtual 64, 3)), (82, (.iastore, 1)), (83, (.aload_n 0, 1)), (84, (.getfield 9, 3)), (87, (.iload_n 1, 1)), (88, (.iaload, 1)), (89, (.iconst (-1), 1)), (90, (.if_icmp .ne 5, 3)), (93, (.iconst 0, 1)), (94, (.ireturn, 1)), (95, (.aload_n 0, 1)), (96, (.bipush 32, 2)), (98, (.invokevirtual 58, 3)), (101, (.ifCond .eq 11, 3)), (104, (.aload_n 0, 1)), (105, (.iload_n 1, 1)), (106, (.invokevirtual 68, 3)), (109, (.ifCond .eq 7, 3)), (112, (.iconst 1, 1)), (113, (.goto 4, 3)), (116, (.iconst 0, 1)), (117, (.ireturn, 1))]
def mX5_readClause : hM := (RX5, yX5_readClause, cX5_readClause, 2, (some .boolean), tX5_readClause)
theorem miX5_readClause : h_MI mX5_readClause 0 := ⟨List.mem_of_getElem? (i := 458) (by decide +kernel), by decide +kernel, rfl, ⟨by decide +kernel, by decide +kernel, by decide +kernel⟩, by decide +kernel⟩
def tX5_readWeight : List (Nat × (Instr × Nat)) := [(0, (.aload_n 0, 1)), (1, (.ldc 72, 2)), (3, (.invokevirtual 41, 3)), (6, (.ifCond .ne 5, 3)), (9, (.iconst 0, 1)), (10, (.ireturn, 1)), (11, (.aload_n 0, 1)), (12, (.getfield 15, 3)), (15, (.iload_n 1, 1)), (16, (.aload_n 0, 1)), (17, (.iconst 1, 1)), (18, (.iconst 4, 1)), (19, (.invokevirtual 64, 3)), (22, (.iastore, 1)), (23, (.aload_n 0, 1)), (24, (.getfield 15, 3)), (27, (.iload_n 1, 1)), (28, (.iaload, 1)), (29, (.iconst (-1), 1)), (30, (.if_icmp .eq 7, 3)), (33, (.iconst 1, 1)), (34, (.goto 4, 3)), (37, (.iconst 0, 1)), (38, (.ireturn, 1))]
def mX5_readWeight : hM := (RX5, yX5_readWeight, cX5_readWeight, 2, (some .boolean), tX5_readWeight)
theorem miX5_readWeight : h_MI mX5_readWeight 1 := ⟨List.mem_of_getElem? (i := 473) (by decide +kernel), by decide +kernel, rfl, ⟨by decide +kernel, by decide +kernel, by decide +kernel⟩, by decide +kernel⟩
def tX5_readWord : List (Nat × (Instr × Nat)) := [(0, (.iconst 0, 1)), (1, (.istore_n 2, 1)), (2, (.iload_n 2, 1)), (3, (.aload_n 1, 1)), (4, (.invokevirtual 74, 3)), (7, (.if_icmp .ge 33, 3)), (10, (.aload_n 0, 1)), (11, (.aload_n 1, 1)), (12, (.iload_n 2, 1)), (13, (.invokevirtual 78, 3)), (16, (.invokevirtual 58, 3)), (19, (.ifCond .ne 5, 3)), (22, (.iconst 0, 1)), (23, (.ireturn, 1)), (24, (.aload_n 0, 1)), (25, (.dup, 1)), (26, (.getfield 26, 3)), (29, (.iconst 1, 1)), (30, (.iadd, 1)), (31, (.putfield 26, 3)), (34, (.iinc 2 1, 3)), (37, (.goto (-35), 3)), (40, (.iconst 1, 1)), (41, (.ireturn, 1))]
def mX5_readWord : hM := (RX5, yX5_readWord, cX5_readWord, 3, (some .boolean), tX5_readWord)
theorem miX5_readWord : h_MI mX5_readWord 1 := ⟨List.mem_of_getElem? (i := 402) (by decide +kernel), by decide +kernel, rfl, ⟨by decide +kernel, by decide +kernel, by decide +kernel⟩, by decide +kernel⟩
def tX5_readNumber : List (Nat × (Instr × Nat)) := [(0, (.aload_n 0, 1)), (1, (.invokevirtual 48, 3)), (4, (.iload_n 1, 1)), (5, (.if_icmp .ge 5, 3)), (8, (.iconst (-1), 1)), (9, (.ireturn, 1)), (10, (.iconst 0, 1)), (11, (.istore_n 3, 1)), (12, (.iconst 0, 1)), (13, (.istore 4, 2)), (15, (.iload 4, 2)), (17, (.iload_n 2, 1)), (18, (.if_icmp .ge 37, 3)), (21, (.aload_n 0, 1)), (22, (.invokevirtual 48, 3)), (25, (.iconst (-1), 1)), (26, (.if_icmp .eq 29, 3)), (29, (.iload_n 3, 1)), (30, (.bipush 10, 2)), (32, (.imul, 1)), (33, (.aload_n 0, 1)), (34, (.invokevirtual 48, 3)), (37, (.iadd, 1)), (38, (.istore_n 3, 1)), (39, (.aload_n 0, 1)), (40, (.dup, 1)), (41, (.getfield 26, 3)), (44, (.iconst 1, 1)), (45, (.iadd, 1)), (46, (.putfield 26, 3)), (49, (.iinc 4 1, 3)), (52, (.goto (-37), 3)), (55, (.iload_n 3, 1)), (56, (.ireturn, 1))]
def mX5_readNumber : hM := (RX5, yX5_readNumber, cX5_readNumber, 5, (some .int), tX5_readNumber)
theorem miX5_readNumber : h_MI mX5_readNumber 2 := ⟨List.mem_of_getElem? (i := 469) (by decide +kernel), by decide +kernel, rfl, ⟨by decide +kernel, by decide +kernel, by decide +kernel⟩, by decide +kernel⟩
def tX5_isHere : List (Nat × (Instr × Nat)) := [(0, (.aload_n 0, 1)), (1, (.getfield 26, 3)), (4, (.aload_n 0, 1)), (5, (.getfield 22, 3)), (8, (.if_icmp .ge 20, 3)), (11, (.aload_n 0, 1)), (12, (.getfield 18, 3)), (15, (.aload_n 0, 1)), (16, (.getfield 26, 3)), (19, (.baload, 1)), (20, (.iload_n 1, 1)), (21, (.if_icmp .ne 7, 3)), (24, (.iconst 1, 1)), (25, (.goto 4, 3)), (28, (.iconst 0, 1)), (29, (.ireturn, 1))]
def mX5_isHere : hM := (RX5, yX5_isHere, cX5_isHere, 2, (some .boolean), tX5_isHere)
theorem miX5_isHere : h_MI mX5_isHere 1 := ⟨List.mem_of_getElem? (i := 454) (by decide +kernel), by decide +kernel, rfl, ⟨by decide +kernel, by decide +kernel, by decide +kernel⟩, by decide +kernel⟩
def tX5_digitHere : List (Nat × (Instr × Nat)) := [(0, (.aload_n 0, 1)), (1, (.getfield 26, 3)), (4, (.aload_n 0, 1)), (5, (.getfield 22, 3)), (8, (.if_icmp .ge 35, 3)), (11, (.aload_n 0, 1)), (12, (.getfield 18, 3)), (15, (.aload_n 0, 1)), (16, (.getfield 26, 3)), (19, (.baload, 1)), (20, (.bipush 48, 2)), (22, (.if_icmp .lt 21, 3)), (25, (.aload_n 0, 1)), (26, (.getfield 18, 3)), (29, (.aload_n 0, 1)), (30, (.getfield 26, 3)), (33, (.baload, 1)), (34, (.bipush 57, 2)), (36, (.if_icmp .gt 7, 3)), (39, (.iconst 1, 1)), (40, (.goto 4, 3)), (43, (.iconst 0, 1)), (44, (.istore_n 1, 1)), (45, (.iload_n 1, 1)), (46, (.ifCond .eq 18, 3)), (49, (.aload_n 0, 1)), (50, (.getfield 18, 3)), (53, (.aload_n 0, 1)), (54, (.getfield 26, 3)), (57, (.baload, 1)), (58, (.bipush 48, 2)), (60, (.isub, 1)), (61, (.goto 4, 3)), (64, (.iconst (-1), 1)), (65, (.ireturn, 1))]
def mX5_digitHere : hM := (RX5, yX5_digitHere, cX5_digitHere, 2, (some .int), tX5_digitHere)
theorem miX5_digitHere : h_MI mX5_digitHere 0 := ⟨List.mem_of_getElem? (i := 462) (by decide +kernel), by decide +kernel, rfl, ⟨by decide +kernel, by decide +kernel, by decide +kernel⟩, by decide +kernel⟩
def tX6_init : List (Nat × (Instr × Nat)) := [(0, (.aload_n 0, 1)), (1, (.invokespecial 1, 3)), (4, (.aload_n 0, 1)), (5, (.bipush 8, 2)), (7, (.anewarray 9, 3)), (10, (.putfield 11, 3)), (13, (.aload_n 0, 1)), (14, (.bipush 30, 2)), (16, (.anewarray 15, 3)), (19, (.putfield 17, 3)), (22, (.aload_n 0, 1)), (23, (.bipush 10, 2)), (25, (.anewarray 21, 3)), (28, (.putfield 23, 3)), (31, (.aload_n 0, 1)), (32, (.new 27, 3)), (35, (.dup, 1)), (36, (.invokespecial 29, 3)), (39, (.putfield 30, 3)), (42, (.aload_n 0, 1)), (43, (.iconst 3, 1)), (44, (.anewarray 34, 3)), (47, (.putfield 36, 3)), (50, (.aload_n 0, 1)), (51, (.bipush 18, 2)), (53, (.newarray .int, 2)), (55, (.putfield 40, 3)), (58, (.aload_n 0, 1)), (59, (.bipush 6, 2)), (61, (.newarray .long, 2)), (63, (.putfield 44, 3)), (66, (.aload_n 0, 1)), (67, (.bipush 30, 2)), (69, (.newarray .int, 2)), (71, (.putfield 48, 3)), (74, (.aload_n 0, 1)), (75, (.bipush 30, 2)), (77, (.newarray .int, 2)), (79, (.putfield 51, 3)), (82, (.aload_n 0, 1)), (83, (.iconst 3, 1)), (84, (.newarray .int, 2)), (86, (.putfield 54, 3)), (89, (.aload_n 0, 1)), (90, (.bipush 6, 2)), (92, (.newarray .int, 2)), (94, (.putfield 57, 3)), (97, (.aload_n 0, 1)), (98, (.new 60, 3)), (101, (.dup, 1)), (102, (.invokespecial 62, 3)), (105, (.putfield 63, 3)), (108, (.aload_n 0, 1)), (109, (.getfield 40, 3)), (112, (.iconst 5, 1)), (113, (.invokestatic 67, 3)), (116, (.iconst 0, 1)), (117, (.istore_n 1, 1)), (118, (.iload_n 1, 1)), (119, (.iconst 3, 1)), (120, (.if_icmp .ge 22, 3)), (123, (.aload_n 0, 1)), (124, (.getfield 36, 3)), (127, (.iload_n 1, 1)), (128, (.new 34, 3)), (131, (.dup, 1)), (132, (.invokespecial 73, 3)), (135, (.aastore, 1)), (136, (.iinc 1 1, 3)), (139, (.goto (-21), 3)), (142, (.return_, 1))]
def mX6_init : hM := (RX6, yX6_init, cX6_init, 2, (none : Option Jvm.ClassFile.FieldType), tX6_init)
theorem miX6_init : h_MI mX6_init 0 := ⟨List.mem_of_getElem? (i := 69) (by decide +kernel), by decide +kernel, rfl, ⟨by decide +kernel, by decide +kernel, by decide +kernel⟩, by decide +kernel⟩
def tX6_sort : List (Nat × (Instr × Nat)) := [(0, (.iload_n 2, 1)), (1, (.iconst 1, 1)), (2, (.sipush 500, 3)), (5, (.invokestatic 74, 3)), (8, (.ifCond .eq 16, 3)), (11, (.iload_n 1, 1)), (12, (.iconst 1, 1)), (13, (.iload_n 2, 1)), (14, (.invokestatic 74, 3)), (17, (.ifCond .eq 7, 3)), (20, (.iconst 1, 1)), (21, (.goto 4, 3)), (24, (.iconst 0, 1)), (25, (.istore 5, 2)), (27, (.iload 5, 2)), (29, (.ifCond .eq 26, 3)), (32, (.iload_n 3, 1)), (33, (.iconst 0, 1)), (34, (.sipush 1000, 3)), (37, (.invokestatic 74, 3)), (40, (.ifCond .eq 15, 3)), (43, (.iload 4, 2)), (45, (.iconst 1, 1)), (46, (.sipush 240, 3)), (49, (.invokestatic 74, 3)), (52, (.ifCond .ne 6, 3)), (55, (.bipush (-2), 2)), (57, (.ireturn, 1)), (58, (.aload_n 0, 1)), (59, (.getfield 78, 3)), (62, (.bipush 8, 2)), (64, (.if_icmp .lt 6, 3)), (67, (.bipush (-4), 2)), (69, (.ireturn, 1)), (70, (.aload_n 0, 1)), (71, (.getfield 11, 3)), (74, (.aload_n 0, 1)), (75, (.getfield 78, 3)), (78, (.new 9, 3)), (81, (.dup, 1)), (82, (.iload_n 1, 1)), (83, (.iload_n 2, 1)), (84, (.iload_n 3, 1)), (85, (.iload 4, 2)), (87, (.invokespecial 82, 3)), (90, (.aastore, 1)), (91, (.aload_n 0, 1)), (92, (.dup, 1)), (93, (.getfield 78, 3)), (96, (.dup_x1, 1)), (97, (.iconst 1, 1)), (98, (.iadd, 1)), (99, (.putfield 78, 3)), (102, (.ireturn, 1))]
def mX6_sort : hM := (RX6, yX6_sort, cX6_sort, 6, (some .int), tX6_sort)
theorem miX6_sort : h_MI mX6_sort 4 := ⟨List.mem_of_getElem? (i := 236) (by decide +kernel), by decide +kernel, rfl, ⟨by decide +kernel, by decide +kernel, by decide +kernel⟩, by decide +kernel⟩
def tX6_lot : List (Nat × (Instr × Nat)) := [(0, (.aload_n 0, 1)), (1, (.iload_n 2, 1)), (2, (.invokevirtual 85, 3)), (5, (.astore 7, 2)), (7, (.aload 7, 2)), (9, (.ifnull 11, 3)), (12, (.iload 6, 2)), (14, (.invokestatic 89, 3)), (17, (.ifCond .ne 5, 3)), (20, (.iconst (-1), 1)), (21, (.ireturn, 1)), (22, (.iload_n 1, 1)), (23, (.aload 7, 2)), (25, (.iload_n 3, 1)), (26, (.iload 4, 2)), (28, (.iload 5, 2)), (30, (.invokestatic 93, 3)), (33, (.ifCond .ne 6, 3)), (36, (.bipush (-2), 2)), (38, (.ireturn, 1)), (39, (.aload_n 0, 1)), (40, (.getfield 97, 3)), (43, (.bipush 30, 2)), (45, (.if_icmp .lt 6, 3)), (48, (.bipush (-4), 2)), (50, (.ireturn, 1)), (51, (.new 15, 3)), (54, (.dup, 1)), (55, (.iload_n 1, 1)), (56, (.iload_n 2, 1)), (57, (.aload 7, 2)), (59, (.iload_n 3, 1)), (60, (.iload 4, 2)), (62, (.iload_n 1, 1)), (63, (.invokestatic 100, 3)), (66, (.ifCond .eq 8, 3)), (69, (.iload 5, 2)), (71, (.goto 8, 3)), (74, (.aload 7, 2)), (76, (.getfield 103, 3)), (79, (.invokespecial 106, 3)), (82, (.astore 8, 2)), (84, (.aload 8, 2)), (86, (.iload 6, 2)), (88, (.putfield 109, 3)), (91, (.aload_n 0, 1)), (92, (.aload 8, 2)), (94, (.invokevirtual 112, 3)), (97, (.ireturn, 1))]
def mX6_lot : hM := (RX6, yX6_lot, cX6_lot, 9, (some .int), tX6_lot)
theorem miX6_lot : h_MI mX6_lot 6 := ⟨List.mem_of_getElem? (i := 266) (by decide +kernel), by decide +kernel, rfl, ⟨by decide +kernel, by decide +kernel, by decide +kernel⟩, by decide +kernel⟩
def tX6_open : List (Nat × (Instr × Nat)) := [(0, (.aload_n 0, 1)), (1, (.iload_n 1, 1)), (2, (.invokevirtual 116, 3)), (5, (.astore_n 3, 1)), (6, (.aload_n 3, 1)), (7, (.ifnonnull 5, 3)), (10, (.iconst (-1), 1)), (11, (.ireturn, 1)), (12, (.iload_n 2, 1)), (13, (.aload_n 3, 1)), (14, (.getfield 120, 3)), (17, (.aload_n 3, 1)), (18, (.getfield 120, 3)), (21, (.aload_n 3, 1)), (22, (.getfield 123, 3)), (25, (.getfield 127, 3)), (28, (.imul, 1)), (29, (.invokestatic 74, 3)), (32, (.ifCond .ne 6, 3)), (35, (.bipush (-2), 2)), (37, (.ireturn, 1)), (38, (.aload_n 3, 1)), (39, (.invokevirtual 130, 3)), (42, (.ifCond .ne 6, 3)), (45, (.bipush (-3), 2)), (47, (.ireturn, 1)), (48, (.iload_n 2, 1)), (49, (.aload_n 3, 1)), (50, (.getfield 120, 3)), (53, (.aload_n 3, 1)), (54, (.getfield 123, 3)), (57, (.getfield 134, 3)), (60, (.imul, 1)), (61, (.if_icmp .ge 7, 3)), (64, (.iconst 1, 1)), (65, (.goto 4, 3)), (68, (.iconst 0, 1)), (69, (.istore 4, 2)), (71, (.aload_n 3, 1)), (72, (.iload 4, 2)), (74, (.ifCond .eq 7, 3)), (77, (.iconst 1, 1)), (78, (.goto 4, 3)), (81, (.iconst 0, 1)), (82, (.putfield 137, 3)), (85, (.aload_n 3, 1)), (86, (.iload_n 2, 1)), (87, (.putfield 140, 3)), (90, (.iload 4, 2)), (92, (.invokestatic 143, 3)), (95, (.ireturn, 1))]
def mX6_open : hM := (RX6, yX6_open, cX6_open, 5, (some .int), tX6_open)
theorem miX6_open : h_MI mX6_open 2 := ⟨List.mem_of_getElem? (i := 344) (by decide +kernel), by decide +kernel, rfl, ⟨by decide +kernel, by decide +kernel, by decide +kernel⟩, by decide +kernel⟩
def tX6_about : List (Nat × (Instr × Nat)) := [(0, (.aload_n 0, 1)), (1, (.iload_n 1, 1)), (2, (.invokevirtual 116, 3)), (5, (.astore_n 3, 1)), (6, (.aload_n 3, 1)), (7, (.ifnonnull 5, 3)), (10, (.iconst (-1), 1)), (11, (.ireturn, 1)), (12, (.iload_n 2, 1)), (13, (.tableswitch 138 0 10 #[59, 64, 69, 74, 79, 84, 89, 94, 114, 122, 130], 59)), (72, (.aload_n 3, 1)), (73, (.getfield 137, 3)), (76, (.ireturn, 1)), (77, (.aload_n 3, 1)), (78, (.getfield 147, 3)), (81, (.ireturn, 1)), (82, (.aload_n 3, 1)), (83, (.getfield 120, 3)), (86, (.ireturn, 1)), (87, (.aload_n 3, 1)), (88, (.getfield 140, 3)), (91, (.ireturn, 1)), (92, (.aload_n 3, 1)), (93, (.getfield 150, 3)), (96, (.ireturn, 1)), (97, (.aload_n 3, 1)), (98, (.getfield 109, 3)), (101, (.ireturn, 1)), (102, (.aload_n 3, 1)), (103, (.getfield 151, 3)), (106, (.ireturn, 1)), (107, (.aload_n 3, 1)), (108, (.aload_n 0, 1)), (109, (.getfield 154, 3)), (112, (.invokevirtual 157, 3)), (115, (.ifCond .eq 10, 3)), (118, (.aload_n 3, 1)), (119, (.getfield 160, 3)), (122, (.goto 4, 3)), (125, (.iconst (-1), 1)), (126, (.ireturn, 1)), (127, (.aload_n 3, 1)), (128, (.getfield 163, 3)), (131, (.invokestatic 143, 3)), (134, (.ireturn, 1)), (135, (.aload_n 3, 1)), (136, (.getfield 167, 3)), (139, (.invokestatic 143, 3)), (142, (.ireturn, 1)), (143, (.aload_n 3, 1)), (144, (.getfield 170, 3)), (147, (.invokestatic 143, 3)), (150, (.ireturn, 1)), (151, (.iconst (-1), 1)), (152, (.ireturn, 1))]
def mX6_about : hM := (RX6, yX6_about, cX6_about, 4, (some .int), tX6_about)
theorem miX6_about : h_MI mX6_about 2 := ⟨List.mem_of_getElem? (i := 359) (by decide +kernel), by decide +kernel, rfl, ⟨by decide +kernel, by decide +kernel, by decide +kernel⟩, by decide +kernel⟩
def tX6_silver : List (Nat × (Instr × Nat)) := [(0, (.aload_n 0, 1)), (1, (.iload_n 1, 1)), (2, (.invokevirtual 116, 3)), (5, (.astore_n 2, 1)), (6, (.aload_n 2, 1)), (7, (.ifnonnull 9, 3)), (10, (.ldc2_w 173, 3)), (13, (.goto 7, 3)), (16, (.aload_n 2, 1)), (17, (.invokevirtual 175, 3)), (20, (.lreturn, 1))]
def mX6_silver : hM := (RX6, yX6_silver, cX6_silver, 3, (some .long), tX6_silver)
theorem miX6_silver : h_MI mX6_silver 1 := ⟨List.mem_of_getElem? (i := 367) (by decide +kernel), by decide +kernel, rfl, ⟨by decide +kernel, by decide +kernel, by decide +kernel⟩, by decide +kernel⟩
def tX6_today : List (Nat × (Instr × Nat)) := [(0, (.iload_n 1, 1)), (1, (.aload_n 0, 1)), (2, (.getfield 154, 3)), (5, (.sipush 999, 3)), (8, (.invokestatic 74, 3)), (11, (.ifCond .ne 6, 3)), (14, (.bipush (-2), 2)), (16, (.ireturn, 1)), (17, (.aload_n 0, 1)), (18, (.getfield 154, 3)), (21, (.istore_n 2, 1)), (22, (.aload_n 0, 1)), (23, (.iload_n 1, 1)), (24, (.putfield 154, 3)), (27, (.iload_n 2, 1)), (28, (.ireturn, 1))]
def mX6_today : hM := (RX6, yX6_today, cX6_today, 3, (some .int), tX6_today)
theorem miX6_today : h_MI mX6_today 1 := ⟨List.mem_of_getElem? (i := 376) (by decide +kernel), by decide +kernel, rfl, ⟨by decide +kernel, by decide +kernel, by decide +kernel⟩, by decide +kernel⟩
def tX6_feed : List (Nat × (Instr × Nat)) := [(0, (.iload_n 3, 1)), (1, (.iconst 1, 1)), (2, (.bipush 8, 2)), (4, (.invokestatic 74, 3)), (7, (.ifCond .ne 6, 3)), (10, (.bipush (-2), 2)), (12, (.ireturn, 1)), (13, (.aload_n 0, 1)), (14, (.getfield 30, 3)), (17, (.lload_n 1, 1)), (18, (.iload_n 3, 1)), (19, (.invokevirtual 179, 3)), (22, (.ifCond .eq 13, 3)), (25, (.aload_n 0, 1)), (26, (.getfield 30, 3)), (29, (.getfield 183, 3)), (32, (.goto 5, 3)), (35, (.bipush (-4), 2)), (37, (.ireturn, 1))]
def mX6_feed : hM := (RX6, yX6_feed, cX6_feed, 4, (some .int), tX6_feed)
theorem miX6_feed : h_MI mX6_feed 2 := ⟨List.mem_of_getElem? (i := 380) (by decide +kernel), by decide +kernel, rfl, ⟨by decide +kernel, by decide +kernel, by decide +kernel⟩, by decide +kernel⟩
def tX6_order : List (Nat × (Instr × Nat)) := [(0, (.aload_n 0, 1)), (1, (.getfield 186, 3)), (4, (.bipush 10, 2)), (6, (.if_icmp .lt 6, 3)), (9, (.bipush (-4), 2)), (11, (.ireturn, 1)), (12, (.aload_n 0, 1)), (13, (.getfield 30, 3)), (16, (.invokevirtual 189, 3)), (19, (.istore_n 1, 1)), (20, (.aload_n 0, 1)), (21, (.getfield 30, 3)), (24, (.iconst 0, 1)), (25, (.putfield 183, 3)), (28, (.iload_n 1, 1)), (29, (.iconst (-1), 1)), (30, (.if_icmp .eq 8, 3)), (33, (.bipush (-10), 2)), (35, (.iload_n 1, 1)), (36, (.isub, 1)), (37, (.ireturn, 1)), (38, (.aload_n 0, 1)), (39, (.getfield 23, 3)), (42, (.aload_n 0, 1)), (43, (.getfield 186, 3)), (46, (.new 21, 3)), (49, (.dup, 1)), (50, (.aload_n 0, 1)), (51, (.getfield 30, 3)), (54, (.getfield 193, 3)), (57, (.aload_n 0, 1)), (58, (.getfield 30, 3)), (61, (.getfield 196, 3)), (64, (.invokespecial 199, 3)), (67, (.aastore, 1)), (68, (.aload_n 0, 1)), (69, (.dup, 1)), (70, (.getfield 186, 3)), (73, (.dup_x1, 1)), (74, (.iconst 1, 1)), (75, (.iadd, 1)), (76, (.putfield 186, 3)), (79, (.ireturn, 1))]
def mX6_order : hM := (RX6, yX6_order, cX6_order, 2, (some .int), tX6_order)
theorem miX6_order : h_MI mX6_order 0 := ⟨List.mem_of_getElem? (i := 388) (by decide +kernel), by decide +kernel, rfl, ⟨by decide +kernel, by decide +kernel, by decide +kernel⟩, by decide +kernel⟩
def tX6_tell : List (Nat × (Instr × Nat)) := [(0, (.aload_n 0, 1)), (1, (.iload_n 1, 1)), (2, (.invokevirtual 202, 3)), (5, (.astore_n 3, 1)), (6, (.aload_n 3, 1)), (7, (.ifnull 10, 3)), (10, (.iload_n 2, 1)), (11, (.invokestatic 89, 3)), (14, (.ifCond .ne 5, 3)), (17, (.iconst (-1), 1)), (18, (.ireturn, 1)), (19, (.aload_n 3, 1)), (20, (.getfield 206, 3)), (23, (.iload_n 2, 1)), (24, (.iaload, 1)), (25, (.iconst (-1), 1)), (26, (.if_icmp .eq 5, 3)), (29, (.iconst 0, 1)), (30, (.ireturn, 1)), (31, (.aload_n 3, 1)), (32, (.getfield 206, 3)), (35, (.iload_n 2, 1)), (36, (.aload_n 0, 1)), (37, (.getfield 154, 3)), (40, (.iastore, 1)), (41, (.iconst 1, 1)), (42, (.ireturn, 1))]
def mX6_tell : hM := (RX6, yX6_tell, cX6_tell, 4, (some .int), tX6_tell)
theorem miX6_tell : h_MI mX6_tell 2 := ⟨List.mem_of_getElem? (i := 513) (by decide +kernel), by decide +kernel, rfl, ⟨by decide +kernel, by decide +kernel, by decide +kernel⟩, by decide +kernel⟩
def tX6_force : List (Nat × (Instr × Nat)) := [(0, (.iload_n 1, 1)), (1, (.invokestatic 89, 3)), (4, (.ifCond .eq 12, 3)), (7, (.aload_n 0, 1)), (8, (.iload_n 1, 1)), (9, (.iload_n 2, 1)), (10, (.invokevirtual 209, 3)), (13, (.goto 4, 3)), (16, (.iconst (-1), 1)), (17, (.ireturn, 1))]
def mX6_force : hM := (RX6, yX6_force, cX6_force, 3, (some .int), tX6_force)
theorem miX6_force : h_MI mX6_force 2 := ⟨List.mem_of_getElem? (i := 521) (by decide +kernel), by decide +kernel, rfl, ⟨by decide +kernel, by decide +kernel, by decide +kernel⟩, by decide +kernel⟩
def tX6_pass : List (Nat × (Instr × Nat)) := [(0, (.aload_n 0, 1)), (1, (.iload_n 1, 1)), (2, (.invokevirtual 116, 3)), (5, (.astore 4, 2)), (7, (.aload 4, 2)), (9, (.ifnull 10, 3)), (12, (.iload_n 2, 1)), (13, (.invokestatic 89, 3)), (16, (.ifCond .ne 5, 3)), (19, (.iconst (-1), 1)), (20, (.ireturn, 1)), (21, (.iload_n 3, 1)), (22, (.ifCond .ge 6, 3)), (25, (.bipush (-2), 2)), (27, (.ireturn, 1)), (28, (.aload 4, 2)), (30, (.iload_n 2, 1)), (31, (.aload_n 0, 1)), (32, (.aload_n 0, 1)), (33, (.iload_n 2, 1)), (34, (.iload_n 3, 1)), (35, (.invokevirtual 209, 3)), (38, (.invokevirtual 202, 3)), (41, (.invokestatic 213, 3)), (44, (.ireturn, 1))]
def mX6_pass : hM := (RX6, yX6_pass, cX6_pass, 5, (some .int), tX6_pass)
theorem miX6_pass : h_MI mX6_pass 3 := ⟨List.mem_of_getElem? (i := 529) (by decide +kernel), by decide +kernel, rfl, ⟨by decide +kernel, by decide +kernel, by decide +kernel⟩, by decide +kernel⟩
def tX6_light : List (Nat × (Instr × Nat)) := [(0, (.aload_n 0, 1)), (1, (.iload_n 1, 1)), (2, (.invokevirtual 116, 3)), (5, (.astore 5, 2)), (7, (.aload 5, 2)), (9, (.ifnull 11, 3)), (12, (.iload 4, 2)), (14, (.invokestatic 89, 3)), (17, (.ifCond .ne 5, 3)), (20, (.iconst (-1), 1)), (21, (.ireturn, 1)), (22, (.aload 5, 2)), (24, (.iload_n 2, 1)), (25, (.iload_n 3, 1)), (26, (.invokevirtual 217, 3)), (29, (.ifCond .ne 6, 3)), (32, (.bipush (-2), 2)), (34, (.ireturn, 1)), (35, (.aload_n 0, 1)), (36, (.aload_n 0, 1)), (37, (.iload 4, 2)), (39, (.aload_n 0, 1)), (40, (.getfield 154, 3)), (43, (.invokevirtual 209, 3)), (46, (.invokevirtual 202, 3)), (49, (.astore 6, 2)), (51, (.aload 6, 2)), (53, (.ifnonnull 5, 3)), (56, (.iconst 0, 1)), (57, (.ireturn, 1)), (58, (.aload 5, 2)), (60, (.iload_n 2, 1)), (61, (.iload_n 3, 1)), (62, (.invokevirtual 221, 3)), (65, (.aload 6, 2)), (67, (.getfield 224, 3)), (70, (.aload 5, 2)), (72, (.getfield 147, 3)), (75, (.iaload, 1)), (76, (.aload 5, 2)), (78, (.getfield 120, 3)), (81, (.imul, 1)), (82, (.if_icmp .ge 7, 3)), (85, (.iconst 1, 1)), (86, (.goto 4, 3)), (89, (.iconst 0, 1)), (90, (.invokestatic 143, 3)), (93, (.ireturn, 1))]
def mX6_light : hM := (RX6, yX6_light, cX6_light, 7, (some .int), tX6_light)
theorem miX6_light : h_MI mX6_light 4 := ⟨List.mem_of_getElem? (i := 536) (by decide +kernel), by decide +kernel, rfl, ⟨by decide +kernel, by decide +kernel, by decide +kernel⟩, by decide +kernel⟩
def tX6_pay : List (Nat × (Instr × Nat)) := [(0, (.iload_n 1, 1)), (1, (.invokestatic 89, 3)), (4, (.ifCond .ne 5, 3)), (7, (.iconst (-1), 1)), (8, (.ireturn, 1)), (9, (.iload_n 2, 1)), (10, (.iconst 1, 1)), (11, (.ldc 225, 2)), (13, (.invokestatic 74, 3)), (16, (.ifCond .ne 6, 3)), (19, (.bipush (-2), 2)), (21, (.ireturn, 1)), (22, (.aload_n 0, 1)), (23, (.iload_n 1, 1)), (24, (.invokevirtual 226, 3)), (27, (.iload_n 2, 1)), (28, (.i2l, 1)), (29, (.lcmp, 1)), (30, (.ifCond .ge 6, 3)), (33, (.bipush (-3), 2)), (35, (.ireturn, 1)), (36, (.aload_n 0, 1)), (37, (.iconst 0, 1)), (38, (.putfield 230, 3)), (41, (.lconst 0, 1)), (42, (.lstore_n 3, 1)), (43, (.iconst 0, 1)), (44, (.istore 5, 2)), (46, (.iload 5, 2)), (48, (.bipush 30, 2)), (50, (.if_icmp .ge 24, 3)), (53, (.lload_n 3, 1)), (54, (.iload_n 2, 1)), (55, (.i2l, 1)), (56, (.lcmp, 1)), (57, (.ifCond .ge 17, 3)), (60, (.lload_n 3, 1)), (61, (.aload_n 0, 1)), (62, (.invokevirtual 233, 3)), (65, (.i2l, 1)), (66, (.ladd, 1)), (67, (.lstore_n 3, 1)), (68, (.iinc 5 1, 3)), (71, (.goto (-25), 3)), (74, (.aload_n 0, 1)), (75, (.getfield 44, 3)), (78, (.iload_n 1, 1)), (79, (.dup2, 1)), (80, (.laload, 1)), (81, (.lload_n 3, 1)), (82, (.iload_n 2, 1)), (83, (.i2l, 1)), (84, (.lsub, 1)), (85, (.ladd, 1)), (86, (.lastore, 1)), (87, (.aload_n 0, 1)), (88, (.getfield 230, 3)), (91, (.ireturn, 1))]
def mX6_pay : hM := (RX6, yX6_pay, cX6_pay, 6, (some .int), tX6_pay)
theorem miX6_pay : h_MI mX6_pay 2 := ⟨List.mem_of_getElem? (i := 550) (by decide +kernel), by decide +kernel, rfl, ⟨by decide +kernel, by decide +kernel, by decide +kernel⟩, by decide +kernel⟩
def tX6_paid : List (Nat × (Instr × Nat)) := [(0, (.iload_n 1, 1)), (1, (.iconst 0, 1)), (2, (.aload_n 0, 1)), (3, (.getfield 230, 3)), (6, (.iconst 1, 1)), (7, (.isub, 1)), (8, (.invokestatic 74, 3)), (11, (.ifCond .eq 12, 3)), (14, (.aload_n 0, 1)), (15, (.getfield 48, 3)), (18, (.iload_n 1, 1)), (19, (.iaload, 1)), (20, (.goto 4, 3)), (23, (.iconst (-1), 1)), (24, (.ireturn, 1))]
def mX6_paid : hM := (RX6, yX6_paid, cX6_paid, 2, (some .int), tX6_paid)
theorem miX6_paid : h_MI mX6_paid 1 := ⟨List.mem_of_getElem? (i := 566) (by decide +kernel), by decide +kernel, rfl, ⟨by decide +kernel, by decide +kernel, by decide +kernel⟩, by decide +kernel⟩
def tX6_credit : List (Nat × (Instr × Nat)) := [(0, (.iload_n 1, 1)), (1, (.invokestatic 89, 3)), (4, (.ifCond .eq 12, 3)), (7, (.aload_n 0, 1)), (8, (.getfield 44, 3)), (11, (.iload_n 1, 1)), (12, (.laload, 1)), (13, (.goto 6, 3)), (16, (.ldc2_w 173, 3)), (19, (.lreturn, 1))]
def mX6_credit : hM := (RX6, yX6_credit, cX6_credit, 2, (some .long), tX6_credit)
theorem miX6_credit : h_MI mX6_credit 1 := ⟨List.mem_of_getElem? (i := 570) (by decide +kernel), by decide +kernel, rfl, ⟨by decide +kernel, by decide +kernel, by decide +kernel⟩, by decide +kernel⟩
def tX6_give : List (Nat × (Instr × Nat)) := [(0, (.iload_n 1, 1)), (1, (.invokestatic 89, 3)), (4, (.ifCond .ne 5, 3)), (7, (.iconst (-1), 1)), (8, (.ireturn, 1)), (9, (.iconst 0, 1)), (10, (.istore_n 2, 1)), (11, (.iconst 0, 1)), (12, (.istore_n 3, 1)), (13, (.iload_n 3, 1)), (14, (.aload_n 0, 1)), (15, (.getfield 97, 3)), (18, (.if_icmp .ge 47, 3)), (21, (.aload_n 0, 1)), (22, (.iload_n 3, 1)), (23, (.invokevirtual 116, 3)), (26, (.astore 4, 2)), (28, (.aload 4, 2)), (30, (.ifnull 29, 3)), (33, (.aload 4, 2)), (35, (.getfield 167, 3)), (38, (.ifCond .eq 21, 3)), (41, (.aload 4, 2)), (43, (.getfield 109, 3)), (46, (.iload_n 1, 1)), (47, (.if_icmp .ne 12, 3)), (50, (.aload 4, 2)), (52, (.iconst 0, 1)), (53, (.putfield 167, 3)), (56, (.iinc 2 1, 3)), (59, (.iinc 3 1, 3)), (62, (.goto (-49), 3)), (65, (.iload_n 2, 1)), (66, (.ireturn, 1))]
def mX6_give : hM := (RX6, yX6_give, cX6_give, 5, (some .int), tX6_give)
theorem miX6_give : h_MI mX6_give 1 := ⟨List.mem_of_getElem? (i := 574) (by decide +kernel), by decide +kernel, rfl, ⟨by decide +kernel, by decide +kernel, by decide +kernel⟩, by decide +kernel⟩
def tX6_lack : List (Nat × (Instr × Nat)) := [(0, (.iload_n 1, 1)), (1, (.invokestatic 89, 3)), (4, (.ifCond .ne 5, 3)), (7, (.iconst (-1), 1)), (8, (.ireturn, 1)), (9, (.iload_n 2, 1)), (10, (.iconst 0, 1)), (11, (.ldc 236, 2)), (13, (.invokestatic 74, 3)), (16, (.ifCond .ne 6, 3)), (19, (.bipush (-2), 2)), (21, (.ireturn, 1)), (22, (.lconst 0, 1)), (23, (.iload_n 2, 1)), (24, (.i2l, 1)), (25, (.aload_n 0, 1)), (26, (.iload_n 1, 1)), (27, (.invokevirtual 226, 3)), (30, (.lsub, 1)), (31, (.invokestatic 237, 3)), (34, (.l2i, 1)), (35, (.ireturn, 1))]
def mX6_lack : hM := (RX6, yX6_lack, cX6_lack, 3, (some .int), tX6_lack)
theorem miX6_lack : h_MI mX6_lack 2 := ⟨List.mem_of_getElem? (i := 578) (by decide +kernel), by decide +kernel, rfl, ⟨by decide +kernel, by decide +kernel, by decide +kernel⟩, by decide +kernel⟩
def tX6_road : List (Nat × (Instr × Nat)) := [(0, (.iload_n 1, 1)), (1, (.invokestatic 89, 3)), (4, (.ifCond .eq 10, 3)), (7, (.iload_n 2, 1)), (8, (.invokestatic 243, 3)), (11, (.ifCond .ne 5, 3)), (14, (.iconst (-1), 1)), (15, (.ireturn, 1)), (16, (.iload_n 3, 1)), (17, (.iconst 1, 1)), (18, (.bipush 30, 2)), (20, (.invokestatic 74, 3)), (23, (.ifCond .ne 6, 3)), (26, (.bipush (-2), 2)), (28, (.ireturn, 1)), (29, (.aload_n 0, 1)), (30, (.getfield 40, 3)), (33, (.iload_n 1, 1)), (34, (.iconst 3, 1)), (35, (.imul, 1)), (36, (.iload_n 2, 1)), (37, (.iadd, 1)), (38, (.iaload, 1)), (39, (.istore 4, 2)), (41, (.aload_n 0, 1)), (42, (.getfield 40, 3)), (45, (.iload_n 1, 1)), (46, (.iconst 3, 1)), (47, (.imul, 1)), (48, (.iload_n 2, 1)), (49, (.iadd, 1)), (50, (.iload_n 3, 1)), (51, (.iastore, 1)), (52, (.iload 4, 2)), (54, (.ireturn, 1))]
def mX6_road : hM := (RX6, yX6_road, cX6_road, 5, (some .int), tX6_road)
theorem miX6_road : h_MI mX6_road 3 := ⟨List.mem_of_getElem? (i := 585) (by decide +kernel), by decide +kernel, rfl, ⟨by decide +kernel, by decide +kernel, by decide +kernel⟩, by decide +kernel⟩
def tX6_send : List (Nat × (Instr × Nat)) := [(0, (.aload_n 0, 1)), (1, (.iload_n 1, 1)), (2, (.invokevirtual 116, 3)), (5, (.astore_n 3, 1)), (6, (.aload_n 3, 1)), (7, (.ifnull 10, 3)), (10, (.iload_n 2, 1)), (11, (.invokestatic 243, 3)), (14, (.ifCond .ne 5, 3)), (17, (.iconst (-1), 1)), (18, (.ireturn, 1)), (19, (.aload_n 3, 1)), (20, (.getfield 109, 3)), (23, (.invokestatic 89, 3)), (26, (.ifCond .eq 21, 3)), (29, (.aload_n 3, 1)), (30, (.aload_n 0, 1)), (31, (.getfield 154, 3)), (34, (.invokevirtual 157, 3)), (37, (.ifCond .ne 10, 3)), (40, (.aload_n 3, 1)), (41, (.getfield 167, 3)), (44, (.ifCond .eq 6, 3)), (47, (.bipush (-3), 2)), (49, (.ireturn, 1)), (50, (.aload_n 3, 1)), (51, (.aload_n 0, 1)), (52, (.getfield 154, 3)), (55, (.aload_n 0, 1)), (56, (.getfield 40, 3)), (59, (.aload_n 3, 1)), (60, (.getfield 109, 3)), (63, (.iconst 3, 1)), (64, (.imul, 1)), (65, (.iload_n 2, 1)), (66, (.iadd, 1)), (67, (.iaload, 1)), (68, (.iadd, 1)), (69, (.putfield 160, 3)), (72, (.aload_n 3, 1)), (73, (.iconst (-1), 1)), (74, (.putfield 109, 3)), (77, (.aload_n 3, 1)), (78, (.iload_n 2, 1)), (79, (.putfield 151, 3)), (82, (.aload_n 3, 1)), (83, (.getfield 160, 3)), (86, (.ireturn, 1))]
def mX6_send : hM := (RX6, yX6_send, cX6_send, 4, (some .int), tX6_send)
theorem miX6_send : h_MI mX6_send 2 := ⟨List.mem_of_getElem? (i := 592) (by decide +kernel), by decide +kernel, rfl, ⟨by decide +kernel, by decide +kernel, by decide +kernel⟩, by decide +kernel⟩
def tX6_bring : List (Nat × (Instr × Nat)) := [(0, (.aload_n 0, 1)), (1, (.iload_n 1, 1)), (2, (.invokevirtual 116, 3)), (5, (.astore_n 3, 1)), (6, (.aload_n 3, 1)), (7, (.ifnull 10, 3)), (10, (.iload_n 2, 1)), (11, (.invokestatic 89, 3)), (14, (.ifCond .ne 5, 3)), (17, (.iconst (-1), 1)), (18, (.ireturn, 1)), (19, (.aload_n 3, 1)), (20, (.getfield 151, 3)), (23, (.invokestatic 243, 3)), (26, (.ifCond .eq 14, 3)), (29, (.aload_n 3, 1)), (30, (.aload_n 0, 1)), (31, (.getfield 154, 3)), (34, (.invokevirtual 157, 3)), (37, (.ifCond .eq 6, 3)), (40, (.bipush (-3), 2)), (42, (.ireturn, 1)), (43, (.aload_n 3, 1)), (44, (.aload_n 0, 1)), (45, (.getfield 154, 3)), (48, (.aload_n 0, 1)), (49, (.getfield 40, 3)), (52, (.iload_n 2, 1)), (53, (.iconst 3, 1)), (54, (.imul, 1)), (55, (.aload_n 3, 1)), (56, (.getfield 151, 3)), (59, (.iadd, 1)), (60, (.iaload, 1)), (61, (.iadd, 1)), (62, (.putfield 160, 3)), (65, (.aload_n 3, 1)), (66, (.iconst (-1), 1)), (67, (.putfield 151, 3)), (70, (.aload_n 3, 1)), (71, (.iload_n 2, 1)), (72, (.putfield 109, 3)), (75, (.aload_n 3, 1)), (76, (.getfield 160, 3)), (79, (.ireturn, 1))]
def mX6_bring : hM := (RX6, yX6_bring, cX6_bring, 4, (some .int), tX6_bring)
theorem miX6_bring : h_MI mX6_bring 2 := ⟨List.mem_of_getElem? (i := 596) (by decide +kernel), by decide +kernel, rfl, ⟨by decide +kernel, by decide +kernel, by decide +kernel⟩, by decide +kernel⟩
def tX6_melt : List (Nat × (Instr × Nat)) := [(0, (.aload_n 0, 1)), (1, (.iload_n 1, 1)), (2, (.invokevirtual 116, 3)), (5, (.astore_n 2, 1)), (6, (.aload_n 2, 1)), (7, (.ifnonnull 5, 3)), (10, (.iconst (-1), 1)), (11, (.ireturn, 1)), (12, (.aload_n 0, 1)), (13, (.aload_n 2, 1)), (14, (.getfield 151, 3)), (17, (.invokevirtual 246, 3)), (20, (.astore_n 3, 1)), (21, (.aload_n 3, 1)), (22, (.ifnull 14, 3)), (25, (.aload_n 2, 1)), (26, (.aload_n 0, 1)), (27, (.getfield 154, 3)), (30, (.invokevirtual 157, 3)), (33, (.ifCond .eq 6, 3)), (36, (.bipush (-3), 2)), (38, (.ireturn, 1)), (39, (.aload_n 2, 1)), (40, (.getfield 137, 3)), (43, (.iconst 5, 1)), (44, (.if_icmp .ne 13, 3)), (47, (.aload_n 0, 1)), (48, (.aload_n 2, 1)), (49, (.getfield 147, 3)), (52, (.invokevirtual 250, 3)), (55, (.iconst 0, 1)), (56, (.ireturn, 1)), (57, (.aload_n 3, 1)), (58, (.aload_n 0, 1)), (59, (.getfield 154, 3)), (62, (.invokevirtual 254, 3)), (65, (.aload_n 2, 1)), (66, (.getfield 140, 3)), (69, (.iadd, 1)), (70, (.aload_n 3, 1)), (71, (.getfield 258, 3)), (74, (.if_icmp .le 6, 3)), (77, (.bipush (-4), 2)), (79, (.ireturn, 1)), (80, (.aload_n 3, 1)), (81, (.aload_n 2, 1)), (82, (.getfield 140, 3)), (85, (.aload_n 2, 1)), (86, (.invokevirtual 175, 3)), (89, (.aload_n 0, 1)), (90, (.getfield 154, 3)), (93, (.invokevirtual 261, 3)), (96, (.aload_n 2, 1)), (97, (.invokevirtual 265, 3)), (100, (.iconst 1, 1)), (101, (.ireturn, 1))]
def mX6_melt : hM := (RX6, yX6_melt, cX6_melt, 4, (some .int), tX6_melt)
theorem miX6_melt : h_MI mX6_melt 1 := ⟨List.mem_of_getElem? (i := 600) (by decide +kernel), by decide +kernel, rfl, ⟨by decide +kernel, by decide +kernel, by decide +kernel⟩, by decide +kernel⟩
def tX6_furnace : List (Nat × (Instr × Nat)) := [(0, (.aload_n 0, 1)), (1, (.iload_n 1, 1)), (2, (.invokevirtual 246, 3)), (5, (.astore_n 3, 1)), (6, (.aload_n 3, 1)), (7, (.ifnonnull 5, 3)), (10, (.iconst (-1), 1)), (11, (.ireturn, 1)), (12, (.iload_n 2, 1)), (13, (.iconst 1, 1)), (14, (.ldc 225, 2)), (16, (.invokestatic 74, 3)), (19, (.ifCond .ne 6, 3)), (22, (.bipush (-2), 2)), (24, (.ireturn, 1)), (25, (.aload_n 3, 1)), (26, (.getfield 258, 3)), (29, (.istore 4, 2)), (31, (.aload_n 3, 1)), (32, (.iload_n 2, 1)), (33, (.putfield 258, 3)), (36, (.iload 4, 2)), (38, (.ireturn, 1))]
def mX6_furnace : hM := (RX6, yX6_furnace, cX6_furnace, 5, (some .int), tX6_furnace)
theorem miX6_furnace : h_MI mX6_furnace 2 := ⟨List.mem_of_getElem? (i := 625) (by decide +kernel), by decide +kernel, rfl, ⟨by decide +kernel, by decide +kernel, by decide +kernel⟩, by decide +kernel⟩
def tX6_refine : List (Nat × (Instr × Nat)) := [(0, (.aload_n 0, 1)), (1, (.iload_n 1, 1)), (2, (.invokevirtual 246, 3)), (5, (.astore_n 2, 1)), (6, (.aload_n 2, 1)), (7, (.ifnonnull 5, 3)), (10, (.iconst (-1), 1)), (11, (.ireturn, 1)), (12, (.aload_n 2, 1)), (13, (.getfield 268, 3)), (16, (.lconst 0, 1)), (17, (.lcmp, 1)), (18, (.ifCond .ne 8, 3)), (21, (.bipush (-3), 2)), (23, (.goto 8, 3)), (26, (.aload_n 2, 1)), (27, (.invokevirtual 271, 3)), (30, (.l2i, 1)), (31, (.ireturn, 1))]
def mX6_refine : hM := (RX6, yX6_refine, cX6_refine, 3, (some .int), tX6_refine)
theorem miX6_refine : h_MI mX6_refine 1 := ⟨List.mem_of_getElem? (i := 629) (by decide +kernel), by decide +kernel, rfl, ⟨by decide +kernel, by decide +kernel, by decide +kernel⟩, by decide +kernel⟩
def tX6_strike : List (Nat × (Instr × Nat)) := [(0, (.aload_n 0, 1)), (1, (.iload_n 1, 1)), (2, (.invokevirtual 246, 3)), (5, (.astore 4, 2)), (7, (.aload_n 0, 1)), (8, (.iload_n 2, 1)), (9, (.invokevirtual 85, 3)), (12, (.astore 5, 2)), (14, (.aload 4, 2)), (16, (.ifnull 8, 3)), (19, (.aload 5, 2)), (21, (.ifnonnull 5, 3)), (24, (.iconst (-1), 1)), (25, (.ireturn, 1)), (26, (.iload_n 3, 1)), (27, (.iconst 1, 1)), (28, (.sipush 1000, 3)), (31, (.invokestatic 74, 3)), (34, (.ifCond .eq 14, 3)), (37, (.aload 5, 2)), (39, (.getfield 103, 3)), (42, (.sipush 925, 3)), (45, (.if_icmp .eq 6, 3)), (48, (.bipush (-2), 2)), (50, (.ireturn, 1)), (51, (.iload_n 3, 1)), (52, (.aload 5, 2)), (54, (.getfield 127, 3)), (57, (.imul, 1)), (58, (.istore 6, 2)), (60, (.aload 4, 2)), (62, (.getfield 274, 3)), (65, (.ifCond .eq 15, 3)), (68, (.aload 4, 2)), (70, (.getfield 268, 3)), (73, (.iload 6, 2)), (75, (.i2l, 1)), (76, (.lcmp, 1)), (77, (.ifCond .ge 6, 3)), (80, (.bipush (-3), 2)), (82, (.ireturn, 1)), (83, (.aload_n 0, 1)), (84, (.getfield 97, 3)), (87, (.bipush 30, 2)), (89, (.if_icmp .lt 6, 3)), (92, (.bipush (-4), 2)), (94, (.ireturn, 1)), (95, (.aload 4, 2)), (97, (.iload 6, 2)), (99, (.invokevirtual 277, 3)), (102, (.new 15, 3)), (105, (.dup, 1)), (106, (.iconst 4, 1)), (107, (.iload_n 2, 1)), (108, (.aload 5, 2)), (110, (.iload_n 3, 1)), (111, (.iload 6, 2)), (113, (.sipush 925, 3)), (116, (.invokespecial 106, 3)), (119, (.astore 7, 2)), (121, (.aload 7, 2)), (123, (.iload_n 1, 1)), (124, (.putfield 151, 3)), (127, (.aload_n 0, 1)), (128, (.aload 7, 2)), (130, (.invokevirtual 112, 3)), (133, (.ireturn, 1))]
def mX6_strike : hM := (RX6, yX6_strike, cX6_strike, 8, (some .int), tX6_strike)
theorem miX6_strike : h_MI mX6_strike 3 := ⟨List.mem_of_getElem? (i := 641) (by decide +kernel), by decide +kernel, rfl, ⟨by decide +kernel, by decide +kernel, by decide +kernel⟩, by decide +kernel⟩
def tX6_mint : List (Nat × (Instr × Nat)) := [(0, (.aload_n 0, 1)), (1, (.iload_n 1, 1)), (2, (.invokevirtual 246, 3)), (5, (.astore_n 3, 1)), (6, (.aload_n 3, 1)), (7, (.ifnonnull 7, 3)), (10, (.ldc2_w 173, 3)), (13, (.lreturn, 1)), (14, (.iload_n 2, 1)), (15, (.tableswitch 76 0 5 #[37, 42, 47, 56, 61, 66], 37)), (52, (.aload_n 3, 1)), (53, (.getfield 268, 3)), (56, (.lreturn, 1)), (57, (.aload_n 3, 1)), (58, (.getfield 280, 3)), (61, (.lreturn, 1)), (62, (.aload_n 3, 1)), (63, (.getfield 274, 3)), (66, (.invokestatic 143, 3)), (69, (.i2l, 1)), (70, (.lreturn, 1)), (71, (.aload_n 3, 1)), (72, (.getfield 283, 3)), (75, (.lreturn, 1)), (76, (.aload_n 3, 1)), (77, (.getfield 286, 3)), (80, (.lreturn, 1)), (81, (.aload_n 3, 1)), (82, (.aload_n 0, 1)), (83, (.getfield 154, 3)), (86, (.invokevirtual 254, 3)), (89, (.i2l, 1)), (90, (.lreturn, 1)), (91, (.ldc2_w 173, 3)), (94, (.lreturn, 1))]
def mX6_mint : hM := (RX6, yX6_mint, cX6_mint, 4, (some .long), tX6_mint)
theorem miX6_mint : h_MI mX6_mint 2 := ⟨List.mem_of_getElem? (i := 649) (by decide +kernel), by decide +kernel, rfl, ⟨by decide +kernel, by decide +kernel, by decide +kernel⟩, by decide +kernel⟩
def tX6_all : List (Nat × (Instr × Nat)) := [(0, (.lconst 0, 1)), (1, (.lstore_n 1, 1)), (2, (.iconst 0, 1)), (3, (.istore_n 3, 1)), (4, (.iload_n 3, 1)), (5, (.aload_n 0, 1)), (6, (.getfield 97, 3)), (9, (.if_icmp .ge 37, 3)), (12, (.aload_n 0, 1)), (13, (.iload_n 3, 1)), (14, (.invokevirtual 116, 3)), (17, (.astore 4, 2)), (19, (.aload 4, 2)), (21, (.ifnull 19, 3)), (24, (.aload 4, 2)), (26, (.getfield 163, 3)), (29, (.ifCond .ne 11, 3)), (32, (.lload_n 1, 1)), (33, (.aload 4, 2)), (35, (.invokevirtual 175, 3)), (38, (.ladd, 1)), (39, (.lstore_n 1, 1)), (40, (.iinc 3 1, 3)), (43, (.goto (-39), 3)), (46, (.iconst 0, 1)), (47, (.istore_n 3, 1)), (48, (.iload_n 3, 1)), (49, (.iconst 3, 1)), (50, (.if_icmp .ge 45, 3)), (53, (.aload_n 0, 1)), (54, (.iload_n 3, 1)), (55, (.invokevirtual 246, 3)), (58, (.astore 4, 2)), (60, (.aload 4, 2)), (62, (.ifnull 27, 3)), (65, (.lload_n 1, 1)), (66, (.aload 4, 2)), (68, (.getfield 280, 3)), (71, (.aload 4, 2)), (73, (.getfield 286, 3)), (76, (.ldc2_w 289, 3)), (79, (.lmul, 1)), (80, (.lsub, 1)), (81, (.aload 4, 2)), (83, (.getfield 291, 3)), (86, (.ladd, 1)), (87, (.ladd, 1)), (88, (.lstore_n 1, 1)), (89, (.iinc 3 1, 3)), (92, (.goto (-44), 3)), (95, (.lload_n 1, 1)), (96, (.lreturn, 1))]
def mX6_all : hM := (RX6, yX6_all, cX6_all, 5, (some .long), tX6_all)
theorem miX6_all : h_MI mX6_all 0 := ⟨List.mem_of_getElem? (i := 653) (by decide +kernel), by decide +kernel, rfl, ⟨by decide +kernel, by decide +kernel, by decide +kernel⟩, by decide +kernel⟩
def tX6_drawn : List (Nat × (Instr × Nat)) := [(0, (.aload_n 0, 1)), (1, (.iload_n 1, 1)), (2, (.invokevirtual 116, 3)), (5, (.astore 5, 2)), (7, (.aload 5, 2)), (9, (.ifnull 13, 3)), (12, (.iload 4, 2)), (14, (.iconst 0, 1)), (15, (.iconst 1, 1)), (16, (.invokestatic 74, 3)), (19, (.ifCond .ne 5, 3)), (22, (.iconst (-1), 1)), (23, (.ireturn, 1)), (24, (.aload 5, 2)), (26, (.iload_n 2, 1)), (27, (.iload_n 3, 1)), (28, (.invokevirtual 217, 3)), (31, (.ifCond .ne 6, 3)), (34, (.bipush (-2), 2)), (36, (.ireturn, 1)), (37, (.iload 4, 2)), (39, (.ifCond .ne 13, 3)), (42, (.aload 5, 2)), (44, (.iload_n 2, 1)), (45, (.iload_n 3, 1)), (46, (.invokevirtual 294, 3)), (49, (.goto 10, 3)), (52, (.aload 5, 2)), (54, (.iload_n 2, 1)), (55, (.iload_n 3, 1)), (56, (.invokevirtual 221, 3)), (59, (.ireturn, 1))]
def mX6_drawn : hM := (RX6, yX6_drawn, cX6_drawn, 6, (some .int), tX6_drawn)
theorem miX6_drawn : h_MI mX6_drawn 4 := ⟨List.mem_of_getElem? (i := 658) (by decide +kernel), by decide +kernel, rfl, ⟨by decide +kernel, by decide +kernel, by decide +kernel⟩, by decide +kernel⟩
def tX6_wish : List (Nat × (Instr × Nat)) := [(0, (.iload_n 1, 1)), (1, (.ifCond .ne 14, 3)), (4, (.iload_n 2, 1)), (5, (.invokestatic 243, 3)), (8, (.ifCond .eq 7, 3)), (11, (.iconst 1, 1)), (12, (.goto 4, 3)), (15, (.iconst 0, 1)), (16, (.istore 4, 2)), (18, (.iload_n 1, 1)), (19, (.iconst 1, 1)), (20, (.if_icmp .ne 14, 3)), (23, (.iload_n 2, 1)), (24, (.invokestatic 89, 3)), (27, (.ifCond .eq 7, 3)), (30, (.iconst 1, 1)), (31, (.goto 4, 3)), (34, (.iconst 0, 1)), (35, (.istore 5, 2)), (37, (.iload 4, 2)), (39, (.ifCond .ne 10, 3)), (42, (.iload 5, 2)), (44, (.ifCond .ne 5, 3)), (47, (.iconst (-1), 1)), (48, (.ireturn, 1)), (49, (.iload_n 3, 1)), (50, (.iconst 0, 1)), (51, (.sipush 1000, 3)), (54, (.invokestatic 74, 3)), (57, (.ifCond .ne 6, 3)), (60, (.bipush (-2), 2)), (62, (.ireturn, 1)), (63, (.iload 4, 2)), (65, (.ifCond .eq 10, 3)), (68, (.aload_n 0, 1)), (69, (.getfield 54, 3)), (72, (.goto 7, 3)), (75, (.aload_n 0, 1)), (76, (.getfield 57, 3)), (79, (.astore 6, 2)), (81, (.aload 6, 2)), (83, (.iload_n 2, 1)), (84, (.iaload, 1)), (85, (.istore 7, 2)), (87, (.aload 6, 2)), (89, (.iload_n 2, 1)), (90, (.iload_n 3, 1)), (91, (.iastore, 1)), (92, (.iload 7, 2)), (94, (.ireturn, 1))]
def mX6_wish : hM := (RX6, yX6_wish, cX6_wish, 8, (some .int), tX6_wish)
theorem miX6_wish : h_MI mX6_wish 3 := ⟨List.mem_of_getElem? (i := 666) (by decide +kernel), by decide +kernel, rfl, ⟨by decide +kernel, by decide +kernel, by decide +kernel⟩, by decide +kernel⟩
def tX6_flow : List (Nat × (Instr × Nat)) := [(0, (.aload_n 0, 1)), (1, (.getfield 63, 3)), (4, (.aload_n 0, 1)), (5, (.getfield 54, 3)), (8, (.aload_n 0, 1)), (9, (.getfield 57, 3)), (12, (.aload_n 0, 1)), (13, (.getfield 40, 3)), (16, (.invokevirtual 297, 3)), (19, (.ireturn, 1))]
def mX6_flow : hM := (RX6, yX6_flow, cX6_flow, 1, (some .int), tX6_flow)
theorem miX6_flow : h_MI mX6_flow 0 := ⟨List.mem_of_getElem? (i := 670) (by decide +kernel), by decide +kernel, rfl, ⟨by decide +kernel, by decide +kernel, by decide +kernel⟩, by decide +kernel⟩
def tX6_sent : List (Nat × (Instr × Nat)) := [(0, (.aload_n 0, 1)), (1, (.getfield 54, 3)), (4, (.invokestatic 301, 3)), (7, (.aload_n 0, 1)), (8, (.getfield 57, 3)), (11, (.invokestatic 301, 3)), (14, (.invokestatic 305, 3)), (17, (.ireturn, 1))]
def mX6_sent : hM := (RX6, yX6_sent, cX6_sent, 1, (some .int), tX6_sent)
theorem miX6_sent : h_MI mX6_sent 0 := ⟨List.mem_of_getElem? (i := 708) (by decide +kernel), by decide +kernel, rfl, ⟨by decide +kernel, by decide +kernel, by decide +kernel⟩, by decide +kernel⟩
def tX6_count : List (Nat × (Instr × Nat)) := [(0, (.iload_n 1, 1)), (1, (.tableswitch 90 0 7 #[47, 52, 57, 62, 67, 72, 77, 82], 47)), (48, (.aload_n 0, 1)), (49, (.getfield 78, 3)), (52, (.ireturn, 1)), (53, (.aload_n 0, 1)), (54, (.getfield 97, 3)), (57, (.ireturn, 1)), (58, (.aload_n 0, 1)), (59, (.getfield 186, 3)), (62, (.ireturn, 1)), (63, (.aload_n 0, 1)), (64, (.getfield 154, 3)), (67, (.ireturn, 1)), (68, (.aload_n 0, 1)), (69, (.invokevirtual 308, 3)), (72, (.ireturn, 1)), (73, (.aload_n 0, 1)), (74, (.invokevirtual 311, 3)), (77, (.ireturn, 1)), (78, (.aload_n 0, 1)), (79, (.invokevirtual 314, 3)), (82, (.ireturn, 1)), (83, (.aload_n 0, 1)), (84, (.getfield 30, 3)), (87, (.getfield 183, 3)), (90, (.ireturn, 1)), (91, (.iconst (-1), 1)), (92, (.ireturn, 1))]
def mX6_count : hM := (RX6, yX6_count, cX6_count, 2, (some .int), tX6_count)
theorem miX6_count : h_MI mX6_count 1 := ⟨List.mem_of_getElem? (i := 716) (by decide +kernel), by decide +kernel, rfl, ⟨by decide +kernel, by decide +kernel, by decide +kernel⟩, by decide +kernel⟩
def tX6_within : List (Nat × (Instr × Nat)) := [(0, (.iload_n 0, 1)), (1, (.iload_n 1, 1)), (2, (.if_icmp .lt 12, 3)), (5, (.iload_n 0, 1)), (6, (.iload_n 2, 1)), (7, (.if_icmp .gt 7, 3)), (10, (.iconst 1, 1)), (11, (.goto 4, 3)), (14, (.iconst 0, 1)), (15, (.ireturn, 1))]
def mX6_within : hM := (RX6, yX6_within, cX6_within, 3, (some .boolean), tX6_within)
theorem miX6_within : h_MI mX6_within 3 := ⟨List.mem_of_getElem? (i := 239) (by decide +kernel), by decide +kernel, rfl, ⟨by decide +kernel, by decide +kernel, by decide +kernel⟩, by decide +kernel⟩
def tX6_oneIf : List (Nat × (Instr × Nat)) := [(0, (.iload_n 0, 1)), (1, (.ifCond .eq 7, 3)), (4, (.iconst 1, 1)), (5, (.goto 4, 3)), (8, (.iconst 0, 1)), (9, (.ireturn, 1))]
def mX6_oneIf : hM := (RX6, yX6_oneIf, cX6_oneIf, 1, (some .int), tX6_oneIf)
theorem miX6_oneIf : h_MI mX6_oneIf 1 := ⟨List.mem_of_getElem? (i := 355) (by decide +kernel), by decide +kernel, rfl, ⟨by decide +kernel, by decide +kernel, by decide +kernel⟩, by decide +kernel⟩
def tX6_sumOf : List (Nat × (Instr × Nat)) := [(0, (.iconst 0, 1)), (1, (.istore_n 1, 1)), (2, (.aload_n 0, 1)), (3, (.astore_n 2, 1)), (4, (.aload_n 2, 1)), (5, (.arraylength, 1)), (6, (.istore_n 3, 1)), (7, (.iconst 0, 1)), (8, (.istore 4, 2)), (10, (.iload 4, 2)), (12, (.iload_n 3, 1)), (13, (.if_icmp .ge 20, 3)), (16, (.aload_n 2, 1)), (17, (.iload 4, 2)), (19, (.iaload, 1)), (20, (.istore 5, 2)), (22, (.iload_n 1, 1)), (23, (.iload 5, 2)), (25, (.iadd, 1)), (26, (.istore_n 1, 1)), (27, (.iinc 4 1, 3)), (30, (.goto (-20), 3)), (33, (.iload_n 1, 1)), (34, (.ireturn, 1))]
def mX6_sumOf : hM := (RX6, yX6_sumOf, cX6_sumOf, 6, (some .int), tX6_sumOf)
theorem miX6_sumOf : h_MI mX6_sumOf 1 := ⟨List.mem_of_getElem? (i := 711) (by decide +kernel), by decide +kernel, rfl, ⟨by decide +kernel, by decide +kernel, by decide +kernel⟩, by decide +kernel⟩
def tX6_isTown : List (Nat × (Instr × Nat)) := [(0, (.iload_n 0, 1)), (1, (.iconst 0, 1)), (2, (.iconst 5, 1)), (3, (.invokestatic 74, 3)), (6, (.ireturn, 1))]
def mX6_isTown : hM := (RX6, yX6_isTown, cX6_isTown, 1, (some .boolean), tX6_isTown)
theorem miX6_isTown : h_MI mX6_isTown 1 := ⟨List.mem_of_getElem? (i := 273) (by decide +kernel), by decide +kernel, rfl, ⟨by decide +kernel, by decide +kernel, by decide +kernel⟩, by decide +kernel⟩
def tX6_isMint : List (Nat × (Instr × Nat)) := [(0, (.iload_n 0, 1)), (1, (.iconst 0, 1)), (2, (.iconst 2, 1)), (3, (.invokestatic 74, 3)), (6, (.ireturn, 1))]
def mX6_isMint : hM := (RX6, yX6_isMint, cX6_isMint, 1, (some .boolean), tX6_isMint)
theorem miX6_isMint : h_MI mX6_isMint 1 := ⟨List.mem_of_getElem? (i := 588) (by decide +kernel), by decide +kernel, rfl, ⟨by decide +kernel, by decide +kernel, by decide +kernel⟩, by decide +kernel⟩
def tX6_sortAt : List (Nat × (Instr × Nat)) := [(0, (.iload_n 1, 1)), (1, (.iconst 0, 1)), (2, (.aload_n 0, 1)), (3, (.getfield 78, 3)), (6, (.iconst 1, 1)), (7, (.isub, 1)), (8, (.invokestatic 74, 3)), (11, (.ifCond .eq 12, 3)), (14, (.aload_n 0, 1)), (15, (.getfield 11, 3)), (18, (.iload_n 1, 1)), (19, (.aaload, 1)), (20, (.goto 4, 3)), (23, (.aconst_null, 1)), (24, (.areturn, 1))]
def mX6_sortAt : hM := (RX6, yX6_sortAt, cX6_sortAt, 2, (some (.object "NewSilver$Sort")), tX6_sortAt)
theorem miX6_sortAt : h_MI mX6_sortAt 1 := ⟨List.mem_of_getElem? (i := 270) (by decide +kernel), by decide +kernel, rfl, ⟨by decide +kernel, by decide +kernel, by decide +kernel⟩, by decide +kernel⟩
def tX6_lotAt : List (Nat × (Instr × Nat)) := [(0, (.iload_n 1, 1)), (1, (.iconst 0, 1)), (2, (.aload_n 0, 1)), (3, (.getfield 97, 3)), (6, (.iconst 1, 1)), (7, (.isub, 1)), (8, (.invokestatic 74, 3)), (11, (.ifCond .eq 12, 3)), (14, (.aload_n 0, 1)), (15, (.getfield 17, 3)), (18, (.iload_n 1, 1)), (19, (.aaload, 1)), (20, (.goto 4, 3)), (23, (.aconst_null, 1)), (24, (.areturn, 1))]
def mX6_lotAt : hM := (RX6, yX6_lotAt, cX6_lotAt, 2, (some (.object "NewSilver$Lot")), tX6_lotAt)
theorem miX6_lotAt : h_MI mX6_lotAt 1 := ⟨List.mem_of_getElem? (i := 348) (by decide +kernel), by decide +kernel, rfl, ⟨by decide +kernel, by decide +kernel, by decide +kernel⟩, by decide +kernel⟩
def tX6_orderAt : List (Nat × (Instr × Nat)) := [(0, (.iload_n 1, 1)), (1, (.iconst 0, 1)), (2, (.aload_n 0, 1)), (3, (.getfield 186, 3)), (6, (.iconst 1, 1)), (7, (.isub, 1)), (8, (.invokestatic 74, 3)), (11, (.ifCond .eq 12, 3)), (14, (.aload_n 0, 1)), (15, (.getfield 23, 3)), (18, (.iload_n 1, 1)), (19, (.aaload, 1)), (20, (.goto 4, 3)), (23, (.aconst_null, 1)), (24, (.areturn, 1))]
def mX6_orderAt : hM := (RX6, yX6_orderAt, cX6_orderAt, 2, (some (.object "NewSilver$Order")), tX6_orderAt)
theorem miX6_orderAt : h_MI mX6_orderAt 1 := ⟨List.mem_of_getElem? (i := 517) (by decide +kernel), by decide +kernel, rfl, ⟨by decide +kernel, by decide +kernel, by decide +kernel⟩, by decide +kernel⟩
def tX6_potAt : List (Nat × (Instr × Nat)) := [(0, (.iload_n 1, 1)), (1, (.invokestatic 243, 3)), (4, (.ifCond .eq 12, 3)), (7, (.aload_n 0, 1)), (8, (.getfield 36, 3)), (11, (.iload_n 1, 1)), (12, (.aaload, 1)), (13, (.goto 4, 3)), (16, (.aconst_null, 1)), (17, (.areturn, 1))]
def mX6_potAt : hM := (RX6, yX6_potAt, cX6_potAt, 2, (some (.object "NewSilver$Pot")), tX6_potAt)
theorem miX6_potAt : h_MI mX6_potAt 1 := ⟨List.mem_of_getElem? (i := 604) (by decide +kernel), by decide +kernel, rfl, ⟨by decide +kernel, by decide +kernel, by decide +kernel⟩, by decide +kernel⟩
def tX6_hasOwnFine : List (Nat × (Instr × Nat)) := [(0, (.iload_n 0, 1)), (1, (.iconst 3, 1)), (2, (.if_icmp .eq 8, 3)), (5, (.iload_n 0, 1)), (6, (.iconst 5, 1)), (7, (.if_icmp .ne 7, 3)), (10, (.iconst 1, 1)), (11, (.goto 4, 3)), (14, (.iconst 0, 1)), (15, (.ireturn, 1))]
def mX6_hasOwnFine : hM := (RX6, yX6_hasOwnFine, cX6_hasOwnFine, 1, (some .boolean), tX6_hasOwnFine)
theorem miX6_hasOwnFine : h_MI mX6_hasOwnFine 1 := ⟨List.mem_of_getElem? (i := 279) (by decide +kernel), by decide +kernel, rfl, ⟨by decide +kernel, by decide +kernel, by decide +kernel⟩, by decide +kernel⟩
def tX6_isLotAsTold : List (Nat × (Instr × Nat)) := [(0, (.iload_n 0, 1)), (1, (.iconst 0, 1)), (2, (.iconst 5, 1)), (3, (.invokestatic 74, 3)), (6, (.ifCond .eq 26, 3)), (9, (.iload 4, 2)), (11, (.iconst 0, 1)), (12, (.iload_n 0, 1)), (13, (.invokestatic 100, 3)), (16, (.ifCond .eq 9, 3)), (19, (.sipush 1000, 3)), (22, (.goto 4, 3)), (25, (.iconst 0, 1)), (26, (.invokestatic 74, 3)), (29, (.ifCond .ne 5, 3)), (32, (.iconst 0, 1)), (33, (.ireturn, 1)), (34, (.iload_n 0, 1)), (35, (.iconst 3, 1)), (36, (.if_icmp .ne 23, 3)), (39, (.iload_n 2, 1)), (40, (.ifCond .ne 17, 3)), (43, (.iload_n 3, 1)), (44, (.iconst 1, 1)), (45, (.ldc 236, 2)), (47, (.invokestatic 74, 3)), (50, (.ifCond .eq 7, 3)), (53, (.iconst 1, 1)), (54, (.goto 4, 3)), (57, (.iconst 0, 1)), (58, (.ireturn, 1)), (59, (.iload_n 0, 1)), (60, (.iconst 4, 1)), (61, (.if_icmp .ne 10, 3)), (64, (.aload_n 1, 1)), (65, (.getfield 127, 3)), (68, (.goto 8, 3)), (71, (.aload_n 1, 1)), (72, (.iload_n 0, 1)), (73, (.invokevirtual 317, 3)), (76, (.istore 5, 2)), (78, (.iload_n 2, 1)), (79, (.iconst 1, 1)), (80, (.sipush 1000, 3)), (83, (.invokestatic 74, 3)), (86, (.ifCond .eq 24, 3)), (89, (.iload_n 3, 1)), (90, (.iload_n 2, 1)), (91, (.iload 5, 2)), (93, (.imul, 1)), (94, (.iload_n 2, 1)), (95, (.aload_n 1, 1)), (96, (.getfield 127, 3)), (99, (.imul, 1)), (100, (.invokestatic 74, 3)), (103, (.ifCond .eq 7, 3)), (106, (.iconst 1, 1)), (107, (.goto 4, 3)), (110, (.iconst 0, 1)), (111, (.ireturn, 1))]
def mX6_isLotAsTold : hM := (RX6, yX6_isLotAsTold, cX6_isLotAsTold, 6, (some .boolean), tX6_isLotAsTold)
theorem miX6_isLotAsTold : h_MI mX6_isLotAsTold 5 := ⟨List.mem_of_getElem? (i := 276) (by decide +kernel), by decide +kernel, rfl, ⟨by decide +kernel, by decide +kernel, by decide +kernel⟩, by decide +kernel⟩
def tX6_keepLot : List (Nat × (Instr × Nat)) := [(0, (.aload_n 0, 1)), (1, (.getfield 17, 3)), (4, (.aload_n 0, 1)), (5, (.getfield 97, 3)), (8, (.aload_n 1, 1)), (9, (.aastore, 1)), (10, (.aload_n 0, 1)), (11, (.dup, 1)), (12, (.getfield 97, 3)), (15, (.dup_x1, 1)), (16, (.iconst 1, 1)), (17, (.iadd, 1)), (18, (.putfield 97, 3)), (21, (.ireturn, 1))]
def mX6_keepLot : hM := (RX6, yX6_keepLot, cX6_keepLot, 2, (some .int), tX6_keepLot)
theorem miX6_keepLot : h_MI mX6_keepLot 1 := ⟨List.mem_of_getElem? (i := 340) (by decide +kernel), by decide +kernel, rfl, ⟨by decide +kernel, by decide +kernel, by decide +kernel⟩, by decide +kernel⟩
def tX6_orderInForce : List (Nat × (Instr × Nat)) := [(0, (.iconst (-1), 1)), (1, (.istore_n 3, 1)), (2, (.iconst 0, 1)), (3, (.istore 4, 2)), (5, (.iconst 0, 1)), (6, (.istore 5, 2)), (8, (.iload 5, 2)), (10, (.aload_n 0, 1)), (11, (.getfield 186, 3)), (14, (.if_icmp .ge 61, 3)), (17, (.aload_n 0, 1)), (18, (.iload 5, 2)), (20, (.invokevirtual 202, 3)), (23, (.astore 6, 2)), (25, (.aload 6, 2)), (27, (.ifnonnull 7, 3)), (30, (.iconst (-1), 1)), (31, (.goto 10, 3)), (34, (.aload 6, 2)), (36, (.getfield 206, 3)), (39, (.iload_n 1, 1)), (40, (.iaload, 1)), (41, (.istore 7, 2)), (43, (.iload 7, 2)), (45, (.iconst (-1), 1)), (46, (.if_icmp .eq 23, 3)), (49, (.iload 7, 2)), (51, (.iload_n 2, 1)), (52, (.if_icmp .gt 17, 3)), (55, (.iload 7, 2)), (57, (.iload 4, 2)), (59, (.if_icmp .lt 10, 3)), (62, (.iload 5, 2)), (64, (.istore_n 3, 1)), (65, (.iload 7, 2)), (67, (.istore 4, 2)), (69, (.iinc 5 1, 3)), (72, (.goto (-64), 3)), (75, (.iload_n 3, 1)), (76, (.ireturn, 1))]
def mX6_orderInForce : hM := (RX6, yX6_orderInForce, cX6_orderInForce, 8, (some .int), tX6_orderInForce)
theorem miX6_orderInForce : h_MI mX6_orderInForce 2 := ⟨List.mem_of_getElem? (i := 525) (by decide +kernel), by decide +kernel, rfl, ⟨by decide +kernel, by decide +kernel, by decide +kernel⟩, by decide +kernel⟩
def tX6_worthOf : List (Nat × (Instr × Nat)) := [(0, (.aload_n 0, 1)), (1, (.getfield 167, 3)), (4, (.ifCond .eq 15, 3)), (7, (.aload_n 0, 1)), (8, (.getfield 109, 3)), (11, (.iload_n 1, 1)), (12, (.if_icmp .ne 7, 3)), (15, (.iconst 1, 1)), (16, (.goto 4, 3)), (19, (.iconst 0, 1)), (20, (.istore_n 3, 1)), (21, (.aload_n 0, 1)), (22, (.getfield 137, 3)), (25, (.iconst 3, 1)), (26, (.if_icmp .eq 14, 3)), (29, (.aload_n 0, 1)), (30, (.getfield 170, 3)), (33, (.ifCond .ne 7, 3)), (36, (.iload_n 3, 1)), (37, (.ifCond .eq 5, 3)), (40, (.iconst 0, 1)), (41, (.ireturn, 1)), (42, (.aload_n 2, 1)), (43, (.ifnull 16, 3)), (46, (.aload_n 2, 1)), (47, (.getfield 320, 3)), (50, (.aload_n 0, 1)), (51, (.getfield 147, 3)), (54, (.iaload, 1)), (55, (.iconst (-1), 1)), (56, (.if_icmp .ne 16, 3)), (59, (.aload_n 0, 1)), (60, (.getfield 120, 3)), (63, (.aload_n 0, 1)), (64, (.getfield 123, 3)), (67, (.getfield 321, 3)), (70, (.imul, 1)), (71, (.ireturn, 1)), (72, (.aload_n 2, 1)), (73, (.getfield 224, 3)), (76, (.aload_n 0, 1)), (77, (.getfield 147, 3)), (80, (.iaload, 1)), (81, (.istore 4, 2)), (83, (.iload 4, 2)), (85, (.ifCond .le 21, 3)), (88, (.aload_n 2, 1)), (89, (.getfield 320, 3)), (92, (.aload_n 0, 1)), (93, (.getfield 147, 3)), (96, (.iaload, 1)), (97, (.aload_n 0, 1)), (98, (.getfield 140, 3)), (101, (.imul, 1)), (102, (.iload 4, 2)), (104, (.idiv, 1)), (105, (.ireturn, 1)), (106, (.aload_n 2, 1)), (107, (.getfield 320, 3)), (110, (.aload_n 0, 1)), (111, (.getfield 147, 3)), (114, (.iaload, 1)), (115, (.aload_n 0, 1)), (116, (.getfield 120, 3)), (119, (.imul, 1)), (120, (.ireturn, 1))]
def mX6_worthOf : hM := (RX6, yX6_worthOf, cX6_worthOf, 5, (some .int), tX6_worthOf)
theorem miX6_worthOf : h_MI mX6_worthOf 3 := ⟨List.mem_of_getElem? (i := 532) (by decide +kernel), by decide +kernel, rfl, ⟨by decide +kernel, by decide +kernel, by decide +kernel⟩, by decide +kernel⟩
def tX6_reckonWorth : List (Nat × (Instr × Nat)) := [(0, (.aload_n 0, 1)), (1, (.aload_n 0, 1)), (2, (.iload_n 1, 1)), (3, (.aload_n 0, 1)), (4, (.getfield 154, 3)), (7, (.invokevirtual 209, 3)), (10, (.invokevirtual 202, 3)), (13, (.astore_n 2, 1)), (14, (.lconst 0, 1)), (15, (.lstore_n 3, 1)), (16, (.iconst 0, 1)), (17, (.istore 5, 2)), (19, (.iload 5, 2)), (21, (.aload_n 0, 1)), (22, (.getfield 97, 3)), (25, (.if_icmp .ge 84, 3)), (28, (.aload_n 0, 1)), (29, (.iload 5, 2)), (31, (.invokevirtual 116, 3)), (34, (.astore 6, 2)), (36, (.aload 6, 2)), (38, (.ifnull 28, 3)), (41, (.aload 6, 2)), (43, (.getfield 109, 3)), (46, (.iload_n 1, 1)), (47, (.if_icmp .ne 19, 3)), (50, (.aload 6, 2)), (52, (.aload_n 0, 1)), (53, (.getfield 154, 3)), (56, (.invokevirtual 157, 3)), (59, (.ifCond .ne 7, 3)), (62, (.iconst 1, 1)), (63, (.goto 4, 3)), (66, (.iconst 0, 1)), (67, (.istore 7, 2)), (69, (.aload_n 0, 1)), (70, (.getfield 51, 3)), (73, (.iload 5, 2)), (75, (.iload 7, 2)), (77, (.ifCond .eq 13, 3)), (80, (.aload 6, 2)), (82, (.iload_n 1, 1)), (83, (.aload_n 2, 1)), (84, (.invokestatic 213, 3)), (87, (.goto 4, 3)), (90, (.iconst 0, 1)), (91, (.iastore, 1)), (92, (.lload_n 3, 1)), (93, (.aload_n 0, 1)), (94, (.getfield 51, 3)), (97, (.iload 5, 2)), (99, (.iaload, 1)), (100, (.i2l, 1)), (101, (.ladd, 1)), (102, (.lstore_n 3, 1)), (103, (.iinc 5 1, 3)), (106, (.goto (-87), 3)), (109, (.lload_n 3, 1)), (110, (.lreturn, 1))]
def mX6_reckonWorth : hM := (RX6, yX6_reckonWorth, cX6_reckonWorth, 8, (some .long), tX6_reckonWorth)
theorem miX6_reckonWorth : h_MI mX6_reckonWorth 1 := ⟨List.mem_of_getElem? (i := 555) (by decide +kernel), by decide +kernel, rfl, ⟨by decide +kernel, by decide +kernel, by decide +kernel⟩, by decide +kernel⟩
def tX6_payWorst : List (Nat × (Instr × Nat)) := [(0, (.aconst_null, 1)), (1, (.astore_n 1, 1)), (2, (.iconst 0, 1)), (3, (.istore_n 2, 1)), (4, (.iconst 0, 1)), (5, (.istore_n 3, 1)), (6, (.iload_n 3, 1)), (7, (.aload_n 0, 1)), (8, (.getfield 97, 3)), (11, (.if_icmp .ge 60, 3)), (14, (.aload_n 0, 1)), (15, (.iload_n 3, 1)), (16, (.invokevirtual 116, 3)), (19, (.astore 4, 2)), (21, (.aload 4, 2)), (23, (.ifnull 42, 3)), (26, (.aload_n 0, 1)), (27, (.getfield 51, 3)), (30, (.iload_n 3, 1)), (31, (.iaload, 1)), (32, (.ifCond .le 33, 3)), (35, (.aload_n 1, 1)), (36, (.ifnull 24, 3)), (39, (.aload 4, 2)), (41, (.aload_n 0, 1)), (42, (.getfield 51, 3)), (45, (.iload_n 3, 1)), (46, (.iaload, 1)), (47, (.aload_n 1, 1)), (48, (.aload_n 0, 1)), (49, (.getfield 51, 3)), (52, (.iload_n 2, 1)), (53, (.iaload, 1)), (54, (.invokestatic 324, 3)), (57, (.ifCond .eq 8, 3)), (60, (.aload 4, 2)), (62, (.astore_n 1, 1)), (63, (.iload_n 3, 1)), (64, (.istore_n 2, 1)), (65, (.iinc 3 1, 3)), (68, (.goto (-62), 3)), (71, (.aload_n 1, 1)), (72, (.ifnull 12, 3)), (75, (.aload_n 0, 1)), (76, (.getfield 230, 3)), (79, (.bipush 30, 2)), (81, (.if_icmp .lt 5, 3)), (84, (.iconst 0, 1)), (85, (.ireturn, 1)), (86, (.aload_n 0, 1)), (87, (.getfield 51, 3)), (90, (.iload_n 2, 1)), (91, (.iaload, 1)), (92, (.istore_n 3, 1)), (93, (.aload_n 0, 1)), (94, (.getfield 51, 3)), (97, (.iload_n 2, 1)), (98, (.iconst 0, 1)), (99, (.iastore, 1)), (100, (.aload_n 1, 1)), (101, (.iconst 1, 1)), (102, (.putfield 167, 3)), (105, (.aload_n 0, 1)), (106, (.getfield 48, 3)), (109, (.aload_n 0, 1)), (110, (.dup, 1)), (111, (.getfield 230, 3)), (114, (.dup_x1, 1)), (115, (.iconst 1, 1)), (116, (.iadd, 1)), (117, (.putfield 230, 3)), (120, (.iload_n 2, 1)), (121, (.iastore, 1)), (122, (.iload_n 3, 1)), (123, (.ireturn, 1))]
def mX6_payWorst : hM := (RX6, yX6_payWorst, cX6_payWorst, 5, (some .int), tX6_payWorst)
theorem miX6_payWorst : h_MI mX6_payWorst 0 := ⟨List.mem_of_getElem? (i := 559) (by decide +kernel), by decide +kernel, rfl, ⟨by decide +kernel, by decide +kernel, by decide +kernel⟩, by decide +kernel⟩
def tX6_isWorse : List (Nat × (Instr × Nat)) := [(0, (.aload_n 0, 1)), (1, (.invokevirtual 175, 3)), (4, (.iload_n 3, 1)), (5, (.i2l, 1)), (6, (.lmul, 1)), (7, (.aload_n 2, 1)), (8, (.invokevirtual 175, 3)), (11, (.iload_n 1, 1)), (12, (.i2l, 1)), (13, (.lmul, 1)), (14, (.lcmp, 1)), (15, (.ifCond .ge 7, 3)), (18, (.iconst 1, 1)), (19, (.goto 4, 3)), (22, (.iconst 0, 1)), (23, (.ireturn, 1))]
def mX6_isWorse : hM := (RX6, yX6_isWorse, cX6_isWorse, 4, (some .boolean), tX6_isWorse)
theorem miX6_isWorse : h_MI mX6_isWorse 4 := ⟨List.mem_of_getElem? (i := 562) (by decide +kernel), by decide +kernel, rfl, ⟨by decide +kernel, by decide +kernel, by decide +kernel⟩, by decide +kernel⟩
def tX6_findFalse : List (Nat × (Instr × Nat)) := [(0, (.iconst 0, 1)), (1, (.istore_n 2, 1)), (2, (.iload_n 2, 1)), (3, (.aload_n 0, 1)), (4, (.getfield 97, 3)), (7, (.if_icmp .ge 40, 3)), (10, (.aload_n 0, 1)), (11, (.iload_n 2, 1)), (12, (.invokevirtual 116, 3)), (15, (.astore_n 3, 1)), (16, (.aload_n 3, 1)), (17, (.ifnull 24, 3)), (20, (.aload_n 3, 1)), (21, (.getfield 137, 3)), (24, (.iconst 5, 1)), (25, (.if_icmp .ne 16, 3)), (28, (.aload_n 3, 1)), (29, (.getfield 147, 3)), (32, (.iload_n 1, 1)), (33, (.if_icmp .ne 8, 3)), (36, (.aload_n 3, 1)), (37, (.iconst 1, 1)), (38, (.putfield 170, 3)), (41, (.iinc 2 1, 3)), (44, (.goto (-42), 3)), (47, (.return_, 1))]
def mX6_findFalse : hM := (RX6, yX6_findFalse, cX6_findFalse, 4, (none : Option Jvm.ClassFile.FieldType), tX6_findFalse)
theorem miX6_findFalse : h_MI mX6_findFalse 1 := ⟨List.mem_of_getElem? (i := 608) (by decide +kernel), by decide +kernel, rfl, ⟨by decide +kernel, by decide +kernel, by decide +kernel⟩, by decide +kernel⟩
def tX6_countMelted : List (Nat × (Instr × Nat)) := [(0, (.iconst 0, 1)), (1, (.istore_n 1, 1)), (2, (.iconst 0, 1)), (3, (.istore_n 2, 1)), (4, (.iload_n 2, 1)), (5, (.aload_n 0, 1)), (6, (.getfield 97, 3)), (9, (.if_icmp .ge 37, 3)), (12, (.aload_n 0, 1)), (13, (.iload_n 2, 1)), (14, (.invokevirtual 116, 3)), (17, (.astore_n 3, 1)), (18, (.iload_n 1, 1)), (19, (.aload_n 3, 1)), (20, (.ifnull 14, 3)), (23, (.aload_n 3, 1)), (24, (.getfield 163, 3)), (27, (.ifCond .eq 7, 3)), (30, (.iconst 1, 1)), (31, (.goto 4, 3)), (34, (.iconst 0, 1)), (35, (.invokestatic 143, 3)), (38, (.iadd, 1)), (39, (.istore_n 1, 1)), (40, (.iinc 2 1, 3)), (43, (.goto (-39), 3)), (46, (.iload_n 1, 1)), (47, (.ireturn, 1))]
def mX6_countMelted : hM := (RX6, yX6_countMelted, cX6_countMelted, 4, (some .int), tX6_countMelted)
theorem miX6_countMelted : h_MI mX6_countMelted 0 := ⟨List.mem_of_getElem? (i := 720) (by decide +kernel), by decide +kernel, rfl, ⟨by decide +kernel, by decide +kernel, by decide +kernel⟩, by decide +kernel⟩
def tX6_countOnRoads : List (Nat × (Instr × Nat)) := [(0, (.iconst 0, 1)), (1, (.istore_n 1, 1)), (2, (.iconst 0, 1)), (3, (.istore_n 2, 1)), (4, (.iload_n 2, 1)), (5, (.aload_n 0, 1)), (6, (.getfield 97, 3)), (9, (.if_icmp .ge 41, 3)), (12, (.aload_n 0, 1)), (13, (.iload_n 2, 1)), (14, (.invokevirtual 116, 3)), (17, (.astore_n 3, 1)), (18, (.iload_n 1, 1)), (19, (.aload_n 3, 1)), (20, (.ifnull 18, 3)), (23, (.aload_n 3, 1)), (24, (.aload_n 0, 1)), (25, (.getfield 154, 3)), (28, (.invokevirtual 157, 3)), (31, (.ifCond .eq 7, 3)), (34, (.iconst 1, 1)), (35, (.goto 4, 3)), (38, (.iconst 0, 1)), (39, (.invokestatic 143, 3)), (42, (.iadd, 1)), (43, (.istore_n 1, 1)), (44, (.iinc 2 1, 3)), (47, (.goto (-43), 3)), (50, (.iload_n 1, 1)), (51, (.ireturn, 1))]
def mX6_countOnRoads : hM := (RX6, yX6_countOnRoads, cX6_countOnRoads, 4, (some .int), tX6_countOnRoads)
theorem miX6_countOnRoads : h_MI mX6_countOnRoads 0 := ⟨List.mem_of_getElem? (i := 724) (by decide +kernel), by decide +kernel, rfl, ⟨by decide +kernel, by decide +kernel, by decide +kernel⟩, by decide +kernel⟩
def tX6_countInChests : List (Nat × (Instr × Nat)) := [(0, (.iconst 0, 1)), (1, (.istore_n 1, 1)), (2, (.iconst 0, 1)), (3, (.istore_n 2, 1)), (4, (.iload_n 2, 1)), (5, (.aload_n 0, 1)), (6, (.getfield 97, 3)), (9, (.if_icmp .ge 37, 3)), (12, (.aload_n 0, 1)), (13, (.iload_n 2, 1)), (14, (.invokevirtual 116, 3)), (17, (.astore_n 3, 1)), (18, (.iload_n 1, 1)), (19, (.aload_n 3, 1)), (20, (.ifnull 14, 3)), (23, (.aload_n 3, 1)), (24, (.getfield 167, 3)), (27, (.ifCond .eq 7, 3)), (30, (.iconst 1, 1)), (31, (.goto 4, 3)), (34, (.iconst 0, 1)), (35, (.invokestatic 143, 3)), (38, (.iadd, 1)), (39, (.istore_n 1, 1)), (40, (.iinc 2 1, 3)), (43, (.goto (-39), 3)), (46, (.iload_n 1, 1)), (47, (.ireturn, 1))]
def mX6_countInChests : hM := (RX6, yX6_countInChests, cX6_countInChests, 4, (some .int), tX6_countInChests)
theorem miX6_countInChests : h_MI mX6_countInChests 0 := ⟨List.mem_of_getElem? (i := 728) (by decide +kernel), by decide +kernel, rfl, ⟨by decide +kernel, by decide +kernel, by decide +kernel⟩, by decide +kernel⟩
def tX7_init : List (Nat × (Instr × Nat)) := [(0, (.aload_n 0, 1)), (1, (.invokespecial 1, 3)), (4, (.aload_n 0, 1)), (5, (.bipush 8, 2)), (7, (.newarray .int, 2)), (9, (.putfield 7, 3)), (12, (.aload_n 0, 1)), (13, (.bipush 8, 2)), (15, (.newarray .int, 2)), (17, (.putfield 13, 3)), (20, (.aload_n 0, 1)), (21, (.bipush 8, 2)), (23, (.newarray .int, 2)), (25, (.putfield 16, 3)), (28, (.aload_n 0, 1)), (29, (.bipush 8, 2)), (31, (.newarray .int, 2)), (33, (.putfield 19, 3)), (36, (.aload_n 0, 1)), (37, (.bipush 30, 2)), (39, (.newarray .int, 2)), (41, (.putfield 22, 3)), (44, (.aload_n 0, 1)), (45, (.bipush 30, 2)), (47, (.newarray .int, 2)), (49, (.putfield 25, 3)), (52, (.aload_n 0, 1)), (53, (.bipush 30, 2)), (55, (.newarray .int, 2)), (57, (.putfield 28, 3)), (60, (.aload_n 0, 1)), (61, (.bipush 30, 2)), (63, (.newarray .int, 2)), (65, (.putfield 31, 3)), (68, (.aload_n 0, 1)), (69, (.bipush 30, 2)), (71, (.newarray .int, 2)), (73, (.putfield 34, 3)), (76, (.aload_n 0, 1)), (77, (.bipush 30, 2)), (79, (.newarray .int, 2)), (81, (.putfield 37, 3)), (84, (.aload_n 0, 1)), (85, (.bipush 30, 2)), (87, (.newarray .int, 2)), (89, (.putfield 40, 3)), (92, (.aload_n 0, 1)), (93, (.bipush 30, 2)), (95, (.newarray .int, 2)), (97, (.putfield 43, 3)), (100, (.aload_n 0, 1)), (101, (.bipush 30, 2)), (103, (.newarray .boolean, 2)), (105, (.putfield 46, 3)), (108, (.aload_n 0, 1)), (109, (.bipush 30, 2)), (111, (.newarray .boolean, 2)), (113, (.putfield 50, 3)), (116, (.aload_n 0, 1)), (117, (.bipush 30, 2)), (119, (.newarray .boolean, 2)), (121, (.putfield 53, 3)), (124, (.aload_n 0, 1)), (125, (.sipush 160, 3)), (128, (.newarray .byte, 2)), (130, (.putfield 56, 3)), (133, (.aload_n 0, 1)), (134, (.bipush 80, 2)), (136, (.newarray .int, 2)), (138, (.putfield 60, 3)), (141, (.aload_n 0, 1)), (142, (.bipush 80, 2)), (144, (.newarray .int, 2)), (146, (.putfield 63, 3)), (149, (.aload_n 0, 1)), (150, (.bipush 80, 2)), (152, (.newarray .int, 2)), (154, (.putfield 66, 3)), (157, (.aload_n 0, 1)), (158, (.bipush 60, 2)), (160, (.newarray .int, 2)), (162, (.putfield 69, 3)), (165, (.aload_n 0, 1)), (166, (.bipush 6, 2)), (168, (.newarray .long, 2)), (170, (.putfield 72, 3)), (173, (.aload_n 0, 1)), (174, (.bipush 30, 2)), (176, (.newarray .int, 2)), (178, (.putfield 76, 3)), (181, (.aload_n 0, 1)), (182, (.bipush 30, 2)), (184, (.newarray .int, 2)), (186, (.putfield 79, 3)), (189, (.aload_n 0, 1)), (190, (.bipush 18, 2)), (192, (.newarray .int, 2)), (194, (.dup, 1)), (195, (.iconst 0, 1)), (196, (.iconst 5, 1)), (197, (.iastore, 1)), (198, (.dup, 1)), (199, (.iconst 1, 1)), (200, (.iconst 5, 1)), (201, (.iastore, 1)), (202, (.dup, 1)), (203, (.iconst 2, 1)), (204, (.iconst 5, 1)), (205, (.iastore, 1)), (206, (.dup, 1)), (207, (.iconst 3, 1)), (208, (.iconst 5, 1)), (209, (.iastore, 1)), (210, (.dup, 1)), (211, (.iconst 4, 1)), (212, (.iconst 5, 1)), (213, (.iastore, 1)), (214, (.dup, 1)), (215, (.iconst 5, 1)), (216, (.iconst 5, 1)), (217, (.iastore, 1)), (218, (.dup, 1)), (219, (.bipush 6, 2)), (221, (.iconst 5, 1)), (222, (.iastore, 1)), (223, (.dup, 1)), (224, (.bipush 7, 2)), (226, (.iconst 5, 1)), (227, (.iastore, 1)), (228, (.dup, 1)), (229, (.bipush 8, 2)), (231, (.iconst 5, 1)), (232, (.iastore, 1)), (233, (.dup, 1)), (234, (.bipush 9, 2)), (236, (.iconst 5, 1)), (237, (.iastore, 1)), (238, (.dup, 1)), (239, (.bipush 10, 2)), (241, (.iconst 5, 1)), (242, (.iastore, 1)), (243, (.dup, 1)), (244, (.bipush 11, 2)), (246, (.iconst 5, 1)), (247, (.iastore, 1)), (248, (.dup, 1)), (249, (.bipush 12, 2)), (251, (.iconst 5, 1)), (252, (.iastore, 1)), (253, (.dup, 1)), (254, (.bipush 13, 2)), (256, (.iconst 5, 1)), (257, (.iastore, 1)), (258, (.dup, 1)), (259, (.bipush 14, 2)), (261, (.iconst 5, 1)), (262, (.iastore, 1)), (263, (.dup, 1)), (264, (.bipush 15, 2)), (266, (.iconst 5, 1)), (267, (.iastore, 1)), (268, (.dup, 1)), (269, (.bipush 16, 2)), (271, (.iconst 5, 1)), (272, (.iastore, 1)), (273, (.dup, 1)), (274, (.bipush 17, 2)), (276, (.iconst 5, 1)), (277, (.iastore, 1)), (278, (.putfield 82, 3)), (281, (.aload_n 0, 1)), (282, (.iconst 3, 1)), (283, (.newarray .long, 2)), (285, (.putfield 85, 3)), (288, (.aload_n 0, 1)), (289, (.iconst 3, 1)), (290, (.newarray .long, 2)), (292, (.putfield 88, 3)), (295, (.aload_n 0, 1)), (296, (.iconst 3, 1)), (297, (.newarray .boolean, 2)), (299, (.putfield 91, 3)), (302, (.aload_n 0, 1)), (303, (.iconst 3, 1)), (304, (.newarray .long, 2)), (306, (.putfield 94, 3)), (309, (.aload_n 0, 1)), (310, (.iconst 3, 1)), (311, (.newarray .long, 2)), (313, (.putfield 97, 3)), (316, (.aload_n 0, 1)), (317, (.iconst 3, 1)), (318, (.newarray .int, 2)), (320, (.dup, 1)), (321, (.iconst 0, 1)), (322, (.ldc 100, 2)), (324, (.iastore, 1)), (325, (.dup, 1)), (326, (.iconst 1, 1)), (327, (.ldc 100, 2)), (329, (.iastore, 1)), (330, (.dup, 1)), (331, (.iconst 2, 1)), (332, (.ldc 100, 2)), (334, (.iastore, 1)), (335, (.putfield 101, 3)), (338, (.aload_n 0, 1)), (339, (.iconst 3, 1)), (340, (.newarray .int, 2)), (342, (.putfield 104, 3)), (345, (.aload_n 0, 1)), (346, (.iconst 3, 1)), (347, (.newarray .int, 2)), (349, (.dup, 1)), (350, (.iconst 0, 1)), (351, (.iconst (-1), 1)), (352, (.iastore, 1)), (353, (.dup, 1)), (354, (.iconst 1, 1)), (355, (.iconst (-1), 1)), (356, (.iastore, 1)), (357, (.dup, 1)), (358, (.iconst 2, 1)), (359, (.iconst (-1), 1)), (360, (.iastore, 1)), (361, (.putfield 107, 3)), (364, (.aload_n 0, 1)), (365, (.iconst 3, 1)), (366, (.newarray .int, 2)), (368, (.putfield 110, 3)), (371, (.aload_n 0, 1)), (372, (.bipush 6, 2)), (374, (.newarray .int, 2)), (376, (.putfield 113, 3)), (379, (.aload_n 0, 1)), (380, (.bipush 18, 2)), (382, (.newarray .int, 2)), (384, (.putfield 116, 3)), (387, (.aload_n 0, 1)), (388, (.iconst 3, 1)), (389, (.newarray .int, 2)), (391, (.putfield 119, 3)), (394, (.aload_n 0, 1)), (395, (.bipush 6, 2)), (397, (.newarray .int, 2)), (399, (.putfield 122, 3)), (402, (.aload_n 0, 1)), (403, (.bipush 9, 2)), (405, (.newarray .int, 2)), (407, (.putfield 125, 3)), (410, (.aload_n 0, 1)), (411, (.bipush 9, 2)), (413, (.newarray .int, 2)), (415, (.putfield 128, 3)), (418, (.return_, 1))]
def mX7_init : hM := (RX7, yX7_init, cX7_init, 1, (none : Option Jvm.ClassFile.FieldType), tX7_init)
theorem miX7_init : h_MI mX7_init 0 := ⟨List.mem_of_getElem? (i := 733) (by decide +kernel), by decide +kernel, rfl, ⟨by decide +kernel, by decide +kernel, by decide +kernel⟩, by decide +kernel⟩
def tX7_in : List (Nat × (Instr × Nat)) := [(0, (.iload_n 0, 1)), (1, (.iload_n 1, 1)), (2, (.if_icmp .lt 12, 3)), (5, (.iload_n 0, 1)), (6, (.iload_n 2, 1)), (7, (.if_icmp .gt 7, 3)), (10, (.iconst 1, 1)), (11, (.goto 4, 3)), (14, (.iconst 0, 1)), (15, (.ireturn, 1))]
def mX7_in : hM := (RX7, yX7_in, cX7_in, 3, (some .boolean), tX7_in)
theorem miX7_in : h_MI mX7_in 3 := ⟨List.mem_of_getElem? (i := 890) (by decide +kernel), by decide +kernel, rfl, ⟨by decide +kernel, by decide +kernel, by decide +kernel⟩, by decide +kernel⟩
def tX7_isSort : List (Nat × (Instr × Nat)) := [(0, (.iload_n 1, 1)), (1, (.iconst 0, 1)), (2, (.aload_n 0, 1)), (3, (.getfield 135, 3)), (6, (.iconst 1, 1)), (7, (.isub, 1)), (8, (.invokestatic 138, 3)), (11, (.ireturn, 1))]
def mX7_isSort : hM := (RX7, yX7_isSort, cX7_isSort, 2, (some .boolean), tX7_isSort)
theorem miX7_isSort : h_MI mX7_isSort 1 := ⟨List.mem_of_getElem? (i := 898) (by decide +kernel), by decide +kernel, rfl, ⟨by decide +kernel, by decide +kernel, by decide +kernel⟩, by decide +kernel⟩
def tX7_isLot : List (Nat × (Instr × Nat)) := [(0, (.iload_n 1, 1)), (1, (.iconst 0, 1)), (2, (.aload_n 0, 1)), (3, (.getfield 142, 3)), (6, (.iconst 1, 1)), (7, (.isub, 1)), (8, (.invokestatic 138, 3)), (11, (.ireturn, 1))]
def mX7_isLot : hM := (RX7, yX7_isLot, cX7_isLot, 2, (some .boolean), tX7_isLot)
theorem miX7_isLot : h_MI mX7_isLot 1 := ⟨List.mem_of_getElem? (i := 917) (by decide +kernel), by decide +kernel, rfl, ⟨by decide +kernel, by decide +kernel, by decide +kernel⟩, by decide +kernel⟩
def tX7_isTown : List (Nat × (Instr × Nat)) := [(0, (.iload_n 0, 1)), (1, (.iconst 0, 1)), (2, (.iconst 5, 1)), (3, (.invokestatic 138, 3)), (6, (.ireturn, 1))]
def mX7_isTown : hM := (RX7, yX7_isTown, cX7_isTown, 1, (some .boolean), tX7_isTown)
theorem miX7_isTown : h_MI mX7_isTown 1 := ⟨List.mem_of_getElem? (i := 901) (by decide +kernel), by decide +kernel, rfl, ⟨by decide +kernel, by decide +kernel, by decide +kernel⟩, by decide +kernel⟩
def tX7_isMint : List (Nat × (Instr × Nat)) := [(0, (.iload_n 0, 1)), (1, (.iconst 0, 1)), (2, (.iconst 2, 1)), (3, (.invokestatic 138, 3)), (6, (.ireturn, 1))]
def mX7_isMint : hM := (RX7, yX7_isMint, cX7_isMint, 1, (some .boolean), tX7_isMint)
theorem miX7_isMint : h_MI mX7_isMint 1 := ⟨List.mem_of_getElem? (i := 1046) (by decide +kernel), by decide +kernel, rfl, ⟨by decide +kernel, by decide +kernel, by decide +kernel⟩, by decide +kernel⟩
def tX7_sort : List (Nat × (Instr × Nat)) := [(0, (.iload_n 1, 1)), (1, (.iconst 1, 1)), (2, (.sipush 500, 3)), (5, (.invokestatic 138, 3)), (8, (.ifCond .eq 37, 3)), (11, (.iload_n 2, 1)), (12, (.iload_n 1, 1)), (13, (.sipush 500, 3)), (16, (.invokestatic 138, 3)), (19, (.ifCond .eq 26, 3)), (22, (.iload_n 3, 1)), (23, (.iconst 0, 1)), (24, (.sipush 1000, 3)), (27, (.invokestatic 138, 3)), (30, (.ifCond .eq 15, 3)), (33, (.iload 4, 2)), (35, (.iconst 1, 1)), (36, (.sipush 240, 3)), (39, (.invokestatic 138, 3)), (42, (.ifCond .ne 6, 3)), (45, (.bipush (-2), 2)), (47, (.ireturn, 1)), (48, (.aload_n 0, 1)), (49, (.getfield 135, 3)), (52, (.bipush 8, 2)), (54, (.if_icmp .ne 6, 3)), (57, (.bipush (-4), 2)), (59, (.ireturn, 1)), (60, (.aload_n 0, 1)), (61, (.getfield 7, 3)), (64, (.aload_n 0, 1)), (65, (.getfield 135, 3)), (68, (.iload_n 1, 1)), (69, (.iastore, 1)), (70, (.aload_n 0, 1)), (71, (.getfield 13, 3)), (74, (.aload_n 0, 1)), (75, (.getfield 135, 3)), (78, (.iload_n 2, 1)), (79, (.iastore, 1)), (80, (.aload_n 0, 1)), (81, (.getfield 16, 3)), (84, (.aload_n 0, 1)), (85, (.getfield 135, 3)), (88, (.iload_n 3, 1)), (89, (.iastore, 1)), (90, (.aload_n 0, 1)), (91, (.getfield 19, 3)), (94, (.aload_n 0, 1)), (95, (.getfield 135, 3)), (98, (.iload 4, 2)), (100, (.iastore, 1)), (101, (.aload_n 0, 1)), (102, (.dup, 1)), (103, (.getfield 135, 3)), (106, (.iconst 1, 1)), (107, (.iadd, 1)), (108, (.putfield 135, 3)), (111, (.aload_n 0, 1)), (112, (.getfield 135, 3)), (115, (.iconst 1, 1)), (116, (.isub, 1)), (117, (.ireturn, 1))]
def mX7_sort : hM := (RX7, yX7_sort, cX7_sort, 5, (some .int), tX7_sort)
theorem miX7_sort : h_MI mX7_sort 4 := ⟨List.mem_of_getElem? (i := 887) (by decide +kernel), by decide +kernel, rfl, ⟨by decide +kernel, by decide +kernel, by decide +kernel⟩, by decide +kernel⟩
def tX7_isWeight : List (Nat × (Instr × Nat)) := [(0, (.iload_n 1, 1)), (1, (.iconst 3, 1)), (2, (.if_icmp .ne 24, 3)), (5, (.iload_n 3, 1)), (6, (.ifCond .ne 18, 3)), (9, (.iload 4, 2)), (11, (.iconst 1, 1)), (12, (.ldc 100, 2)), (14, (.invokestatic 138, 3)), (17, (.ifCond .eq 7, 3)), (20, (.iconst 1, 1)), (21, (.goto 4, 3)), (24, (.iconst 0, 1)), (25, (.ireturn, 1)), (26, (.iload_n 3, 1)), (27, (.iconst 1, 1)), (28, (.sipush 1000, 3)), (31, (.invokestatic 138, 3)), (34, (.ifCond .ne 5, 3)), (37, (.iconst 0, 1)), (38, (.ireturn, 1)), (39, (.iload_n 1, 1)), (40, (.iconst 4, 1)), (41, (.if_icmp .ne 22, 3)), (44, (.iload 4, 2)), (46, (.iload_n 3, 1)), (47, (.aload_n 0, 1)), (48, (.getfield 13, 3)), (51, (.iload_n 2, 1)), (52, (.iaload, 1)), (53, (.imul, 1)), (54, (.if_icmp .ne 7, 3)), (57, (.iconst 1, 1)), (58, (.goto 4, 3)), (61, (.iconst 0, 1)), (62, (.ireturn, 1)), (63, (.iload 4, 2)), (65, (.iload_n 1, 1)), (66, (.iconst 1, 1)), (67, (.if_icmp .eq 8, 3)), (70, (.iload_n 1, 1)), (71, (.iconst 5, 1)), (72, (.if_icmp .ne 7, 3)), (75, (.iload_n 3, 1)), (76, (.goto 11, 3)), (79, (.iload_n 3, 1)), (80, (.aload_n 0, 1)), (81, (.getfield 7, 3)), (84, (.iload_n 2, 1)), (85, (.iaload, 1)), (86, (.imul, 1)), (87, (.iload_n 3, 1)), (88, (.aload_n 0, 1)), (89, (.getfield 13, 3)), (92, (.iload_n 2, 1)), (93, (.iaload, 1)), (94, (.imul, 1)), (95, (.invokestatic 138, 3)), (98, (.ireturn, 1))]
def mX7_isWeight : hM := (RX7, yX7_isWeight, cX7_isWeight, 5, (some .boolean), tX7_isWeight)
theorem miX7_isWeight : h_MI mX7_isWeight 4 := ⟨List.mem_of_getElem? (i := 905) (by decide +kernel), by decide +kernel, rfl, ⟨by decide +kernel, by decide +kernel, by decide +kernel⟩, by decide +kernel⟩
def tX7_newLot : List (Nat × (Instr × Nat)) := [(0, (.aload_n 0, 1)), (1, (.getfield 22, 3)), (4, (.aload_n 0, 1)), (5, (.getfield 142, 3)), (8, (.iload_n 1, 1)), (9, (.iastore, 1)), (10, (.aload_n 0, 1)), (11, (.getfield 25, 3)), (14, (.aload_n 0, 1)), (15, (.getfield 142, 3)), (18, (.iload_n 2, 1)), (19, (.iastore, 1)), (20, (.aload_n 0, 1)), (21, (.getfield 28, 3)), (24, (.aload_n 0, 1)), (25, (.getfield 142, 3)), (28, (.iload_n 3, 1)), (29, (.iastore, 1)), (30, (.aload_n 0, 1)), (31, (.getfield 31, 3)), (34, (.aload_n 0, 1)), (35, (.getfield 142, 3)), (38, (.iload 4, 2)), (40, (.iastore, 1)), (41, (.aload_n 0, 1)), (42, (.getfield 34, 3)), (45, (.aload_n 0, 1)), (46, (.getfield 142, 3)), (49, (.iload 5, 2)), (51, (.iastore, 1)), (52, (.aload_n 0, 1)), (53, (.getfield 37, 3)), (56, (.aload_n 0, 1)), (57, (.getfield 142, 3)), (60, (.iload 6, 2)), (62, (.iastore, 1)), (63, (.aload_n 0, 1)), (64, (.getfield 40, 3)), (67, (.aload_n 0, 1)), (68, (.getfield 142, 3)), (71, (.iload 7, 2)), (73, (.iastore, 1)), (74, (.aload_n 0, 1)), (75, (.getfield 43, 3)), (78, (.aload_n 0, 1)), (79, (.getfield 142, 3)), (82, (.iconst (-1), 1)), (83, (.iastore, 1)), (84, (.aload_n 0, 1)), (85, (.dup, 1)), (86, (.getfield 142, 3)), (89, (.iconst 1, 1)), (90, (.iadd, 1)), (91, (.putfield 142, 3)), (94, (.aload_n 0, 1)), (95, (.getfield 142, 3)), (98, (.iconst 1, 1)), (99, (.isub, 1)), (100, (.ireturn, 1))]
def mX7_newLot : hM := (RX7, yX7_newLot, cX7_newLot, 8, (some .int), tX7_newLot)
theorem miX7_newLot : h_MI mX7_newLot 7 := ⟨List.mem_of_getElem? (i := 909) (by decide +kernel), by decide +kernel, rfl, ⟨by decide +kernel, by decide +kernel, by decide +kernel⟩, by decide +kernel⟩
def tX7_lot : List (Nat × (Instr × Nat)) := [(0, (.aload_n 0, 1)), (1, (.iload_n 2, 1)), (2, (.invokevirtual 145, 3)), (5, (.ifCond .eq 11, 3)), (8, (.iload 6, 2)), (10, (.invokestatic 149, 3)), (13, (.ifCond .ne 5, 3)), (16, (.iconst (-1), 1)), (17, (.ireturn, 1)), (18, (.iload_n 1, 1)), (19, (.iconst 3, 1)), (20, (.if_icmp .eq 8, 3)), (23, (.iload_n 1, 1)), (24, (.iconst 5, 1)), (25, (.if_icmp .ne 7, 3)), (28, (.iconst 1, 1)), (29, (.goto 4, 3)), (32, (.iconst 0, 1)), (33, (.istore 7, 2)), (35, (.iload_n 1, 1)), (36, (.iconst 0, 1)), (37, (.iconst 5, 1)), (38, (.invokestatic 138, 3)), (41, (.ifCond .eq 40, 3)), (44, (.aload_n 0, 1)), (45, (.iload_n 1, 1)), (46, (.iload_n 2, 1)), (47, (.iload_n 3, 1)), (48, (.iload 4, 2)), (50, (.invokevirtual 152, 3)), (53, (.ifCond .eq 28, 3)), (56, (.iload 7, 2)), (58, (.ifCond .eq 18, 3)), (61, (.iload 5, 2)), (63, (.iconst 0, 1)), (64, (.sipush 1000, 3)), (67, (.invokestatic 138, 3)), (70, (.ifCond .ne 14, 3)), (73, (.goto 8, 3)), (76, (.iload 5, 2)), (78, (.ifCond .eq 6, 3)), (81, (.bipush (-2), 2)), (83, (.ireturn, 1)), (84, (.aload_n 0, 1)), (85, (.getfield 142, 3)), (88, (.bipush 30, 2)), (90, (.if_icmp .ne 8, 3)), (93, (.bipush (-4), 2)), (95, (.goto 17, 3)), (98, (.aload_n 0, 1)), (99, (.iload_n 1, 1)), (100, (.iload_n 2, 1)), (101, (.iload_n 3, 1)), (102, (.iload 4, 2)), (104, (.iload 5, 2)), (106, (.iload 6, 2)), (108, (.iconst (-1), 1)), (109, (.invokevirtual 156, 3)), (112, (.ireturn, 1))]
def mX7_lot : hM := (RX7, yX7_lot, cX7_lot, 8, (some .int), tX7_lot)
theorem miX7_lot : h_MI mX7_lot 6 := ⟨List.mem_of_getElem? (i := 894) (by decide +kernel), by decide +kernel, rfl, ⟨by decide +kernel, by decide +kernel, by decide +kernel⟩, by decide +kernel⟩
def tX7_open : List (Nat × (Instr × Nat)) := [(0, (.aload_n 0, 1)), (1, (.iload_n 1, 1)), (2, (.invokevirtual 160, 3)), (5, (.ifCond .ne 5, 3)), (8, (.iconst (-1), 1)), (9, (.ireturn, 1)), (10, (.iload_n 2, 1)), (11, (.aload_n 0, 1)), (12, (.getfield 28, 3)), (15, (.iload_n 1, 1)), (16, (.iaload, 1)), (17, (.aload_n 0, 1)), (18, (.getfield 28, 3)), (21, (.iload_n 1, 1)), (22, (.iaload, 1)), (23, (.aload_n 0, 1)), (24, (.getfield 13, 3)), (27, (.aload_n 0, 1)), (28, (.getfield 25, 3)), (31, (.iload_n 1, 1)), (32, (.iaload, 1)), (33, (.iaload, 1)), (34, (.imul, 1)), (35, (.invokestatic 138, 3)), (38, (.ifCond .ne 6, 3)), (41, (.bipush (-2), 2)), (43, (.ireturn, 1)), (44, (.aload_n 0, 1)), (45, (.getfield 22, 3)), (48, (.iload_n 1, 1)), (49, (.iaload, 1)), (50, (.iconst 2, 1)), (51, (.if_icmp .ne 12, 3)), (54, (.aload_n 0, 1)), (55, (.getfield 46, 3)), (58, (.iload_n 1, 1)), (59, (.baload, 1)), (60, (.ifCond .eq 6, 3)), (63, (.bipush (-3), 2)), (65, (.ireturn, 1)), (66, (.aload_n 0, 1)), (67, (.getfield 31, 3)), (70, (.iload_n 1, 1)), (71, (.iload_n 2, 1)), (72, (.iastore, 1)), (73, (.aload_n 0, 1)), (74, (.getfield 22, 3)), (77, (.iload_n 1, 1)), (78, (.iload_n 2, 1)), (79, (.aload_n 0, 1)), (80, (.getfield 28, 3)), (83, (.iload_n 1, 1)), (84, (.iaload, 1)), (85, (.aload_n 0, 1)), (86, (.getfield 7, 3)), (89, (.aload_n 0, 1)), (90, (.getfield 25, 3)), (93, (.iload_n 1, 1)), (94, (.iaload, 1)), (95, (.iaload, 1)), (96, (.imul, 1)), (97, (.if_icmp .ge 7, 3)), (100, (.iconst 1, 1)), (101, (.goto 4, 3)), (104, (.iconst 0, 1)), (105, (.iastore, 1)), (106, (.aload_n 0, 1)), (107, (.getfield 22, 3)), (110, (.iload_n 1, 1)), (111, (.iaload, 1)), (112, (.iconst 1, 1)), (113, (.if_icmp .ne 7, 3)), (116, (.iconst 1, 1)), (117, (.goto 4, 3)), (120, (.iconst 0, 1)), (121, (.ireturn, 1))]
def mX7_open : hM := (RX7, yX7_open, cX7_open, 3, (some .int), tX7_open)
theorem miX7_open : h_MI mX7_open 2 := ⟨List.mem_of_getElem? (i := 913) (by decide +kernel), by decide +kernel, rfl, ⟨by decide +kernel, by decide +kernel, by decide +kernel⟩, by decide +kernel⟩
def tX7_fine : List (Nat × (Instr × Nat)) := [(0, (.aload_n 0, 1)), (1, (.getfield 22, 3)), (4, (.iload_n 1, 1)), (5, (.iaload, 1)), (6, (.iconst 3, 1)), (7, (.if_icmp .eq 13, 3)), (10, (.aload_n 0, 1)), (11, (.getfield 22, 3)), (14, (.iload_n 1, 1)), (15, (.iaload, 1)), (16, (.iconst 5, 1)), (17, (.if_icmp .ne 12, 3)), (20, (.aload_n 0, 1)), (21, (.getfield 34, 3)), (24, (.iload_n 1, 1)), (25, (.iaload, 1)), (26, (.goto 14, 3)), (29, (.aload_n 0, 1)), (30, (.getfield 16, 3)), (33, (.aload_n 0, 1)), (34, (.getfield 25, 3)), (37, (.iload_n 1, 1)), (38, (.iaload, 1)), (39, (.iaload, 1)), (40, (.ireturn, 1))]
def mX7_fine : hM := (RX7, yX7_fine, cX7_fine, 2, (some .int), tX7_fine)
theorem miX7_fine : h_MI mX7_fine 1 := ⟨List.mem_of_getElem? (i := 925) (by decide +kernel), by decide +kernel, rfl, ⟨by decide +kernel, by decide +kernel, by decide +kernel⟩, by decide +kernel⟩
def tX7_silverOf : List (Nat × (Instr × Nat)) := [(0, (.aload_n 0, 1)), (1, (.getfield 31, 3)), (4, (.iload_n 1, 1)), (5, (.iaload, 1)), (6, (.i2l, 1)), (7, (.aload_n 0, 1)), (8, (.iload_n 1, 1)), (9, (.invokevirtual 163, 3)), (12, (.i2l, 1)), (13, (.lmul, 1)), (14, (.lreturn, 1))]
def mX7_silverOf : hM := (RX7, yX7_silverOf, cX7_silverOf, 2, (some .long), tX7_silverOf)
theorem miX7_silverOf : h_MI mX7_silverOf 1 := ⟨List.mem_of_getElem? (i := 937) (by decide +kernel), by decide +kernel, rfl, ⟨by decide +kernel, by decide +kernel, by decide +kernel⟩, by decide +kernel⟩
def tX7_isUnderWay : List (Nat × (Instr × Nat)) := [(0, (.aload_n 0, 1)), (1, (.getfield 43, 3)), (4, (.iload_n 1, 1)), (5, (.iaload, 1)), (6, (.aload_n 0, 1)), (7, (.getfield 167, 3)), (10, (.if_icmp .le 7, 3)), (13, (.iconst 1, 1)), (14, (.goto 4, 3)), (17, (.iconst 0, 1)), (18, (.ireturn, 1))]
def mX7_isUnderWay : hM := (RX7, yX7_isUnderWay, cX7_isUnderWay, 2, (some .boolean), tX7_isUnderWay)
theorem miX7_isUnderWay : h_MI mX7_isUnderWay 1 := ⟨List.mem_of_getElem? (i := 929) (by decide +kernel), by decide +kernel, rfl, ⟨by decide +kernel, by decide +kernel, by decide +kernel⟩, by decide +kernel⟩
def tX7_about : List (Nat × (Instr × Nat)) := [(0, (.aload_n 0, 1)), (1, (.iload_n 1, 1)), (2, (.invokevirtual 160, 3)), (5, (.ifCond .ne 5, 3)), (8, (.iconst (-1), 1)), (9, (.ireturn, 1)), (10, (.iload_n 2, 1)), (11, (.tableswitch 204 0 10 #[57, 64, 71, 78, 85, 91, 111, 131, 159, 174, 189], 57)), (68, (.aload_n 0, 1)), (69, (.getfield 22, 3)), (72, (.iload_n 1, 1)), (73, (.iaload, 1)), (74, (.ireturn, 1)), (75, (.aload_n 0, 1)), (76, (.getfield 25, 3)), (79, (.iload_n 1, 1)), (80, (.iaload, 1)), (81, (.ireturn, 1)), (82, (.aload_n 0, 1)), (83, (.getfield 28, 3)), (86, (.iload_n 1, 1)), (87, (.iaload, 1)), (88, (.ireturn, 1)), (89, (.aload_n 0, 1)), (90, (.getfield 31, 3)), (93, (.iload_n 1, 1)), (94, (.iaload, 1)), (95, (.ireturn, 1)), (96, (.aload_n 0, 1)), (97, (.iload_n 1, 1)), (98, (.invokevirtual 163, 3)), (101, (.ireturn, 1)), (102, (.aload_n 0, 1)), (103, (.getfield 46, 3)), (106, (.iload_n 1, 1)), (107, (.baload, 1)), (108, (.ifCond .eq 7, 3)), (111, (.iconst (-1), 1)), (112, (.goto 9, 3)), (115, (.aload_n 0, 1)), (116, (.getfield 37, 3)), (119, (.iload_n 1, 1)), (120, (.iaload, 1)), (121, (.ireturn, 1)), (122, (.aload_n 0, 1)), (123, (.getfield 46, 3)), (126, (.iload_n 1, 1)), (127, (.baload, 1)), (128, (.ifCond .eq 7, 3)), (131, (.iconst (-1), 1)), (132, (.goto 9, 3)), (135, (.aload_n 0, 1)), (136, (.getfield 40, 3)), (139, (.iload_n 1, 1)), (140, (.iaload, 1)), (141, (.ireturn, 1)), (142, (.aload_n 0, 1)), (143, (.getfield 46, 3)), (146, (.iload_n 1, 1)), (147, (.baload, 1)), (148, (.ifCond .ne 20, 3)), (151, (.aload_n 0, 1)), (152, (.iload_n 1, 1)), (153, (.invokevirtual 170, 3)), (156, (.ifCond .eq 12, 3)), (159, (.aload_n 0, 1)), (160, (.getfield 43, 3)), (163, (.iload_n 1, 1)), (164, (.iaload, 1)), (165, (.goto 4, 3)), (168, (.iconst (-1), 1)), (169, (.ireturn, 1)), (170, (.aload_n 0, 1)), (171, (.getfield 46, 3)), (174, (.iload_n 1, 1)), (175, (.baload, 1)), (176, (.ifCond .eq 7, 3)), (179, (.iconst 1, 1)), (180, (.goto 4, 3)), (183, (.iconst 0, 1)), (184, (.ireturn, 1)), (185, (.aload_n 0, 1)), (186, (.getfield 50, 3)), (189, (.iload_n 1, 1)), (190, (.baload, 1)), (191, (.ifCond .eq 7, 3)), (194, (.iconst 1, 1)), (195, (.goto 4, 3)), (198, (.iconst 0, 1)), (199, (.ireturn, 1)), (200, (.aload_n 0, 1)), (201, (.getfield 53, 3)), (204, (.iload_n 1, 1)), (205, (.baload, 1)), (206, (.ifCond .eq 7, 3)), (209, (.iconst 1, 1)), (210, (.goto 4, 3)), (213, (.iconst 0, 1)), (214, (.ireturn, 1)), (215, (.iconst (-1), 1)), (216, (.ireturn, 1))]
def mX7_about : hM := (RX7, yX7_about, cX7_about, 3, (some .int), tX7_about)
theorem miX7_about : h_MI mX7_about 2 := ⟨List.mem_of_getElem? (i := 921) (by decide +kernel), by decide +kernel, rfl, ⟨by decide +kernel, by decide +kernel, by decide +kernel⟩, by decide +kernel⟩
def tX7_silver : List (Nat × (Instr × Nat)) := [(0, (.aload_n 0, 1)), (1, (.iload_n 1, 1)), (2, (.invokevirtual 160, 3)), (5, (.ifCond .eq 11, 3)), (8, (.aload_n 0, 1)), (9, (.iload_n 1, 1)), (10, (.invokevirtual 173, 3)), (13, (.goto 6, 3)), (16, (.ldc2_w 177, 3)), (19, (.lreturn, 1))]
def mX7_silver : hM := (RX7, yX7_silver, cX7_silver, 2, (some .long), tX7_silver)
theorem miX7_silver : h_MI mX7_silver 1 := ⟨List.mem_of_getElem? (i := 933) (by decide +kernel), by decide +kernel, rfl, ⟨by decide +kernel, by decide +kernel, by decide +kernel⟩, by decide +kernel⟩
def tX7_today : List (Nat × (Instr × Nat)) := [(0, (.iload_n 1, 1)), (1, (.aload_n 0, 1)), (2, (.getfield 167, 3)), (5, (.sipush 999, 3)), (8, (.invokestatic 138, 3)), (11, (.ifCond .ne 6, 3)), (14, (.bipush (-2), 2)), (16, (.ireturn, 1)), (17, (.aload_n 0, 1)), (18, (.getfield 167, 3)), (21, (.istore_n 2, 1)), (22, (.aload_n 0, 1)), (23, (.iload_n 1, 1)), (24, (.putfield 167, 3)), (27, (.iload_n 2, 1)), (28, (.ireturn, 1))]
def mX7_today : hM := (RX7, yX7_today, cX7_today, 3, (some .int), tX7_today)
theorem miX7_today : h_MI mX7_today 1 := ⟨List.mem_of_getElem? (i := 942) (by decide +kernel), by decide +kernel, rfl, ⟨by decide +kernel, by decide +kernel, by decide +kernel⟩, by decide +kernel⟩
def tX7_feed : List (Nat × (Instr × Nat)) := [(0, (.iload_n 3, 1)), (1, (.iconst 1, 1)), (2, (.bipush 8, 2)), (4, (.invokestatic 138, 3)), (7, (.ifCond .ne 6, 3)), (10, (.bipush (-2), 2)), (12, (.ireturn, 1)), (13, (.aload_n 0, 1)), (14, (.getfield 179, 3)), (17, (.iload_n 3, 1)), (18, (.iadd, 1)), (19, (.sipush 160, 3)), (22, (.if_icmp .le 6, 3)), (25, (.bipush (-4), 2)), (27, (.ireturn, 1)), (28, (.iload_n 3, 1)), (29, (.iconst 1, 1)), (30, (.isub, 1)), (31, (.istore 4, 2)), (33, (.iload 4, 2)), (35, (.ifCond .lt 37, 3)), (38, (.aload_n 0, 1)), (39, (.getfield 56, 3)), (42, (.aload_n 0, 1)), (43, (.getfield 179, 3)), (46, (.lload_n 1, 1)), (47, (.bipush 8, 2)), (49, (.iload 4, 2)), (51, (.imul, 1)), (52, (.lshr, 1)), (53, (.l2i, 1)), (54, (.i2b, 1)), (55, (.bastore, 1)), (56, (.aload_n 0, 1)), (57, (.dup, 1)), (58, (.getfield 179, 3)), (61, (.iconst 1, 1)), (62, (.iadd, 1)), (63, (.putfield 179, 3)), (66, (.iinc 4 (-1), 3)), (69, (.goto (-36), 3)), (72, (.aload_n 0, 1)), (73, (.getfield 179, 3)), (76, (.ireturn, 1))]
def mX7_feed : hM := (RX7, yX7_feed, cX7_feed, 5, (some .int), tX7_feed)
theorem miX7_feed : h_MI mX7_feed 2 := ⟨List.mem_of_getElem? (i := 946) (by decide +kernel), by decide +kernel, rfl, ⟨by decide +kernel, by decide +kernel, by decide +kernel⟩, by decide +kernel⟩
def tX7_takes : List (Nat × (Instr × Nat)) := [(0, (.aload_n 0, 1)), (1, (.getfield 182, 3)), (4, (.aload_n 0, 1)), (5, (.getfield 179, 3)), (8, (.if_icmp .eq 16, 3)), (11, (.aload_n 0, 1)), (12, (.getfield 56, 3)), (15, (.aload_n 0, 1)), (16, (.getfield 182, 3)), (19, (.baload, 1)), (20, (.iload_n 1, 1)), (21, (.if_icmp .eq 5, 3)), (24, (.iconst 0, 1)), (25, (.ireturn, 1)), (26, (.aload_n 0, 1)), (27, (.dup, 1)), (28, (.getfield 182, 3)), (31, (.iconst 1, 1)), (32, (.iadd, 1)), (33, (.putfield 182, 3)), (36, (.iconst 1, 1)), (37, (.ireturn, 1))]
def mX7_takes : hM := (RX7, yX7_takes, cX7_takes, 2, (some .boolean), tX7_takes)
theorem miX7_takes : h_MI mX7_takes 1 := ⟨List.mem_of_getElem? (i := 962) (by decide +kernel), by decide +kernel, rfl, ⟨by decide +kernel, by decide +kernel, by decide +kernel⟩, by decide +kernel⟩
def tX7_digitAt : List (Nat × (Instr × Nat)) := [(0, (.aload_n 0, 1)), (1, (.getfield 182, 3)), (4, (.aload_n 0, 1)), (5, (.getfield 179, 3)), (8, (.if_icmp .ge 34, 3)), (11, (.aload_n 0, 1)), (12, (.getfield 56, 3)), (15, (.aload_n 0, 1)), (16, (.getfield 182, 3)), (19, (.baload, 1)), (20, (.iload_n 1, 1)), (21, (.if_icmp .lt 21, 3)), (24, (.aload_n 0, 1)), (25, (.getfield 56, 3)), (28, (.aload_n 0, 1)), (29, (.getfield 182, 3)), (32, (.baload, 1)), (33, (.bipush 57, 2)), (35, (.if_icmp .gt 7, 3)), (38, (.iconst 1, 1)), (39, (.goto 4, 3)), (42, (.iconst 0, 1)), (43, (.ireturn, 1))]
def mX7_digitAt : hM := (RX7, yX7_digitAt, cX7_digitAt, 2, (some .boolean), tX7_digitAt)
theorem miX7_digitAt : h_MI mX7_digitAt 1 := ⟨List.mem_of_getElem? (i := 970) (by decide +kernel), by decide +kernel, rfl, ⟨by decide +kernel, by decide +kernel, by decide +kernel⟩, by decide +kernel⟩
def tX7_takesNumber : List (Nat × (Instr × Nat)) := [(0, (.aload_n 0, 1)), (1, (.iload_n 2, 1)), (2, (.invokevirtual 185, 3)), (5, (.ifCond .ne 5, 3)), (8, (.iconst 0, 1)), (9, (.ireturn, 1)), (10, (.aload_n 0, 1)), (11, (.iconst 0, 1)), (12, (.putfield 188, 3)), (15, (.iconst 0, 1)), (16, (.istore_n 3, 1)), (17, (.iload_n 3, 1)), (18, (.iload_n 1, 1)), (19, (.if_icmp .ge 52, 3)), (22, (.aload_n 0, 1)), (23, (.bipush 48, 2)), (25, (.invokevirtual 185, 3)), (28, (.ifCond .eq 43, 3)), (31, (.aload_n 0, 1)), (32, (.bipush 10, 2)), (34, (.aload_n 0, 1)), (35, (.getfield 188, 3)), (38, (.imul, 1)), (39, (.aload_n 0, 1)), (40, (.getfield 56, 3)), (43, (.aload_n 0, 1)), (44, (.getfield 182, 3)), (47, (.baload, 1)), (48, (.iadd, 1)), (49, (.bipush 48, 2)), (51, (.isub, 1)), (52, (.putfield 188, 3)), (55, (.aload_n 0, 1)), (56, (.dup, 1)), (57, (.getfield 182, 3)), (60, (.iconst 1, 1)), (61, (.iadd, 1)), (62, (.putfield 182, 3)), (65, (.iinc 3 1, 3)), (68, (.goto (-51), 3)), (71, (.iconst 1, 1)), (72, (.ireturn, 1))]
def mX7_takesNumber : hM := (RX7, yX7_takesNumber, cX7_takesNumber, 4, (some .boolean), tX7_takesNumber)
theorem miX7_takesNumber : h_MI mX7_takesNumber 2 := ⟨List.mem_of_getElem? (i := 966) (by decide +kernel), by decide +kernel, rfl, ⟨by decide +kernel, by decide +kernel, by decide +kernel⟩, by decide +kernel⟩
def tX7_takesIs : List (Nat × (Instr × Nat)) := [(0, (.aload_n 0, 1)), (1, (.bipush 32, 2)), (3, (.invokevirtual 191, 3)), (6, (.ifCond .eq 34, 3)), (9, (.aload_n 0, 1)), (10, (.bipush 105, 2)), (12, (.invokevirtual 191, 3)), (15, (.ifCond .eq 25, 3)), (18, (.aload_n 0, 1)), (19, (.bipush 115, 2)), (21, (.invokevirtual 191, 3)), (24, (.ifCond .eq 16, 3)), (27, (.aload_n 0, 1)), (28, (.bipush 32, 2)), (30, (.invokevirtual 191, 3)), (33, (.ifCond .eq 7, 3)), (36, (.iconst 1, 1)), (37, (.goto 4, 3)), (40, (.iconst 0, 1)), (41, (.ireturn, 1))]
def mX7_takesIs : hM := (RX7, yX7_takesIs, cX7_takesIs, 1, (some .boolean), tX7_takesIs)
theorem miX7_takesIs : h_MI mX7_takesIs 0 := ⟨List.mem_of_getElem? (i := 958) (by decide +kernel), by decide +kernel, rfl, ⟨by decide +kernel, by decide +kernel, by decide +kernel⟩, by decide +kernel⟩
def tX7_takesWeight : List (Nat × (Instr × Nat)) := [(0, (.aload_n 0, 1)), (1, (.bipush 32, 2)), (3, (.invokevirtual 191, 3)), (6, (.ifCond .eq 97, 3)), (9, (.aload_n 0, 1)), (10, (.bipush 98, 2)), (12, (.invokevirtual 191, 3)), (15, (.ifCond .eq 88, 3)), (18, (.aload_n 0, 1)), (19, (.bipush 121, 2)), (21, (.invokevirtual 191, 3)), (24, (.ifCond .eq 79, 3)), (27, (.aload_n 0, 1)), (28, (.bipush 32, 2)), (30, (.invokevirtual 191, 3)), (33, (.ifCond .eq 70, 3)), (36, (.aload_n 0, 1)), (37, (.bipush 119, 2)), (39, (.invokevirtual 191, 3)), (42, (.ifCond .eq 61, 3)), (45, (.aload_n 0, 1)), (46, (.bipush 101, 2)), (48, (.invokevirtual 191, 3)), (51, (.ifCond .eq 52, 3)), (54, (.aload_n 0, 1)), (55, (.bipush 105, 2)), (57, (.invokevirtual 191, 3)), (60, (.ifCond .eq 43, 3)), (63, (.aload_n 0, 1)), (64, (.bipush 103, 2)), (66, (.invokevirtual 191, 3)), (69, (.ifCond .eq 34, 3)), (72, (.aload_n 0, 1)), (73, (.bipush 104, 2)), (75, (.invokevirtual 191, 3)), (78, (.ifCond .eq 25, 3)), (81, (.aload_n 0, 1)), (82, (.bipush 116, 2)), (84, (.invokevirtual 191, 3)), (87, (.ifCond .eq 16, 3)), (90, (.aload_n 0, 1)), (91, (.bipush 32, 2)), (93, (.invokevirtual 191, 3)), (96, (.ifCond .eq 7, 3)), (99, (.iconst 1, 1)), (100, (.goto 4, 3)), (103, (.iconst 0, 1)), (104, (.ireturn, 1))]
def mX7_takesWeight : hM := (RX7, yX7_takesWeight, cX7_takesWeight, 1, (some .boolean), tX7_takesWeight)
theorem miX7_takesWeight : h_MI mX7_takesWeight 0 := ⟨List.mem_of_getElem? (i := 974) (by decide +kernel), by decide +kernel, rfl, ⟨by decide +kernel, by decide +kernel, by decide +kernel⟩, by decide +kernel⟩
def tX7_clause : List (Nat × (Instr × Nat)) := [(0, (.aload_n 0, 1)), (1, (.getfield 182, 3)), (4, (.aload_n 0, 1)), (5, (.getfield 179, 3)), (8, (.if_icmp .eq 22, 3)), (11, (.aload_n 0, 1)), (12, (.getfield 56, 3)), (15, (.aload_n 0, 1)), (16, (.getfield 182, 3)), (19, (.baload, 1)), (20, (.bipush 48, 2)), (22, (.bipush 55, 2)), (24, (.invokestatic 138, 3)), (27, (.ifCond .ne 5, 3)), (30, (.iconst 0, 1)), (31, (.ireturn, 1)), (32, (.bipush 8, 2)), (34, (.iload_n 1, 1)), (35, (.imul, 1)), (36, (.aload_n 0, 1)), (37, (.getfield 56, 3)), (40, (.aload_n 0, 1)), (41, (.getfield 182, 3)), (44, (.baload, 1)), (45, (.iadd, 1)), (46, (.bipush 48, 2)), (48, (.isub, 1)), (49, (.istore_n 2, 1)), (50, (.aload_n 0, 1)), (51, (.getfield 60, 3)), (54, (.iload_n 2, 1)), (55, (.iaload, 1)), (56, (.ifCond .eq 5, 3)), (59, (.iconst 0, 1)), (60, (.ireturn, 1)), (61, (.aload_n 0, 1)), (62, (.dup, 1)), (63, (.getfield 182, 3)), (66, (.iconst 1, 1)), (67, (.iadd, 1)), (68, (.putfield 182, 3)), (71, (.aload_n 0, 1)), (72, (.invokevirtual 194, 3)), (75, (.ifCond .ne 5, 3)), (78, (.iconst 0, 1)), (79, (.ireturn, 1)), (80, (.aload_n 0, 1)), (81, (.bipush 111, 2)), (83, (.invokevirtual 191, 3)), (86, (.ifCond .eq 34, 3)), (89, (.aload_n 0, 1)), (90, (.getfield 60, 3)), (93, (.iload_n 2, 1)), (94, (.iconst 3, 1)), (95, (.iastore, 1)), (96, (.aload_n 0, 1)), (97, (.bipush 117, 2)), (99, (.invokevirtual 191, 3)), (102, (.ifCond .eq 16, 3)), (105, (.aload_n 0, 1)), (106, (.bipush 116, 2)), (108, (.invokevirtual 191, 3)), (111, (.ifCond .eq 7, 3)), (114, (.iconst 1, 1)), (115, (.goto 4, 3)), (118, (.iconst 0, 1)), (119, (.ireturn, 1)), (120, (.aload_n 0, 1)), (121, (.iconst 3, 1)), (122, (.bipush 48, 2)), (124, (.invokevirtual 198, 3)), (127, (.ifCond .ne 5, 3)), (130, (.iconst 0, 1)), (131, (.ireturn, 1)), (132, (.aload_n 0, 1)), (133, (.getfield 60, 3)), (136, (.iload_n 2, 1)), (137, (.iconst 1, 1)), (138, (.iastore, 1)), (139, (.aload_n 0, 1)), (140, (.getfield 63, 3)), (143, (.iload_n 2, 1)), (144, (.aload_n 0, 1)), (145, (.getfield 188, 3)), (148, (.iastore, 1)), (149, (.aload_n 0, 1)), (150, (.getfield 182, 3)), (153, (.aload_n 0, 1)), (154, (.getfield 179, 3)), (157, (.if_icmp .eq 17, 3)), (160, (.aload_n 0, 1)), (161, (.getfield 56, 3)), (164, (.aload_n 0, 1)), (165, (.getfield 182, 3)), (168, (.baload, 1)), (169, (.bipush 59, 2)), (171, (.if_icmp .ne 5, 3)), (174, (.iconst 1, 1)), (175, (.ireturn, 1)), (176, (.aload_n 0, 1)), (177, (.invokevirtual 202, 3)), (180, (.ifCond .eq 13, 3)), (183, (.aload_n 0, 1)), (184, (.iconst 4, 1)), (185, (.bipush 49, 2)), (187, (.invokevirtual 198, 3)), (190, (.ifCond .ne 5, 3)), (193, (.iconst 0, 1)), (194, (.ireturn, 1)), (195, (.aload_n 0, 1)), (196, (.getfield 60, 3)), (199, (.iload_n 2, 1)), (200, (.iconst 2, 1)), (201, (.iastore, 1)), (202, (.aload_n 0, 1)), (203, (.getfield 66, 3)), (206, (.iload_n 2, 1)), (207, (.aload_n 0, 1)), (208, (.getfield 188, 3)), (211, (.iastore, 1)), (212, (.iconst 1, 1)), (213, (.ireturn, 1))]
def mX7_clause : hM := (RX7, yX7_clause, cX7_clause, 3, (some .boolean), tX7_clause)
theorem miX7_clause : h_MI mX7_clause 1 := ⟨List.mem_of_getElem? (i := 954) (by decide +kernel), by decide +kernel, rfl, ⟨by decide +kernel, by decide +kernel, by decide +kernel⟩, by decide +kernel⟩
def tX7_order : List (Nat × (Instr × Nat)) := [(0, (.aload_n 0, 1)), (1, (.getfield 205, 3)), (4, (.bipush 10, 2)), (6, (.if_icmp .ne 6, 3)), (9, (.bipush (-4), 2)), (11, (.ireturn, 1)), (12, (.aload_n 0, 1)), (13, (.getfield 205, 3)), (16, (.istore_n 1, 1)), (17, (.iconst 0, 1)), (18, (.istore_n 2, 1)), (19, (.iload_n 2, 1)), (20, (.bipush 8, 2)), (22, (.if_icmp .ge 21, 3)), (25, (.aload_n 0, 1)), (26, (.getfield 60, 3)), (29, (.bipush 8, 2)), (31, (.iload_n 1, 1)), (32, (.imul, 1)), (33, (.iload_n 2, 1)), (34, (.iadd, 1)), (35, (.iconst 0, 1)), (36, (.iastore, 1)), (37, (.iinc 2 1, 3)), (40, (.goto (-21), 3)), (43, (.aload_n 0, 1)), (44, (.iconst 0, 1)), (45, (.putfield 182, 3)), (48, (.iconst 1, 1)), (49, (.istore_n 2, 1)), (50, (.aload_n 0, 1)), (51, (.iload_n 1, 1)), (52, (.invokevirtual 208, 3)), (55, (.istore_n 3, 1)), (56, (.iload_n 3, 1)), (57, (.ifCond .eq 49, 3)), (60, (.aload_n 0, 1)), (61, (.getfield 182, 3)), (64, (.aload_n 0, 1)), (65, (.getfield 179, 3)), (68, (.if_icmp .ge 38, 3)), (71, (.iload_n 2, 1)), (72, (.bipush 6, 2)), (74, (.if_icmp .ge 24, 3)), (77, (.aload_n 0, 1)), (78, (.bipush 59, 2)), (80, (.invokevirtual 191, 3)), (83, (.ifCond .eq 15, 3)), (86, (.aload_n 0, 1)), (87, (.iload_n 1, 1)), (88, (.invokevirtual 208, 3)), (91, (.ifCond .eq 7, 3)), (94, (.iconst 1, 1)), (95, (.goto 4, 3)), (98, (.iconst 0, 1)), (99, (.istore_n 3, 1)), (100, (.iinc 2 1, 3)), (103, (.goto (-47), 3)), (106, (.aload_n 0, 1)), (107, (.iconst 0, 1)), (108, (.putfield 179, 3)), (111, (.iload_n 3, 1)), (112, (.ifCond .ne 11, 3)), (115, (.bipush (-10), 2)), (117, (.aload_n 0, 1)), (118, (.getfield 182, 3)), (121, (.isub, 1)), (122, (.ireturn, 1)), (123, (.iconst 0, 1)), (124, (.istore 4, 2)), (126, (.iload 4, 2)), (128, (.bipush 6, 2)), (130, (.if_icmp .ge 22, 3)), (133, (.aload_n 0, 1)), (134, (.getfield 69, 3)), (137, (.bipush 6, 2)), (139, (.iload_n 1, 1)), (140, (.imul, 1)), (141, (.iload 4, 2)), (143, (.iadd, 1)), (144, (.iconst 0, 1)), (145, (.iastore, 1)), (146, (.iinc 4 1, 3)), (149, (.goto (-23), 3)), (152, (.aload_n 0, 1)), (153, (.dup, 1)), (154, (.getfield 205, 3)), (157, (.iconst 1, 1)), (158, (.iadd, 1)), (159, (.putfield 205, 3)), (162, (.iload_n 1, 1)), (163, (.ireturn, 1))]
def mX7_order : hM := (RX7, yX7_order, cX7_order, 5, (some .int), tX7_order)
theorem miX7_order : h_MI mX7_order 0 := ⟨List.mem_of_getElem? (i := 950) (by decide +kernel), by decide +kernel, rfl, ⟨by decide +kernel, by decide +kernel, by decide +kernel⟩, by decide +kernel⟩
def tX7_isOrder : List (Nat × (Instr × Nat)) := [(0, (.iload_n 1, 1)), (1, (.iconst 0, 1)), (2, (.aload_n 0, 1)), (3, (.getfield 205, 3)), (6, (.iconst 1, 1)), (7, (.isub, 1)), (8, (.invokestatic 138, 3)), (11, (.ireturn, 1))]
def mX7_isOrder : hM := (RX7, yX7_isOrder, cX7_isOrder, 2, (some .boolean), tX7_isOrder)
theorem miX7_isOrder : h_MI mX7_isOrder 1 := ⟨List.mem_of_getElem? (i := 982) (by decide +kernel), by decide +kernel, rfl, ⟨by decide +kernel, by decide +kernel, by decide +kernel⟩, by decide +kernel⟩
def tX7_tell : List (Nat × (Instr × Nat)) := [(0, (.aload_n 0, 1)), (1, (.iload_n 1, 1)), (2, (.invokevirtual 211, 3)), (5, (.ifCond .eq 10, 3)), (8, (.iload_n 2, 1)), (9, (.invokestatic 149, 3)), (12, (.ifCond .ne 5, 3)), (15, (.iconst (-1), 1)), (16, (.ireturn, 1)), (17, (.aload_n 0, 1)), (18, (.getfield 69, 3)), (21, (.bipush 6, 2)), (23, (.iload_n 1, 1)), (24, (.imul, 1)), (25, (.iload_n 2, 1)), (26, (.iadd, 1)), (27, (.iaload, 1)), (28, (.ifCond .le 5, 3)), (31, (.iconst 0, 1)), (32, (.ireturn, 1)), (33, (.aload_n 0, 1)), (34, (.getfield 69, 3)), (37, (.bipush 6, 2)), (39, (.iload_n 1, 1)), (40, (.imul, 1)), (41, (.iload_n 2, 1)), (42, (.iadd, 1)), (43, (.aload_n 0, 1)), (44, (.getfield 167, 3)), (47, (.iconst 1, 1)), (48, (.iadd, 1)), (49, (.iastore, 1)), (50, (.iconst 1, 1)), (51, (.ireturn, 1))]
def mX7_tell : hM := (RX7, yX7_tell, cX7_tell, 3, (some .int), tX7_tell)
theorem miX7_tell : h_MI mX7_tell 2 := ⟨List.mem_of_getElem? (i := 978) (by decide +kernel), by decide +kernel, rfl, ⟨by decide +kernel, by decide +kernel, by decide +kernel⟩, by decide +kernel⟩
def tX7_forceIn : List (Nat × (Instr × Nat)) := [(0, (.iconst (-1), 1)), (1, (.istore_n 3, 1)), (2, (.iconst 0, 1)), (3, (.istore 4, 2)), (5, (.iload 4, 2)), (7, (.aload_n 0, 1)), (8, (.getfield 205, 3)), (11, (.if_icmp .ge 59, 3)), (14, (.aload_n 0, 1)), (15, (.getfield 69, 3)), (18, (.bipush 6, 2)), (20, (.iload 4, 2)), (22, (.imul, 1)), (23, (.iload_n 1, 1)), (24, (.iadd, 1)), (25, (.iaload, 1)), (26, (.istore 5, 2)), (28, (.iload 5, 2)), (30, (.ifCond .le 34, 3)), (33, (.iload 5, 2)), (35, (.iconst 1, 1)), (36, (.isub, 1)), (37, (.iload_n 2, 1)), (38, (.if_icmp .gt 26, 3)), (41, (.iload_n 3, 1)), (42, (.ifCond .lt 19, 3)), (45, (.iload 5, 2)), (47, (.aload_n 0, 1)), (48, (.getfield 69, 3)), (51, (.bipush 6, 2)), (53, (.iload_n 3, 1)), (54, (.imul, 1)), (55, (.iload_n 1, 1)), (56, (.iadd, 1)), (57, (.iaload, 1)), (58, (.if_icmp .lt 6, 3)), (61, (.iload 4, 2)), (63, (.istore_n 3, 1)), (64, (.iinc 4 1, 3)), (67, (.goto (-62), 3)), (70, (.iload_n 3, 1)), (71, (.ireturn, 1))]
def mX7_forceIn : hM := (RX7, yX7_forceIn, cX7_forceIn, 6, (some .int), tX7_forceIn)
theorem miX7_forceIn : h_MI mX7_forceIn 2 := ⟨List.mem_of_getElem? (i := 990) (by decide +kernel), by decide +kernel, rfl, ⟨by decide +kernel, by decide +kernel, by decide +kernel⟩, by decide +kernel⟩
def tX7_force : List (Nat × (Instr × Nat)) := [(0, (.iload_n 1, 1)), (1, (.invokestatic 149, 3)), (4, (.ifCond .eq 12, 3)), (7, (.aload_n 0, 1)), (8, (.iload_n 1, 1)), (9, (.iload_n 2, 1)), (10, (.invokevirtual 214, 3)), (13, (.goto 4, 3)), (16, (.iconst (-1), 1)), (17, (.ireturn, 1))]
def mX7_force : hM := (RX7, yX7_force, cX7_force, 3, (some .int), tX7_force)
theorem miX7_force : h_MI mX7_force 2 := ⟨List.mem_of_getElem? (i := 986) (by decide +kernel), by decide +kernel, rfl, ⟨by decide +kernel, by decide +kernel, by decide +kernel⟩, by decide +kernel⟩
def tX7_passes : List (Nat × (Instr × Nat)) := [(0, (.aload_n 0, 1)), (1, (.getfield 22, 3)), (4, (.iload_n 1, 1)), (5, (.iaload, 1)), (6, (.iconst 3, 1)), (7, (.if_icmp .eq 31, 3)), (10, (.aload_n 0, 1)), (11, (.getfield 53, 3)), (14, (.iload_n 1, 1)), (15, (.baload, 1)), (16, (.ifCond .ne 22, 3)), (19, (.aload_n 0, 1)), (20, (.getfield 50, 3)), (23, (.iload_n 1, 1)), (24, (.baload, 1)), (25, (.ifCond .eq 15, 3)), (28, (.aload_n 0, 1)), (29, (.getfield 37, 3)), (32, (.iload_n 1, 1)), (33, (.iaload, 1)), (34, (.iload_n 2, 1)), (35, (.if_icmp .ne 5, 3)), (38, (.iconst 0, 1)), (39, (.ireturn, 1)), (40, (.aload_n 0, 1)), (41, (.iload_n 2, 1)), (42, (.iload_n 3, 1)), (43, (.invokevirtual 214, 3)), (46, (.istore 4, 2)), (48, (.bipush 8, 2)), (50, (.iload 4, 2)), (52, (.imul, 1)), (53, (.aload_n 0, 1)), (54, (.getfield 25, 3)), (57, (.iload_n 1, 1)), (58, (.iaload, 1)), (59, (.iadd, 1)), (60, (.istore 5, 2)), (62, (.iload 4, 2)), (64, (.ifCond .lt 13, 3)), (67, (.aload_n 0, 1)), (68, (.getfield 60, 3)), (71, (.iload 5, 2)), (73, (.iaload, 1)), (74, (.ifCond .ne 22, 3)), (77, (.aload_n 0, 1)), (78, (.getfield 19, 3)), (81, (.aload_n 0, 1)), (82, (.getfield 25, 3)), (85, (.iload_n 1, 1)), (86, (.iaload, 1)), (87, (.iaload, 1)), (88, (.aload_n 0, 1)), (89, (.getfield 28, 3)), (92, (.iload_n 1, 1)), (93, (.iaload, 1)), (94, (.imul, 1)), (95, (.ireturn, 1)), (96, (.aload_n 0, 1)), (97, (.getfield 60, 3)), (100, (.iload 5, 2)), (102, (.iaload, 1)), (103, (.iconst 3, 1)), (104, (.if_icmp .ne 7, 3)), (107, (.iconst 0, 1)), (108, (.goto 57, 3)), (111, (.aload_n 0, 1)), (112, (.getfield 60, 3)), (115, (.iload 5, 2)), (117, (.iaload, 1)), (118, (.iconst 1, 1)), (119, (.if_icmp .ne 20, 3)), (122, (.aload_n 0, 1)), (123, (.getfield 63, 3)), (126, (.iload 5, 2)), (128, (.iaload, 1)), (129, (.aload_n 0, 1)), (130, (.getfield 28, 3)), (133, (.iload_n 1, 1)), (134, (.iaload, 1)), (135, (.imul, 1)), (136, (.goto 29, 3)), (139, (.aload_n 0, 1)), (140, (.getfield 63, 3)), (143, (.iload 5, 2)), (145, (.iaload, 1)), (146, (.i2l, 1)), (147, (.aload_n 0, 1)), (148, (.getfield 31, 3)), (151, (.iload_n 1, 1)), (152, (.iaload, 1)), (153, (.i2l, 1)), (154, (.lmul, 1)), (155, (.aload_n 0, 1)), (156, (.getfield 66, 3)), (159, (.iload 5, 2)), (161, (.iaload, 1)), (162, (.i2l, 1)), (163, (.ldiv, 1)), (164, (.l2i, 1)), (165, (.ireturn, 1))]
def mX7_passes : hM := (RX7, yX7_passes, cX7_passes, 6, (some .int), tX7_passes)
theorem miX7_passes : h_MI mX7_passes 3 := ⟨List.mem_of_getElem? (i := 998) (by decide +kernel), by decide +kernel, rfl, ⟨by decide +kernel, by decide +kernel, by decide +kernel⟩, by decide +kernel⟩
def tX7_pass : List (Nat × (Instr × Nat)) := [(0, (.aload_n 0, 1)), (1, (.iload_n 1, 1)), (2, (.invokevirtual 160, 3)), (5, (.ifCond .eq 10, 3)), (8, (.iload_n 2, 1)), (9, (.invokestatic 149, 3)), (12, (.ifCond .ne 7, 3)), (15, (.iconst (-1), 1)), (16, (.goto 19, 3)), (19, (.iload_n 3, 1)), (20, (.ifCond .ge 8, 3)), (23, (.bipush (-2), 2)), (25, (.goto 10, 3)), (28, (.aload_n 0, 1)), (29, (.iload_n 1, 1)), (30, (.iload_n 2, 1)), (31, (.iload_n 3, 1)), (32, (.invokevirtual 218, 3)), (35, (.ireturn, 1))]
def mX7_pass : hM := (RX7, yX7_pass, cX7_pass, 4, (some .int), tX7_pass)
theorem miX7_pass : h_MI mX7_pass 3 := ⟨List.mem_of_getElem? (i := 994) (by decide +kernel), by decide +kernel, rfl, ⟨by decide +kernel, by decide +kernel, by decide +kernel⟩, by decide +kernel⟩
def tX7_lowest : List (Nat × (Instr × Nat)) := [(0, (.aload_n 0, 1)), (1, (.getfield 22, 3)), (4, (.iload_n 1, 1)), (5, (.iaload, 1)), (6, (.iconst 1, 1)), (7, (.if_icmp .eq 13, 3)), (10, (.aload_n 0, 1)), (11, (.getfield 22, 3)), (14, (.iload_n 1, 1)), (15, (.iaload, 1)), (16, (.iconst 5, 1)), (17, (.if_icmp .ne 7, 3)), (20, (.iconst 1, 1)), (21, (.goto 14, 3)), (24, (.aload_n 0, 1)), (25, (.getfield 7, 3)), (28, (.aload_n 0, 1)), (29, (.getfield 25, 3)), (32, (.iload_n 1, 1)), (33, (.iaload, 1)), (34, (.iaload, 1)), (35, (.ireturn, 1))]
def mX7_lowest : hM := (RX7, yX7_lowest, cX7_lowest, 2, (some .int), tX7_lowest)
theorem miX7_lowest : h_MI mX7_lowest 1 := ⟨List.mem_of_getElem? (i := 1010) (by decide +kernel), by decide +kernel, rfl, ⟨by decide +kernel, by decide +kernel, by decide +kernel⟩, by decide +kernel⟩
def tX7_isDrawn : List (Nat × (Instr × Nat)) := [(0, (.aload_n 0, 1)), (1, (.getfield 28, 3)), (4, (.iload_n 1, 1)), (5, (.iaload, 1)), (6, (.ifCond .le 48, 3)), (9, (.iload_n 2, 1)), (10, (.iconst 0, 1)), (11, (.aload_n 0, 1)), (12, (.getfield 28, 3)), (15, (.iload_n 1, 1)), (16, (.iaload, 1)), (17, (.invokestatic 138, 3)), (20, (.ifCond .eq 34, 3)), (23, (.iload_n 3, 1)), (24, (.iload_n 2, 1)), (25, (.aload_n 0, 1)), (26, (.iload_n 1, 1)), (27, (.invokevirtual 222, 3)), (30, (.imul, 1)), (31, (.iload_n 2, 1)), (32, (.aload_n 0, 1)), (33, (.getfield 13, 3)), (36, (.aload_n 0, 1)), (37, (.getfield 25, 3)), (40, (.iload_n 1, 1)), (41, (.iaload, 1)), (42, (.iaload, 1)), (43, (.imul, 1)), (44, (.invokestatic 138, 3)), (47, (.ifCond .eq 7, 3)), (50, (.iconst 1, 1)), (51, (.goto 4, 3)), (54, (.iconst 0, 1)), (55, (.ireturn, 1))]
def mX7_isDrawn : hM := (RX7, yX7_isDrawn, cX7_isDrawn, 4, (some .boolean), tX7_isDrawn)
theorem miX7_isDrawn : h_MI mX7_isDrawn 3 := ⟨List.mem_of_getElem? (i := 1006) (by decide +kernel), by decide +kernel, rfl, ⟨by decide +kernel, by decide +kernel, by decide +kernel⟩, by decide +kernel⟩
def tX7_light : List (Nat × (Instr × Nat)) := [(0, (.aload_n 0, 1)), (1, (.iload_n 1, 1)), (2, (.invokevirtual 160, 3)), (5, (.ifCond .eq 11, 3)), (8, (.iload 4, 2)), (10, (.invokestatic 149, 3)), (13, (.ifCond .ne 5, 3)), (16, (.iconst (-1), 1)), (17, (.ireturn, 1)), (18, (.aload_n 0, 1)), (19, (.iload_n 1, 1)), (20, (.iload_n 2, 1)), (21, (.iload_n 3, 1)), (22, (.invokevirtual 225, 3)), (25, (.ifCond .ne 6, 3)), (28, (.bipush (-2), 2)), (30, (.ireturn, 1)), (31, (.aload_n 0, 1)), (32, (.iload 4, 2)), (34, (.aload_n 0, 1)), (35, (.getfield 167, 3)), (38, (.invokevirtual 214, 3)), (41, (.istore 5, 2)), (43, (.bipush 8, 2)), (45, (.iload 5, 2)), (47, (.imul, 1)), (48, (.aload_n 0, 1)), (49, (.getfield 25, 3)), (52, (.iload_n 1, 1)), (53, (.iaload, 1)), (54, (.iadd, 1)), (55, (.istore 6, 2)), (57, (.iload 5, 2)), (59, (.ifCond .lt 14, 3)), (62, (.aload_n 0, 1)), (63, (.getfield 60, 3)), (66, (.iload 6, 2)), (68, (.iaload, 1)), (69, (.iconst 2, 1)), (70, (.if_icmp .eq 5, 3)), (73, (.iconst 0, 1)), (74, (.ireturn, 1)), (75, (.iload_n 3, 1)), (76, (.aload_n 0, 1)), (77, (.getfield 28, 3)), (80, (.iload_n 1, 1)), (81, (.iaload, 1)), (82, (.iload_n 2, 1)), (83, (.isub, 1)), (84, (.aload_n 0, 1)), (85, (.getfield 13, 3)), (88, (.aload_n 0, 1)), (89, (.getfield 25, 3)), (92, (.iload_n 1, 1)), (93, (.iaload, 1)), (94, (.iaload, 1)), (95, (.imul, 1)), (96, (.iadd, 1)), (97, (.i2l, 1)), (98, (.aload_n 0, 1)), (99, (.getfield 66, 3)), (102, (.iload 6, 2)), (104, (.iaload, 1)), (105, (.i2l, 1)), (106, (.aload_n 0, 1)), (107, (.getfield 28, 3)), (110, (.iload_n 1, 1)), (111, (.iaload, 1)), (112, (.i2l, 1)), (113, (.lmul, 1)), (114, (.lcmp, 1)), (115, (.ifCond .ge 7, 3)), (118, (.iconst 1, 1)), (119, (.goto 4, 3)), (122, (.iconst 0, 1)), (123, (.ireturn, 1))]
def mX7_light : hM := (RX7, yX7_light, cX7_light, 7, (some .int), tX7_light)
theorem miX7_light : h_MI mX7_light 4 := ⟨List.mem_of_getElem? (i := 1002) (by decide +kernel), by decide +kernel, rfl, ⟨by decide +kernel, by decide +kernel, by decide +kernel⟩, by decide +kernel⟩
def tX7_isThere : List (Nat × (Instr × Nat)) := [(0, (.aload_n 0, 1)), (1, (.getfield 37, 3)), (4, (.iload_n 1, 1)), (5, (.iaload, 1)), (6, (.iload_n 2, 1)), (7, (.if_icmp .ne 33, 3)), (10, (.aload_n 0, 1)), (11, (.iload_n 1, 1)), (12, (.invokevirtual 170, 3)), (15, (.ifCond .ne 25, 3)), (18, (.aload_n 0, 1)), (19, (.getfield 46, 3)), (22, (.iload_n 1, 1)), (23, (.baload, 1)), (24, (.ifCond .ne 16, 3)), (27, (.aload_n 0, 1)), (28, (.getfield 50, 3)), (31, (.iload_n 1, 1)), (32, (.baload, 1)), (33, (.ifCond .ne 7, 3)), (36, (.iconst 1, 1)), (37, (.goto 4, 3)), (40, (.iconst 0, 1)), (41, (.ireturn, 1))]
def mX7_isThere : hM := (RX7, yX7_isThere, cX7_isThere, 3, (some .boolean), tX7_isThere)
theorem miX7_isThere : h_MI mX7_isThere 2 := ⟨List.mem_of_getElem? (i := 1019) (by decide +kernel), by decide +kernel, rfl, ⟨by decide +kernel, by decide +kernel, by decide +kernel⟩, by decide +kernel⟩
def tX7_isWorse : List (Nat × (Instr × Nat)) := [(0, (.aload_n 0, 1)), (1, (.iload_n 1, 1)), (2, (.invokevirtual 173, 3)), (5, (.aload_n 0, 1)), (6, (.iload_n 2, 1)), (7, (.iload_n 3, 1)), (8, (.aload_n 0, 1)), (9, (.getfield 167, 3)), (12, (.invokevirtual 218, 3)), (15, (.i2l, 1)), (16, (.lmul, 1)), (17, (.lstore 4, 2)), (19, (.aload_n 0, 1)), (20, (.iload_n 2, 1)), (21, (.invokevirtual 173, 3)), (24, (.aload_n 0, 1)), (25, (.iload_n 1, 1)), (26, (.iload_n 3, 1)), (27, (.aload_n 0, 1)), (28, (.getfield 167, 3)), (31, (.invokevirtual 218, 3)), (34, (.i2l, 1)), (35, (.lmul, 1)), (36, (.lstore 6, 2)), (38, (.lload 4, 2)), (40, (.lload 6, 2)), (42, (.lcmp, 1)), (43, (.ifCond .lt 16, 3)), (46, (.lload 4, 2)), (48, (.lload 6, 2)), (50, (.lcmp, 1)), (51, (.ifCond .ne 12, 3)), (54, (.iload_n 1, 1)), (55, (.iload_n 2, 1)), (56, (.if_icmp .ge 7, 3)), (59, (.iconst 1, 1)), (60, (.goto 4, 3)), (63, (.iconst 0, 1)), (64, (.ireturn, 1))]
def mX7_isWorse : hM := (RX7, yX7_isWorse, cX7_isWorse, 8, (some .boolean), tX7_isWorse)
theorem miX7_isWorse : h_MI mX7_isWorse 3 := ⟨List.mem_of_getElem? (i := 1023) (by decide +kernel), by decide +kernel, rfl, ⟨by decide +kernel, by decide +kernel, by decide +kernel⟩, by decide +kernel⟩
def tX7_pay : List (Nat × (Instr × Nat)) := [(0, (.iload_n 1, 1)), (1, (.invokestatic 149, 3)), (4, (.ifCond .ne 5, 3)), (7, (.iconst (-1), 1)), (8, (.ireturn, 1)), (9, (.iload_n 2, 1)), (10, (.iconst 1, 1)), (11, (.ldc 228, 2)), (13, (.invokestatic 138, 3)), (16, (.ifCond .ne 6, 3)), (19, (.bipush (-2), 2)), (21, (.ireturn, 1)), (22, (.iconst 0, 1)), (23, (.istore_n 3, 1)), (24, (.lconst 0, 1)), (25, (.lstore 4, 2)), (27, (.iconst 0, 1)), (28, (.istore 6, 2)), (30, (.iload 6, 2)), (32, (.aload_n 0, 1)), (33, (.getfield 142, 3)), (36, (.if_icmp .ge 114, 3)), (39, (.aload_n 0, 1)), (40, (.iload 6, 2)), (42, (.iload_n 1, 1)), (43, (.invokevirtual 229, 3)), (46, (.ifCond .eq 98, 3)), (49, (.aload_n 0, 1)), (50, (.iload 6, 2)), (52, (.iload_n 1, 1)), (53, (.aload_n 0, 1)), (54, (.getfield 167, 3)), (57, (.invokevirtual 218, 3)), (60, (.ifCond .ne 6, 3)), (63, (.goto 81, 3)), (66, (.iload_n 3, 1)), (67, (.istore 7, 2)), (69, (.iload 7, 2)), (71, (.ifCond .le 44, 3)), (74, (.aload_n 0, 1)), (75, (.iload 6, 2)), (77, (.aload_n 0, 1)), (78, (.getfield 79, 3)), (81, (.iload 7, 2)), (83, (.iconst 1, 1)), (84, (.isub, 1)), (85, (.iaload, 1)), (86, (.iload_n 1, 1)), (87, (.invokevirtual 232, 3)), (90, (.ifCond .eq 25, 3)), (93, (.aload_n 0, 1)), (94, (.getfield 79, 3)), (97, (.iload 7, 2)), (99, (.aload_n 0, 1)), (100, (.getfield 79, 3)), (103, (.iload 7, 2)), (105, (.iconst 1, 1)), (106, (.isub, 1)), (107, (.iaload, 1)), (108, (.iastore, 1)), (109, (.iinc 7 (-1), 3)), (112, (.goto (-43), 3)), (115, (.aload_n 0, 1)), (116, (.getfield 79, 3)), (119, (.iload 7, 2)), (121, (.iload 6, 2)), (123, (.iastore, 1)), (124, (.iinc 3 1, 3)), (127, (.lload 4, 2)), (129, (.aload_n 0, 1)), (130, (.iload 6, 2)), (132, (.iload_n 1, 1)), (133, (.aload_n 0, 1)), (134, (.getfield 167, 3)), (137, (.invokevirtual 218, 3)), (140, (.i2l, 1)), (141, (.ladd, 1)), (142, (.lstore 4, 2)), (144, (.iinc 6 1, 3)), (147, (.goto (-117), 3)), (150, (.lload 4, 2)), (152, (.iload_n 2, 1)), (153, (.i2l, 1)), (154, (.lcmp, 1)), (155, (.ifCond .ge 6, 3)), (158, (.bipush (-3), 2)), (160, (.ireturn, 1)), (161, (.lconst 0, 1)), (162, (.lstore 6, 2)), (164, (.aload_n 0, 1)), (165, (.iconst 0, 1)), (166, (.putfield 235, 3)), (169, (.lload 6, 2)), (171, (.iload_n 2, 1)), (172, (.i2l, 1)), (173, (.lcmp, 1)), (174, (.ifCond .ge 55, 3)), (177, (.aload_n 0, 1)), (178, (.getfield 79, 3)), (181, (.aload_n 0, 1)), (182, (.getfield 235, 3)), (185, (.iaload, 1)), (186, (.istore 8, 2)), (188, (.lload 6, 2)), (190, (.aload_n 0, 1)), (191, (.iload 8, 2)), (193, (.iload_n 1, 1)), (194, (.aload_n 0, 1)), (195, (.getfield 167, 3)), (198, (.invokevirtual 218, 3)), (201, (.i2l, 1)), (202, (.ladd, 1)), (203, (.lstore 6, 2)), (205, (.aload_n 0, 1)), (206, (.getfield 76, 3)), (209, (.aload_n 0, 1)), (210, (.getfield 235, 3)), (213, (.iload 8, 2)), (215, (.iastore, 1)), (216, (.aload_n 0, 1)), (217, (.dup, 1)), (218, (.getfield 235, 3)), (221, (.iconst 1, 1)), (222, (.iadd, 1)), (223, (.putfield 235, 3)), (226, (.goto (-57), 3)), (229, (.iconst 0, 1)), (230, (.istore 8, 2)), (232, (.iload 8, 2)), (234, (.aload_n 0, 1)), (235, (.getfield 235, 3)), (238, (.if_icmp .ge 22, 3)), (241, (.aload_n 0, 1)), (242, (.getfield 50, 3)), (245, (.aload_n 0, 1)), (246, (.getfield 76, 3)), (249, (.iload 8, 2)), (251, (.iaload, 1)), (252, (.iconst 1, 1)), (253, (.bastore, 1)), (254, (.iinc 8 1, 3)), (257, (.goto (-25), 3)), (260, (.aload_n 0, 1)), (261, (.getfield 72, 3)), (264, (.iload_n 1, 1)), (265, (.dup2, 1)), (266, (.laload, 1)), (267, (.lload 6, 2)), (269, (.iload_n 2, 1)), (270, (.i2l, 1)), (271, (.lsub, 1)), (272, (.ladd, 1)), (273, (.lastore, 1)), (274, (.aload_n 0, 1)), (275, (.getfield 235, 3)), (278, (.ireturn, 1))]
def mX7_pay : hM := (RX7, yX7_pay, cX7_pay, 9, (some .int), tX7_pay)
theorem miX7_pay : h_MI mX7_pay 2 := ⟨List.mem_of_getElem? (i := 1014) (by decide +kernel), by decide +kernel, rfl, ⟨by decide +kernel, by decide +kernel, by decide +kernel⟩, by decide +kernel⟩
def tX7_paid : List (Nat × (Instr × Nat)) := [(0, (.iload_n 1, 1)), (1, (.iconst 0, 1)), (2, (.aload_n 0, 1)), (3, (.getfield 235, 3)), (6, (.iconst 1, 1)), (7, (.isub, 1)), (8, (.invokestatic 138, 3)), (11, (.ifCond .eq 12, 3)), (14, (.aload_n 0, 1)), (15, (.getfield 76, 3)), (18, (.iload_n 1, 1)), (19, (.iaload, 1)), (20, (.goto 4, 3)), (23, (.iconst (-1), 1)), (24, (.ireturn, 1))]
def mX7_paid : hM := (RX7, yX7_paid, cX7_paid, 2, (some .int), tX7_paid)
theorem miX7_paid : h_MI mX7_paid 1 := ⟨List.mem_of_getElem? (i := 1027) (by decide +kernel), by decide +kernel, rfl, ⟨by decide +kernel, by decide +kernel, by decide +kernel⟩, by decide +kernel⟩
def tX7_credit : List (Nat × (Instr × Nat)) := [(0, (.iload_n 1, 1)), (1, (.invokestatic 149, 3)), (4, (.ifCond .eq 12, 3)), (7, (.aload_n 0, 1)), (8, (.getfield 72, 3)), (11, (.iload_n 1, 1)), (12, (.laload, 1)), (13, (.goto 6, 3)), (16, (.ldc2_w 177, 3)), (19, (.lreturn, 1))]
def mX7_credit : hM := (RX7, yX7_credit, cX7_credit, 2, (some .long), tX7_credit)
theorem miX7_credit : h_MI mX7_credit 1 := ⟨List.mem_of_getElem? (i := 1031) (by decide +kernel), by decide +kernel, rfl, ⟨by decide +kernel, by decide +kernel, by decide +kernel⟩, by decide +kernel⟩
def tX7_give : List (Nat × (Instr × Nat)) := [(0, (.iload_n 1, 1)), (1, (.invokestatic 149, 3)), (4, (.ifCond .ne 5, 3)), (7, (.iconst (-1), 1)), (8, (.ireturn, 1)), (9, (.iconst 0, 1)), (10, (.istore_n 2, 1)), (11, (.iconst 0, 1)), (12, (.istore_n 3, 1)), (13, (.iload_n 3, 1)), (14, (.aload_n 0, 1)), (15, (.getfield 142, 3)), (18, (.if_icmp .ge 41, 3)), (21, (.aload_n 0, 1)), (22, (.getfield 50, 3)), (25, (.iload_n 3, 1)), (26, (.baload, 1)), (27, (.ifCond .eq 26, 3)), (30, (.aload_n 0, 1)), (31, (.getfield 37, 3)), (34, (.iload_n 3, 1)), (35, (.iaload, 1)), (36, (.iload_n 1, 1)), (37, (.if_icmp .eq 6, 3)), (40, (.goto 13, 3)), (43, (.aload_n 0, 1)), (44, (.getfield 50, 3)), (47, (.iload_n 3, 1)), (48, (.iconst 0, 1)), (49, (.bastore, 1)), (50, (.iinc 2 1, 3)), (53, (.iinc 3 1, 3)), (56, (.goto (-43), 3)), (59, (.iload_n 2, 1)), (60, (.ireturn, 1))]
def mX7_give : hM := (RX7, yX7_give, cX7_give, 4, (some .int), tX7_give)
theorem miX7_give : h_MI mX7_give 1 := ⟨List.mem_of_getElem? (i := 1035) (by decide +kernel), by decide +kernel, rfl, ⟨by decide +kernel, by decide +kernel, by decide +kernel⟩, by decide +kernel⟩
def tX7_lack : List (Nat × (Instr × Nat)) := [(0, (.iload_n 1, 1)), (1, (.invokestatic 149, 3)), (4, (.ifCond .ne 5, 3)), (7, (.iconst (-1), 1)), (8, (.ireturn, 1)), (9, (.iload_n 2, 1)), (10, (.iconst 0, 1)), (11, (.ldc 100, 2)), (13, (.invokestatic 138, 3)), (16, (.ifCond .ne 6, 3)), (19, (.bipush (-2), 2)), (21, (.ireturn, 1)), (22, (.iload_n 2, 1)), (23, (.i2l, 1)), (24, (.lstore_n 3, 1)), (25, (.iconst 0, 1)), (26, (.istore 5, 2)), (28, (.iload 5, 2)), (30, (.aload_n 0, 1)), (31, (.getfield 142, 3)), (34, (.if_icmp .ge 38, 3)), (37, (.lload_n 3, 1)), (38, (.aload_n 0, 1)), (39, (.iload 5, 2)), (41, (.iload_n 1, 1)), (42, (.invokevirtual 229, 3)), (45, (.ifCond .eq 18, 3)), (48, (.aload_n 0, 1)), (49, (.iload 5, 2)), (51, (.iload_n 1, 1)), (52, (.aload_n 0, 1)), (53, (.getfield 167, 3)), (56, (.invokevirtual 218, 3)), (59, (.i2l, 1)), (60, (.goto 4, 3)), (63, (.lconst 0, 1)), (64, (.lsub, 1)), (65, (.lstore_n 3, 1)), (66, (.iinc 5 1, 3)), (69, (.goto (-41), 3)), (72, (.lload_n 3, 1)), (73, (.lconst 0, 1)), (74, (.lcmp, 1)), (75, (.ifCond .ge 7, 3)), (78, (.iconst 0, 1)), (79, (.goto 5, 3)), (82, (.lload_n 3, 1)), (83, (.l2i, 1)), (84, (.ireturn, 1))]
def mX7_lack : hM := (RX7, yX7_lack, cX7_lack, 6, (some .int), tX7_lack)
theorem miX7_lack : h_MI mX7_lack 2 := ⟨List.mem_of_getElem? (i := 1039) (by decide +kernel), by decide +kernel, rfl, ⟨by decide +kernel, by decide +kernel, by decide +kernel⟩, by decide +kernel⟩
def tX7_road : List (Nat × (Instr × Nat)) := [(0, (.iload_n 1, 1)), (1, (.invokestatic 149, 3)), (4, (.ifCond .eq 10, 3)), (7, (.iload_n 2, 1)), (8, (.invokestatic 238, 3)), (11, (.ifCond .ne 5, 3)), (14, (.iconst (-1), 1)), (15, (.ireturn, 1)), (16, (.iload_n 3, 1)), (17, (.iconst 1, 1)), (18, (.bipush 30, 2)), (20, (.invokestatic 138, 3)), (23, (.ifCond .ne 6, 3)), (26, (.bipush (-2), 2)), (28, (.ireturn, 1)), (29, (.aload_n 0, 1)), (30, (.getfield 82, 3)), (33, (.iconst 3, 1)), (34, (.iload_n 1, 1)), (35, (.imul, 1)), (36, (.iload_n 2, 1)), (37, (.iadd, 1)), (38, (.iaload, 1)), (39, (.istore 4, 2)), (41, (.aload_n 0, 1)), (42, (.getfield 82, 3)), (45, (.iconst 3, 1)), (46, (.iload_n 1, 1)), (47, (.imul, 1)), (48, (.iload_n 2, 1)), (49, (.iadd, 1)), (50, (.iload_n 3, 1)), (51, (.iastore, 1)), (52, (.iload 4, 2)), (54, (.ireturn, 1))]
def mX7_road : hM := (RX7, yX7_road, cX7_road, 5, (some .int), tX7_road)
theorem miX7_road : h_MI mX7_road 3 := ⟨List.mem_of_getElem? (i := 1043) (by decide +kernel), by decide +kernel, rfl, ⟨by decide +kernel, by decide +kernel, by decide +kernel⟩, by decide +kernel⟩
def tX7_send : List (Nat × (Instr × Nat)) := [(0, (.aload_n 0, 1)), (1, (.iload_n 1, 1)), (2, (.invokevirtual 160, 3)), (5, (.ifCond .eq 10, 3)), (8, (.iload_n 2, 1)), (9, (.invokestatic 238, 3)), (12, (.ifCond .ne 5, 3)), (15, (.iconst (-1), 1)), (16, (.ireturn, 1)), (17, (.aload_n 0, 1)), (18, (.getfield 37, 3)), (21, (.iload_n 1, 1)), (22, (.iaload, 1)), (23, (.ifCond .lt 29, 3)), (26, (.aload_n 0, 1)), (27, (.iload_n 1, 1)), (28, (.invokevirtual 170, 3)), (31, (.ifCond .ne 21, 3)), (34, (.aload_n 0, 1)), (35, (.getfield 46, 3)), (38, (.iload_n 1, 1)), (39, (.baload, 1)), (40, (.ifCond .ne 12, 3)), (43, (.aload_n 0, 1)), (44, (.getfield 50, 3)), (47, (.iload_n 1, 1)), (48, (.baload, 1)), (49, (.ifCond .eq 6, 3)), (52, (.bipush (-3), 2)), (54, (.ireturn, 1)), (55, (.aload_n 0, 1)), (56, (.getfield 43, 3)), (59, (.iload_n 1, 1)), (60, (.aload_n 0, 1)), (61, (.getfield 167, 3)), (64, (.aload_n 0, 1)), (65, (.getfield 82, 3)), (68, (.iconst 3, 1)), (69, (.aload_n 0, 1)), (70, (.getfield 37, 3)), (73, (.iload_n 1, 1)), (74, (.iaload, 1)), (75, (.imul, 1)), (76, (.iload_n 2, 1)), (77, (.iadd, 1)), (78, (.iaload, 1)), (79, (.iadd, 1)), (80, (.iastore, 1)), (81, (.aload_n 0, 1)), (82, (.getfield 37, 3)), (85, (.iload_n 1, 1)), (86, (.iconst (-1), 1)), (87, (.iastore, 1)), (88, (.aload_n 0, 1)), (89, (.getfield 40, 3)), (92, (.iload_n 1, 1)), (93, (.iload_n 2, 1)), (94, (.iastore, 1)), (95, (.aload_n 0, 1)), (96, (.getfield 43, 3)), (99, (.iload_n 1, 1)), (100, (.iaload, 1)), (101, (.ireturn, 1))]
def mX7_send : hM := (RX7, yX7_send, cX7_send, 3, (some .int), tX7_send)
theorem miX7_send : h_MI mX7_send 2 := ⟨List.mem_of_getElem? (i := 1050) (by decide +kernel), by decide +kernel, rfl, ⟨by decide +kernel, by decide +kernel, by decide +kernel⟩, by decide +kernel⟩
def tX7_isAtMint : List (Nat × (Instr × Nat)) := [(0, (.aload_n 0, 1)), (1, (.getfield 40, 3)), (4, (.iload_n 1, 1)), (5, (.iaload, 1)), (6, (.ifCond .lt 24, 3)), (9, (.aload_n 0, 1)), (10, (.iload_n 1, 1)), (11, (.invokevirtual 170, 3)), (14, (.ifCond .ne 16, 3)), (17, (.aload_n 0, 1)), (18, (.getfield 46, 3)), (21, (.iload_n 1, 1)), (22, (.baload, 1)), (23, (.ifCond .ne 7, 3)), (26, (.iconst 1, 1)), (27, (.goto 4, 3)), (30, (.iconst 0, 1)), (31, (.ireturn, 1))]
def mX7_isAtMint : hM := (RX7, yX7_isAtMint, cX7_isAtMint, 2, (some .boolean), tX7_isAtMint)
theorem miX7_isAtMint : h_MI mX7_isAtMint 1 := ⟨List.mem_of_getElem? (i := 1058) (by decide +kernel), by decide +kernel, rfl, ⟨by decide +kernel, by decide +kernel, by decide +kernel⟩, by decide +kernel⟩
def tX7_bring : List (Nat × (Instr × Nat)) := [(0, (.aload_n 0, 1)), (1, (.iload_n 1, 1)), (2, (.invokevirtual 160, 3)), (5, (.ifCond .eq 10, 3)), (8, (.iload_n 2, 1)), (9, (.invokestatic 149, 3)), (12, (.ifCond .ne 5, 3)), (15, (.iconst (-1), 1)), (16, (.ireturn, 1)), (17, (.aload_n 0, 1)), (18, (.iload_n 1, 1)), (19, (.invokevirtual 241, 3)), (22, (.ifCond .ne 6, 3)), (25, (.bipush (-3), 2)), (27, (.ireturn, 1)), (28, (.aload_n 0, 1)), (29, (.getfield 43, 3)), (32, (.iload_n 1, 1)), (33, (.aload_n 0, 1)), (34, (.getfield 167, 3)), (37, (.aload_n 0, 1)), (38, (.getfield 82, 3)), (41, (.iconst 3, 1)), (42, (.iload_n 2, 1)), (43, (.imul, 1)), (44, (.aload_n 0, 1)), (45, (.getfield 40, 3)), (48, (.iload_n 1, 1)), (49, (.iaload, 1)), (50, (.iadd, 1)), (51, (.iaload, 1)), (52, (.iadd, 1)), (53, (.iastore, 1)), (54, (.aload_n 0, 1)), (55, (.getfield 40, 3)), (58, (.iload_n 1, 1)), (59, (.iconst (-1), 1)), (60, (.iastore, 1)), (61, (.aload_n 0, 1)), (62, (.getfield 37, 3)), (65, (.iload_n 1, 1)), (66, (.iload_n 2, 1)), (67, (.iastore, 1)), (68, (.aload_n 0, 1)), (69, (.getfield 43, 3)), (72, (.iload_n 1, 1)), (73, (.iaload, 1)), (74, (.ireturn, 1))]
def mX7_bring : hM := (RX7, yX7_bring, cX7_bring, 3, (some .int), tX7_bring)
theorem miX7_bring : h_MI mX7_bring 2 := ⟨List.mem_of_getElem? (i := 1054) (by decide +kernel), by decide +kernel, rfl, ⟨by decide +kernel, by decide +kernel, by decide +kernel⟩, by decide +kernel⟩
def tX7_meltedToday : List (Nat × (Instr × Nat)) := [(0, (.aload_n 0, 1)), (1, (.getfield 107, 3)), (4, (.iload_n 1, 1)), (5, (.iaload, 1)), (6, (.aload_n 0, 1)), (7, (.getfield 167, 3)), (10, (.if_icmp .ne 12, 3)), (13, (.aload_n 0, 1)), (14, (.getfield 104, 3)), (17, (.iload_n 1, 1)), (18, (.iaload, 1)), (19, (.goto 4, 3)), (22, (.iconst 0, 1)), (23, (.ireturn, 1))]
def mX7_meltedToday : hM := (RX7, yX7_meltedToday, cX7_meltedToday, 2, (some .int), tX7_meltedToday)
theorem miX7_meltedToday : h_MI mX7_meltedToday 1 := ⟨List.mem_of_getElem? (i := 1066) (by decide +kernel), by decide +kernel, rfl, ⟨by decide +kernel, by decide +kernel, by decide +kernel⟩, by decide +kernel⟩
def tX7_melt : List (Nat × (Instr × Nat)) := [(0, (.aload_n 0, 1)), (1, (.iload_n 1, 1)), (2, (.invokevirtual 160, 3)), (5, (.ifCond .ne 5, 3)), (8, (.iconst (-1), 1)), (9, (.ireturn, 1)), (10, (.aload_n 0, 1)), (11, (.iload_n 1, 1)), (12, (.invokevirtual 241, 3)), (15, (.ifCond .ne 6, 3)), (18, (.bipush (-3), 2)), (20, (.ireturn, 1)), (21, (.aload_n 0, 1)), (22, (.getfield 22, 3)), (25, (.iload_n 1, 1)), (26, (.iaload, 1)), (27, (.iconst 5, 1)), (28, (.if_icmp .ne 66, 3)), (31, (.iconst 0, 1)), (32, (.istore_n 2, 1)), (33, (.iload_n 2, 1)), (34, (.aload_n 0, 1)), (35, (.getfield 142, 3)), (38, (.if_icmp .ge 54, 3)), (41, (.aload_n 0, 1)), (42, (.getfield 53, 3)), (45, (.iload_n 2, 1)), (46, (.aload_n 0, 1)), (47, (.getfield 53, 3)), (50, (.iload_n 2, 1)), (51, (.baload, 1)), (52, (.ifCond .ne 28, 3)), (55, (.aload_n 0, 1)), (56, (.getfield 22, 3)), (59, (.iload_n 2, 1)), (60, (.iaload, 1)), (61, (.iconst 5, 1)), (62, (.if_icmp .ne 22, 3)), (65, (.aload_n 0, 1)), (66, (.getfield 25, 3)), (69, (.iload_n 2, 1)), (70, (.iaload, 1)), (71, (.aload_n 0, 1)), (72, (.getfield 25, 3)), (75, (.iload_n 1, 1)), (76, (.iaload, 1)), (77, (.if_icmp .ne 7, 3)), (80, (.iconst 1, 1)), (81, (.goto 4, 3)), (84, (.iconst 0, 1)), (85, (.bastore, 1)), (86, (.iinc 2 1, 3)), (89, (.goto (-56), 3)), (92, (.iconst 0, 1)), (93, (.ireturn, 1)), (94, (.aload_n 0, 1)), (95, (.getfield 40, 3)), (98, (.iload_n 1, 1)), (99, (.iaload, 1)), (100, (.istore_n 2, 1)), (101, (.aload_n 0, 1)), (102, (.iload_n 2, 1)), (103, (.invokevirtual 244, 3)), (106, (.aload_n 0, 1)), (107, (.getfield 31, 3)), (110, (.iload_n 1, 1)), (111, (.iaload, 1)), (112, (.iadd, 1)), (113, (.aload_n 0, 1)), (114, (.getfield 101, 3)), (117, (.iload_n 2, 1)), (118, (.iaload, 1)), (119, (.if_icmp .le 6, 3)), (122, (.bipush (-4), 2)), (124, (.ireturn, 1)), (125, (.aload_n 0, 1)), (126, (.getfield 104, 3)), (129, (.iload_n 2, 1)), (130, (.aload_n 0, 1)), (131, (.iload_n 2, 1)), (132, (.invokevirtual 244, 3)), (135, (.aload_n 0, 1)), (136, (.getfield 31, 3)), (139, (.iload_n 1, 1)), (140, (.iaload, 1)), (141, (.iadd, 1)), (142, (.iastore, 1)), (143, (.aload_n 0, 1)), (144, (.getfield 107, 3)), (147, (.iload_n 2, 1)), (148, (.aload_n 0, 1)), (149, (.getfield 167, 3)), (152, (.iastore, 1)), (153, (.aload_n 0, 1)), (154, (.getfield 85, 3)), (157, (.iload_n 2, 1)), (158, (.dup2, 1)), (159, (.laload, 1)), (160, (.aload_n 0, 1)), (161, (.getfield 31, 3)), (164, (.iload_n 1, 1)), (165, (.iaload, 1)), (166, (.i2l, 1)), (167, (.ladd, 1)), (168, (.lastore, 1)), (169, (.aload_n 0, 1)), (170, (.getfield 88, 3)), (173, (.iload_n 2, 1)), (174, (.dup2, 1)), (175, (.laload, 1)), (176, (.aload_n 0, 1)), (177, (.iload_n 1, 1)), (178, (.invokevirtual 173, 3)), (181, (.ladd, 1)), (182, (.lastore, 1)), (183, (.aload_n 0, 1)), (184, (.getfield 91, 3)), (187, (.iload_n 2, 1)), (188, (.iconst 0, 1)), (189, (.bastore, 1)), (190, (.aload_n 0, 1)), (191, (.getfield 46, 3)), (194, (.iload_n 1, 1)), (195, (.iconst 1, 1)), (196, (.bastore, 1)), (197, (.iconst 1, 1)), (198, (.ireturn, 1))]
def mX7_melt : hM := (RX7, yX7_melt, cX7_melt, 3, (some .int), tX7_melt)
theorem miX7_melt : h_MI mX7_melt 1 := ⟨List.mem_of_getElem? (i := 1062) (by decide +kernel), by decide +kernel, rfl, ⟨by decide +kernel, by decide +kernel, by decide +kernel⟩, by decide +kernel⟩
def tX7_furnace : List (Nat × (Instr × Nat)) := [(0, (.iload_n 1, 1)), (1, (.invokestatic 238, 3)), (4, (.ifCond .ne 5, 3)), (7, (.iconst (-1), 1)), (8, (.ireturn, 1)), (9, (.iload_n 2, 1)), (10, (.iconst 1, 1)), (11, (.ldc 228, 2)), (13, (.invokestatic 138, 3)), (16, (.ifCond .ne 6, 3)), (19, (.bipush (-2), 2)), (21, (.ireturn, 1)), (22, (.aload_n 0, 1)), (23, (.getfield 101, 3)), (26, (.iload_n 1, 1)), (27, (.iaload, 1)), (28, (.istore_n 3, 1)), (29, (.aload_n 0, 1)), (30, (.getfield 101, 3)), (33, (.iload_n 1, 1)), (34, (.iload_n 2, 1)), (35, (.iastore, 1)), (36, (.iload_n 3, 1)), (37, (.ireturn, 1))]
def mX7_furnace : hM := (RX7, yX7_furnace, cX7_furnace, 4, (some .int), tX7_furnace)
theorem miX7_furnace : h_MI mX7_furnace 2 := ⟨List.mem_of_getElem? (i := 1070) (by decide +kernel), by decide +kernel, rfl, ⟨by decide +kernel, by decide +kernel, by decide +kernel⟩, by decide +kernel⟩
def tX7_refine : List (Nat × (Instr × Nat)) := [(0, (.iload_n 1, 1)), (1, (.invokestatic 238, 3)), (4, (.ifCond .ne 5, 3)), (7, (.iconst (-1), 1)), (8, (.ireturn, 1)), (9, (.aload_n 0, 1)), (10, (.getfield 85, 3)), (13, (.iload_n 1, 1)), (14, (.laload, 1)), (15, (.lconst 0, 1)), (16, (.lcmp, 1)), (17, (.ifCond .ne 6, 3)), (20, (.bipush (-3), 2)), (22, (.ireturn, 1)), (23, (.ldc2_w 247, 3)), (26, (.aload_n 0, 1)), (27, (.getfield 85, 3)), (30, (.iload_n 1, 1)), (31, (.laload, 1)), (32, (.lmul, 1)), (33, (.aload_n 0, 1)), (34, (.getfield 88, 3)), (37, (.iload_n 1, 1)), (38, (.laload, 1)), (39, (.lsub, 1)), (40, (.lstore_n 2, 1)), (41, (.lload_n 2, 1)), (42, (.lconst 0, 1)), (43, (.lcmp, 1)), (44, (.ifCond .gt 25, 3)), (47, (.lload_n 2, 1)), (48, (.lneg, 1)), (49, (.ldc2_w 247, 3)), (52, (.ldiv, 1)), (53, (.lstore 4, 2)), (55, (.aload_n 0, 1)), (56, (.getfield 94, 3)), (59, (.iload_n 1, 1)), (60, (.dup2, 1)), (61, (.laload, 1)), (62, (.lload 4, 2)), (64, (.ladd, 1)), (65, (.lastore, 1)), (66, (.goto 46, 3)), (69, (.lload_n 2, 1)), (70, (.ldc2_w 249, 3)), (73, (.ladd, 1)), (74, (.ldc2_w 247, 3)), (77, (.lsub, 1)), (78, (.lconst 1, 1)), (79, (.lsub, 1)), (80, (.ldc2_w 251, 3)), (83, (.ldiv, 1)), (84, (.lstore 4, 2)), (86, (.aload_n 0, 1)), (87, (.getfield 97, 3)), (90, (.iload_n 1, 1)), (91, (.dup2, 1)), (92, (.laload, 1)), (93, (.lload 4, 2)), (95, (.ladd, 1)), (96, (.lastore, 1)), (97, (.aload_n 0, 1)), (98, (.getfield 88, 3)), (101, (.iload_n 1, 1)), (102, (.dup2, 1)), (103, (.laload, 1)), (104, (.ldc2_w 249, 3)), (107, (.lload 4, 2)), (109, (.lmul, 1)), (110, (.ladd, 1)), (111, (.lastore, 1)), (112, (.aload_n 0, 1)), (113, (.getfield 85, 3)), (116, (.iload_n 1, 1)), (117, (.dup2, 1)), (118, (.laload, 1)), (119, (.lload 4, 2)), (121, (.ladd, 1)), (122, (.lastore, 1)), (123, (.aload_n 0, 1)), (124, (.dup, 1)), (125, (.getfield 253, 3)), (128, (.aload_n 0, 1)), (129, (.getfield 88, 3)), (132, (.iload_n 1, 1)), (133, (.laload, 1)), (134, (.ldc2_w 247, 3)), (137, (.aload_n 0, 1)), (138, (.getfield 85, 3)), (141, (.iload_n 1, 1)), (142, (.laload, 1)), (143, (.lmul, 1)), (144, (.lsub, 1)), (145, (.ladd, 1)), (146, (.putfield 253, 3)), (149, (.aload_n 0, 1)), (150, (.getfield 88, 3)), (153, (.iload_n 1, 1)), (154, (.ldc2_w 247, 3)), (157, (.aload_n 0, 1)), (158, (.getfield 85, 3)), (161, (.iload_n 1, 1)), (162, (.laload, 1)), (163, (.lmul, 1)), (164, (.lastore, 1)), (165, (.aload_n 0, 1)), (166, (.getfield 91, 3)), (169, (.iload_n 1, 1)), (170, (.iconst 1, 1)), (171, (.bastore, 1)), (172, (.lload 4, 2)), (174, (.l2i, 1)), (175, (.ireturn, 1))]
def mX7_refine : hM := (RX7, yX7_refine, cX7_refine, 6, (some .int), tX7_refine)
theorem miX7_refine : h_MI mX7_refine 1 := ⟨List.mem_of_getElem? (i := 1074) (by decide +kernel), by decide +kernel, rfl, ⟨by decide +kernel, by decide +kernel, by decide +kernel⟩, by decide +kernel⟩
def tX7_strike : List (Nat × (Instr × Nat)) := [(0, (.iload_n 1, 1)), (1, (.invokestatic 238, 3)), (4, (.ifCond .eq 11, 3)), (7, (.aload_n 0, 1)), (8, (.iload_n 2, 1)), (9, (.invokevirtual 145, 3)), (12, (.ifCond .ne 5, 3)), (15, (.iconst (-1), 1)), (16, (.ireturn, 1)), (17, (.iload_n 3, 1)), (18, (.iconst 1, 1)), (19, (.sipush 1000, 3)), (22, (.invokestatic 138, 3)), (25, (.ifCond .eq 15, 3)), (28, (.aload_n 0, 1)), (29, (.getfield 16, 3)), (32, (.iload_n 2, 1)), (33, (.iaload, 1)), (34, (.sipush 925, 3)), (37, (.if_icmp .eq 6, 3)), (40, (.bipush (-2), 2)), (42, (.ireturn, 1)), (43, (.iload_n 3, 1)), (44, (.aload_n 0, 1)), (45, (.getfield 13, 3)), (48, (.iload_n 2, 1)), (49, (.iaload, 1)), (50, (.imul, 1)), (51, (.istore 4, 2)), (53, (.aload_n 0, 1)), (54, (.getfield 91, 3)), (57, (.iload_n 1, 1)), (58, (.baload, 1)), (59, (.ifCond .eq 16, 3)), (62, (.aload_n 0, 1)), (63, (.getfield 85, 3)), (66, (.iload_n 1, 1)), (67, (.laload, 1)), (68, (.iload 4, 2)), (70, (.i2l, 1)), (71, (.lcmp, 1)), (72, (.ifCond .ge 6, 3)), (75, (.bipush (-3), 2)), (77, (.ireturn, 1)), (78, (.aload_n 0, 1)), (79, (.getfield 142, 3)), (82, (.bipush 30, 2)), (84, (.if_icmp .ne 6, 3)), (87, (.bipush (-4), 2)), (89, (.ireturn, 1)), (90, (.aload_n 0, 1)), (91, (.getfield 85, 3)), (94, (.iload_n 1, 1)), (95, (.dup2, 1)), (96, (.laload, 1)), (97, (.iload 4, 2)), (99, (.i2l, 1)), (100, (.lsub, 1)), (101, (.lastore, 1)), (102, (.aload_n 0, 1)), (103, (.getfield 88, 3)), (106, (.iload_n 1, 1)), (107, (.dup2, 1)), (108, (.laload, 1)), (109, (.ldc2_w 247, 3)), (112, (.iload 4, 2)), (114, (.i2l, 1)), (115, (.lmul, 1)), (116, (.lsub, 1)), (117, (.lastore, 1)), (118, (.aload_n 0, 1)), (119, (.iconst 4, 1)), (120, (.iload_n 2, 1)), (121, (.iload_n 3, 1)), (122, (.iload 4, 2)), (124, (.iconst 0, 1)), (125, (.iconst (-1), 1)), (126, (.iload_n 1, 1)), (127, (.invokevirtual 156, 3)), (130, (.ireturn, 1))]
def mX7_strike : hM := (RX7, yX7_strike, cX7_strike, 5, (some .int), tX7_strike)
theorem miX7_strike : h_MI mX7_strike 3 := ⟨List.mem_of_getElem? (i := 1081) (by decide +kernel), by decide +kernel, rfl, ⟨by decide +kernel, by decide +kernel, by decide +kernel⟩, by decide +kernel⟩
def tX7_mint : List (Nat × (Instr × Nat)) := [(0, (.iload_n 1, 1)), (1, (.invokestatic 238, 3)), (4, (.ifCond .ne 7, 3)), (7, (.ldc2_w 177, 3)), (10, (.lreturn, 1)), (11, (.iload_n 2, 1)), (12, (.tableswitch 90 0 5 #[40, 47, 54, 69, 76, 83], 40)), (52, (.aload_n 0, 1)), (53, (.getfield 85, 3)), (56, (.iload_n 1, 1)), (57, (.laload, 1)), (58, (.lreturn, 1)), (59, (.aload_n 0, 1)), (60, (.getfield 88, 3)), (63, (.iload_n 1, 1)), (64, (.laload, 1)), (65, (.lreturn, 1)), (66, (.aload_n 0, 1)), (67, (.getfield 91, 3)), (70, (.iload_n 1, 1)), (71, (.baload, 1)), (72, (.ifCond .eq 7, 3)), (75, (.lconst 1, 1)), (76, (.goto 4, 3)), (79, (.lconst 0, 1)), (80, (.lreturn, 1)), (81, (.aload_n 0, 1)), (82, (.getfield 94, 3)), (85, (.iload_n 1, 1)), (86, (.laload, 1)), (87, (.lreturn, 1)), (88, (.aload_n 0, 1)), (89, (.getfield 97, 3)), (92, (.iload_n 1, 1)), (93, (.laload, 1)), (94, (.lreturn, 1)), (95, (.aload_n 0, 1)), (96, (.iload_n 1, 1)), (97, (.invokevirtual 244, 3)), (100, (.i2l, 1)), (101, (.lreturn, 1)), (102, (.ldc2_w 177, 3)), (105, (.lreturn, 1))]
def mX7_mint : hM := (RX7, yX7_mint, cX7_mint, 3, (some .long), tX7_mint)
theorem miX7_mint : h_MI mX7_mint 2 := ⟨List.mem_of_getElem? (i := 1085) (by decide +kernel), by decide +kernel, rfl, ⟨by decide +kernel, by decide +kernel, by decide +kernel⟩, by decide +kernel⟩
def tX7_all : List (Nat × (Instr × Nat)) := [(0, (.aload_n 0, 1)), (1, (.getfield 253, 3)), (4, (.lstore_n 1, 1)), (5, (.iconst 0, 1)), (6, (.istore_n 3, 1)), (7, (.iload_n 3, 1)), (8, (.aload_n 0, 1)), (9, (.getfield 142, 3)), (12, (.if_icmp .ge 30, 3)), (15, (.lload_n 1, 1)), (16, (.aload_n 0, 1)), (17, (.getfield 46, 3)), (20, (.iload_n 3, 1)), (21, (.baload, 1)), (22, (.ifCond .eq 7, 3)), (25, (.lconst 0, 1)), (26, (.goto 8, 3)), (29, (.aload_n 0, 1)), (30, (.iload_n 3, 1)), (31, (.invokevirtual 173, 3)), (34, (.ladd, 1)), (35, (.lstore_n 1, 1)), (36, (.iinc 3 1, 3)), (39, (.goto (-32), 3)), (42, (.iconst 0, 1)), (43, (.istore_n 3, 1)), (44, (.iload_n 3, 1)), (45, (.iconst 3, 1)), (46, (.if_icmp .ge 29, 3)), (49, (.lload_n 1, 1)), (50, (.aload_n 0, 1)), (51, (.getfield 88, 3)), (54, (.iload_n 3, 1)), (55, (.laload, 1)), (56, (.ldc2_w 249, 3)), (59, (.aload_n 0, 1)), (60, (.getfield 97, 3)), (63, (.iload_n 3, 1)), (64, (.laload, 1)), (65, (.lmul, 1)), (66, (.lsub, 1)), (67, (.ladd, 1)), (68, (.lstore_n 1, 1)), (69, (.iinc 3 1, 3)), (72, (.goto (-28), 3)), (75, (.lload_n 1, 1)), (76, (.lreturn, 1))]
def mX7_all : hM := (RX7, yX7_all, cX7_all, 4, (some .long), tX7_all)
theorem miX7_all : h_MI mX7_all 0 := ⟨List.mem_of_getElem? (i := 1089) (by decide +kernel), by decide +kernel, rfl, ⟨by decide +kernel, by decide +kernel, by decide +kernel⟩, by decide +kernel⟩
def tX7_drawn : List (Nat × (Instr × Nat)) := [(0, (.aload_n 0, 1)), (1, (.iload_n 1, 1)), (2, (.invokevirtual 160, 3)), (5, (.ifCond .eq 13, 3)), (8, (.iload 4, 2)), (10, (.iconst 0, 1)), (11, (.iconst 1, 1)), (12, (.invokestatic 138, 3)), (15, (.ifCond .ne 5, 3)), (18, (.iconst (-1), 1)), (19, (.ireturn, 1)), (20, (.aload_n 0, 1)), (21, (.iload_n 1, 1)), (22, (.iload_n 2, 1)), (23, (.iload_n 3, 1)), (24, (.invokevirtual 225, 3)), (27, (.ifCond .ne 6, 3)), (30, (.bipush (-2), 2)), (32, (.ireturn, 1)), (33, (.iload_n 3, 1)), (34, (.aload_n 0, 1)), (35, (.getfield 28, 3)), (38, (.iload_n 1, 1)), (39, (.iaload, 1)), (40, (.iload_n 2, 1)), (41, (.isub, 1)), (42, (.iload 4, 2)), (44, (.ifCond .ne 11, 3)), (47, (.aload_n 0, 1)), (48, (.iload_n 1, 1)), (49, (.invokevirtual 222, 3)), (52, (.goto 14, 3)), (55, (.aload_n 0, 1)), (56, (.getfield 13, 3)), (59, (.aload_n 0, 1)), (60, (.getfield 25, 3)), (63, (.iload_n 1, 1)), (64, (.iaload, 1)), (65, (.iaload, 1)), (66, (.imul, 1)), (67, (.iadd, 1)), (68, (.ireturn, 1))]
def mX7_drawn : hM := (RX7, yX7_drawn, cX7_drawn, 5, (some .int), tX7_drawn)
theorem miX7_drawn : h_MI mX7_drawn 4 := ⟨List.mem_of_getElem? (i := 1093) (by decide +kernel), by decide +kernel, rfl, ⟨by decide +kernel, by decide +kernel, by decide +kernel⟩, by decide +kernel⟩
def tX7_wish : List (Nat × (Instr × Nat)) := [(0, (.iload_n 1, 1)), (1, (.iconst 0, 1)), (2, (.iconst 1, 1)), (3, (.invokestatic 138, 3)), (6, (.ifCond .eq 24, 3)), (9, (.iload_n 1, 1)), (10, (.ifCond .ne 13, 3)), (13, (.iload_n 2, 1)), (14, (.invokestatic 238, 3)), (17, (.ifCond .ne 15, 3)), (20, (.goto 10, 3)), (23, (.iload_n 2, 1)), (24, (.invokestatic 149, 3)), (27, (.ifCond .ne 5, 3)), (30, (.iconst (-1), 1)), (31, (.ireturn, 1)), (32, (.iload_n 3, 1)), (33, (.iconst 0, 1)), (34, (.sipush 1000, 3)), (37, (.invokestatic 138, 3)), (40, (.ifCond .ne 6, 3)), (43, (.bipush (-2), 2)), (45, (.ireturn, 1)), (46, (.iload_n 1, 1)), (47, (.ifCond .ne 12, 3)), (50, (.aload_n 0, 1)), (51, (.getfield 110, 3)), (54, (.iload_n 2, 1)), (55, (.iaload, 1)), (56, (.goto 9, 3)), (59, (.aload_n 0, 1)), (60, (.getfield 113, 3)), (63, (.iload_n 2, 1)), (64, (.iaload, 1)), (65, (.istore 4, 2)), (67, (.iload_n 1, 1)), (68, (.ifCond .ne 13, 3)), (71, (.aload_n 0, 1)), (72, (.getfield 110, 3)), (75, (.iload_n 2, 1)), (76, (.iload_n 3, 1)), (77, (.iastore, 1)), (78, (.goto 10, 3)), (81, (.aload_n 0, 1)), (82, (.getfield 113, 3)), (85, (.iload_n 2, 1)), (86, (.iload_n 3, 1)), (87, (.iastore, 1)), (88, (.iload 4, 2)), (90, (.ireturn, 1))]
def mX7_wish : hM := (RX7, yX7_wish, cX7_wish, 5, (some .int), tX7_wish)
theorem miX7_wish : h_MI mX7_wish 3 := ⟨List.mem_of_getElem? (i := 1097) (by decide +kernel), by decide +kernel, rfl, ⟨by decide +kernel, by decide +kernel, by decide +kernel⟩, by decide +kernel⟩
def tX7_findFar : List (Nat × (Instr × Nat)) := [(0, (.iconst 0, 1)), (1, (.istore_n 1, 1)), (2, (.iload_n 1, 1)), (3, (.bipush 9, 2)), (5, (.if_icmp .ge 42, 3)), (8, (.aload_n 0, 1)), (9, (.getfield 125, 3)), (12, (.iload_n 1, 1)), (13, (.iload_n 1, 1)), (14, (.iconst 3, 1)), (15, (.if_icmp .ge 16, 3)), (18, (.aload_n 0, 1)), (19, (.getfield 119, 3)), (22, (.iload_n 1, 1)), (23, (.iaload, 1)), (24, (.ifCond .le 7, 3)), (27, (.iconst 0, 1)), (28, (.goto 5, 3)), (31, (.ldc 228, 2)), (33, (.iastore, 1)), (34, (.aload_n 0, 1)), (35, (.getfield 128, 3)), (38, (.iload_n 1, 1)), (39, (.iconst (-1), 1)), (40, (.iastore, 1)), (41, (.iinc 1 1, 3)), (44, (.goto (-42), 3)), (47, (.iconst 0, 1)), (48, (.istore_n 1, 1)), (49, (.iload_n 1, 1)), (50, (.bipush 9, 2)), (52, (.if_icmp .ge 153, 3)), (55, (.iconst 0, 1)), (56, (.istore_n 2, 1)), (57, (.iload_n 2, 1)), (58, (.bipush 6, 2)), (60, (.if_icmp .ge 139, 3)), (63, (.iconst 0, 1)), (64, (.istore_n 3, 1)), (65, (.iload_n 3, 1)), (66, (.iconst 3, 1)), (67, (.if_icmp .ge 126, 3)), (70, (.aload_n 0, 1)), (71, (.getfield 82, 3)), (74, (.iconst 3, 1)), (75, (.iload_n 2, 1)), (76, (.imul, 1)), (77, (.iload_n 3, 1)), (78, (.iadd, 1)), (79, (.iaload, 1)), (80, (.istore 4, 2)), (82, (.aload_n 0, 1)), (83, (.getfield 125, 3)), (86, (.iload_n 3, 1)), (87, (.iaload, 1)), (88, (.iload 4, 2)), (90, (.iadd, 1)), (91, (.aload_n 0, 1)), (92, (.getfield 125, 3)), (95, (.iconst 3, 1)), (96, (.iload_n 2, 1)), (97, (.iadd, 1)), (98, (.iaload, 1)), (99, (.if_icmp .ge 29, 3)), (102, (.aload_n 0, 1)), (103, (.getfield 125, 3)), (106, (.iconst 3, 1)), (107, (.iload_n 2, 1)), (108, (.iadd, 1)), (109, (.aload_n 0, 1)), (110, (.getfield 125, 3)), (113, (.iload_n 3, 1)), (114, (.iaload, 1)), (115, (.iload 4, 2)), (117, (.iadd, 1)), (118, (.iastore, 1)), (119, (.aload_n 0, 1)), (120, (.getfield 128, 3)), (123, (.iconst 3, 1)), (124, (.iload_n 2, 1)), (125, (.iadd, 1)), (126, (.iload_n 3, 1)), (127, (.iastore, 1)), (128, (.aload_n 0, 1)), (129, (.getfield 116, 3)), (132, (.iconst 3, 1)), (133, (.iload_n 2, 1)), (134, (.imul, 1)), (135, (.iload_n 3, 1)), (136, (.iadd, 1)), (137, (.iaload, 1)), (138, (.ifCond .le 49, 3)), (141, (.aload_n 0, 1)), (142, (.getfield 125, 3)), (145, (.iconst 3, 1)), (146, (.iload_n 2, 1)), (147, (.iadd, 1)), (148, (.iaload, 1)), (149, (.iload 4, 2)), (151, (.isub, 1)), (152, (.aload_n 0, 1)), (153, (.getfield 125, 3)), (156, (.iload_n 3, 1)), (157, (.iaload, 1)), (158, (.if_icmp .ge 29, 3)), (161, (.aload_n 0, 1)), (162, (.getfield 125, 3)), (165, (.iload_n 3, 1)), (166, (.aload_n 0, 1)), (167, (.getfield 125, 3)), (170, (.iconst 3, 1)), (171, (.iload_n 2, 1)), (172, (.iadd, 1)), (173, (.iaload, 1)), (174, (.iload 4, 2)), (176, (.isub, 1)), (177, (.iastore, 1)), (178, (.aload_n 0, 1)), (179, (.getfield 128, 3)), (182, (.iload_n 3, 1)), (183, (.iconst 3, 1)), (184, (.iload_n 2, 1)), (185, (.iadd, 1)), (186, (.iastore, 1)), (187, (.iinc 3 1, 3)), (190, (.goto (-125), 3)), (193, (.iinc 2 1, 3)), (196, (.goto (-139), 3)), (199, (.iinc 1 1, 3)), (202, (.goto (-153), 3)), (205, (.return_, 1))]
def mX7_findFar : hM := (RX7, yX7_findFar, cX7_findFar, 5, (none : Option Jvm.ClassFile.FieldType), tX7_findFar)
theorem miX7_findFar : h_MI mX7_findFar 0 := ⟨List.mem_of_getElem? (i := 1109) (by decide +kernel), by decide +kernel, rfl, ⟨by decide +kernel, by decide +kernel, by decide +kernel⟩, by decide +kernel⟩
def tX7_sendOne : List (Nat × (Instr × Nat)) := [(0, (.aload_n 0, 1)), (1, (.invokevirtual 257, 3)), (4, (.iconst (-1), 1)), (5, (.istore_n 1, 1)), (6, (.iconst 0, 1)), (7, (.istore_n 2, 1)), (8, (.iload_n 2, 1)), (9, (.bipush 6, 2)), (11, (.if_icmp .ge 56, 3)), (14, (.aload_n 0, 1)), (15, (.getfield 122, 3)), (18, (.iload_n 2, 1)), (19, (.iaload, 1)), (20, (.ifCond .le 41, 3)), (23, (.aload_n 0, 1)), (24, (.getfield 125, 3)), (27, (.iconst 3, 1)), (28, (.iload_n 2, 1)), (29, (.iadd, 1)), (30, (.iaload, 1)), (31, (.ldc 228, 2)), (33, (.if_icmp .ge 28, 3)), (36, (.iload_n 1, 1)), (37, (.ifCond .lt 22, 3)), (40, (.aload_n 0, 1)), (41, (.getfield 125, 3)), (44, (.iconst 3, 1)), (45, (.iload_n 2, 1)), (46, (.iadd, 1)), (47, (.iaload, 1)), (48, (.aload_n 0, 1)), (49, (.getfield 125, 3)), (52, (.iconst 3, 1)), (53, (.iload_n 1, 1)), (54, (.iadd, 1)), (55, (.iaload, 1)), (56, (.if_icmp .ge 5, 3)), (59, (.iload_n 2, 1)), (60, (.istore_n 1, 1)), (61, (.iinc 2 1, 3)), (64, (.goto (-56), 3)), (67, (.iload_n 1, 1)), (68, (.ifCond .ge 5, 3)), (71, (.iconst (-1), 1)), (72, (.ireturn, 1)), (73, (.aload_n 0, 1)), (74, (.getfield 122, 3)), (77, (.iload_n 1, 1)), (78, (.dup2, 1)), (79, (.iaload, 1)), (80, (.iconst 1, 1)), (81, (.isub, 1)), (82, (.iastore, 1)), (83, (.iconst 3, 1)), (84, (.iload_n 1, 1)), (85, (.iadd, 1)), (86, (.istore_n 2, 1)), (87, (.aload_n 0, 1)), (88, (.getfield 128, 3)), (91, (.iload_n 2, 1)), (92, (.iaload, 1)), (93, (.ifCond .lt 55, 3)), (96, (.aload_n 0, 1)), (97, (.getfield 128, 3)), (100, (.iload_n 2, 1)), (101, (.iaload, 1)), (102, (.istore_n 3, 1)), (103, (.iload_n 3, 1)), (104, (.iconst 3, 1)), (105, (.if_icmp .ge 22, 3)), (108, (.aload_n 0, 1)), (109, (.getfield 116, 3)), (112, (.iconst 3, 1)), (113, (.iload_n 2, 1)), (114, (.iconst 3, 1)), (115, (.isub, 1)), (116, (.imul, 1)), (117, (.iload_n 3, 1)), (118, (.iadd, 1)), (119, (.dup2, 1)), (120, (.iaload, 1)), (121, (.iconst 1, 1)), (122, (.iadd, 1)), (123, (.iastore, 1)), (124, (.goto 19, 3)), (127, (.aload_n 0, 1)), (128, (.getfield 116, 3)), (131, (.iconst 3, 1)), (132, (.iload_n 3, 1)), (133, (.iconst 3, 1)), (134, (.isub, 1)), (135, (.imul, 1)), (136, (.iload_n 2, 1)), (137, (.iadd, 1)), (138, (.dup2, 1)), (139, (.iaload, 1)), (140, (.iconst 1, 1)), (141, (.isub, 1)), (142, (.iastore, 1)), (143, (.iload_n 3, 1)), (144, (.istore_n 2, 1)), (145, (.goto (-58), 3)), (148, (.aload_n 0, 1)), (149, (.getfield 119, 3)), (152, (.iload_n 2, 1)), (153, (.dup2, 1)), (154, (.iaload, 1)), (155, (.iconst 1, 1)), (156, (.isub, 1)), (157, (.iastore, 1)), (158, (.aload_n 0, 1)), (159, (.getfield 125, 3)), (162, (.iconst 3, 1)), (163, (.iload_n 1, 1)), (164, (.iadd, 1)), (165, (.iaload, 1)), (166, (.ireturn, 1))]
def mX7_sendOne : hM := (RX7, yX7_sendOne, cX7_sendOne, 4, (some .int), tX7_sendOne)
theorem miX7_sendOne : h_MI mX7_sendOne 0 := ⟨List.mem_of_getElem? (i := 1105) (by decide +kernel), by decide +kernel, rfl, ⟨by decide +kernel, by decide +kernel, by decide +kernel⟩, by decide +kernel⟩
def tX7_flow : List (Nat × (Instr × Nat)) := [(0, (.iconst 0, 1)), (1, (.istore_n 1, 1)), (2, (.iload_n 1, 1)), (3, (.bipush 18, 2)), (5, (.if_icmp .ge 16, 3)), (8, (.aload_n 0, 1)), (9, (.getfield 116, 3)), (12, (.iload_n 1, 1)), (13, (.iconst 0, 1)), (14, (.iastore, 1)), (15, (.iinc 1 1, 3)), (18, (.goto (-16), 3)), (21, (.iconst 0, 1)), (22, (.istore_n 1, 1)), (23, (.iload_n 1, 1)), (24, (.iconst 3, 1)), (25, (.if_icmp .ge 21, 3)), (28, (.aload_n 0, 1)), (29, (.getfield 119, 3)), (32, (.iload_n 1, 1)), (33, (.aload_n 0, 1)), (34, (.getfield 110, 3)), (37, (.iload_n 1, 1)), (38, (.iaload, 1)), (39, (.iastore, 1)), (40, (.iinc 1 1, 3)), (43, (.goto (-20), 3)), (46, (.iconst 0, 1)), (47, (.istore_n 1, 1)), (48, (.iload_n 1, 1)), (49, (.bipush 6, 2)), (51, (.if_icmp .ge 21, 3)), (54, (.aload_n 0, 1)), (55, (.getfield 122, 3)), (58, (.iload_n 1, 1)), (59, (.aload_n 0, 1)), (60, (.getfield 113, 3)), (63, (.iload_n 1, 1)), (64, (.iaload, 1)), (65, (.iastore, 1)), (66, (.iinc 1 1, 3)), (69, (.goto (-21), 3)), (72, (.iconst 0, 1)), (73, (.istore_n 1, 1)), (74, (.aload_n 0, 1)), (75, (.invokevirtual 260, 3)), (78, (.istore_n 2, 1)), (79, (.iload_n 2, 1)), (80, (.ifCond .lt 15, 3)), (83, (.iload_n 1, 1)), (84, (.iload_n 2, 1)), (85, (.iadd, 1)), (86, (.istore_n 1, 1)), (87, (.aload_n 0, 1)), (88, (.invokevirtual 260, 3)), (91, (.istore_n 2, 1)), (92, (.goto (-13), 3)), (95, (.iload_n 1, 1)), (96, (.ireturn, 1))]
def mX7_flow : hM := (RX7, yX7_flow, cX7_flow, 3, (some .int), tX7_flow)
theorem miX7_flow : h_MI mX7_flow 0 := ⟨List.mem_of_getElem? (i := 1101) (by decide +kernel), by decide +kernel, rfl, ⟨by decide +kernel, by decide +kernel, by decide +kernel⟩, by decide +kernel⟩
def tX7_sent : List (Nat × (Instr × Nat)) := [(0, (.iconst 0, 1)), (1, (.istore_n 1, 1)), (2, (.iconst 0, 1)), (3, (.istore_n 2, 1)), (4, (.iconst 0, 1)), (5, (.istore_n 3, 1)), (6, (.iload_n 3, 1)), (7, (.iconst 3, 1)), (8, (.if_icmp .ge 18, 3)), (11, (.iload_n 1, 1)), (12, (.aload_n 0, 1)), (13, (.getfield 110, 3)), (16, (.iload_n 3, 1)), (17, (.iaload, 1)), (18, (.iadd, 1)), (19, (.istore_n 1, 1)), (20, (.iinc 3 1, 3)), (23, (.goto (-17), 3)), (26, (.iconst 0, 1)), (27, (.istore_n 3, 1)), (28, (.iload_n 3, 1)), (29, (.bipush 6, 2)), (31, (.if_icmp .ge 18, 3)), (34, (.iload_n 2, 1)), (35, (.aload_n 0, 1)), (36, (.getfield 113, 3)), (39, (.iload_n 3, 1)), (40, (.iaload, 1)), (41, (.iadd, 1)), (42, (.istore_n 2, 1)), (43, (.iinc 3 1, 3)), (46, (.goto (-18), 3)), (49, (.iload_n 1, 1)), (50, (.iload_n 2, 1)), (51, (.if_icmp .ge 7, 3)), (54, (.iload_n 1, 1)), (55, (.goto 4, 3)), (58, (.iload_n 2, 1)), (59, (.ireturn, 1))]
def mX7_sent : hM := (RX7, yX7_sent, cX7_sent, 4, (some .int), tX7_sent)
theorem miX7_sent : h_MI mX7_sent 0 := ⟨List.mem_of_getElem? (i := 1113) (by decide +kernel), by decide +kernel, rfl, ⟨by decide +kernel, by decide +kernel, by decide +kernel⟩, by decide +kernel⟩
def tX7_count : List (Nat × (Instr × Nat)) := [(0, (.iconst 0, 1)), (1, (.istore_n 2, 1)), (2, (.iload_n 1, 1)), (3, (.tableswitch 183 0 7 #[45, 50, 55, 60, 65, 100, 143, 178], 45)), (48, (.aload_n 0, 1)), (49, (.getfield 135, 3)), (52, (.ireturn, 1)), (53, (.aload_n 0, 1)), (54, (.getfield 142, 3)), (57, (.ireturn, 1)), (58, (.aload_n 0, 1)), (59, (.getfield 205, 3)), (62, (.ireturn, 1)), (63, (.aload_n 0, 1)), (64, (.getfield 167, 3)), (67, (.ireturn, 1)), (68, (.iconst 0, 1)), (69, (.istore_n 3, 1)), (70, (.iload_n 3, 1)), (71, (.aload_n 0, 1)), (72, (.getfield 142, 3)), (75, (.if_icmp .ge 26, 3)), (78, (.iload_n 2, 1)), (79, (.aload_n 0, 1)), (80, (.getfield 46, 3)), (83, (.iload_n 3, 1)), (84, (.baload, 1)), (85, (.ifCond .eq 7, 3)), (88, (.iconst 1, 1)), (89, (.goto 4, 3)), (92, (.iconst 0, 1)), (93, (.iadd, 1)), (94, (.istore_n 2, 1)), (95, (.iinc 3 1, 3)), (98, (.goto (-28), 3)), (101, (.iload_n 2, 1)), (102, (.ireturn, 1)), (103, (.iconst 0, 1)), (104, (.istore_n 3, 1)), (105, (.iload_n 3, 1)), (106, (.aload_n 0, 1)), (107, (.getfield 142, 3)), (110, (.if_icmp .ge 34, 3)), (113, (.iload_n 2, 1)), (114, (.aload_n 0, 1)), (115, (.getfield 46, 3)), (118, (.iload_n 3, 1)), (119, (.baload, 1)), (120, (.ifCond .ne 15, 3)), (123, (.aload_n 0, 1)), (124, (.iload_n 3, 1)), (125, (.invokevirtual 170, 3)), (128, (.ifCond .eq 7, 3)), (131, (.iconst 1, 1)), (132, (.goto 4, 3)), (135, (.iconst 0, 1)), (136, (.iadd, 1)), (137, (.istore_n 2, 1)), (138, (.iinc 3 1, 3)), (141, (.goto (-36), 3)), (144, (.iload_n 2, 1)), (145, (.ireturn, 1)), (146, (.iconst 0, 1)), (147, (.istore_n 3, 1)), (148, (.iload_n 3, 1)), (149, (.aload_n 0, 1)), (150, (.getfield 142, 3)), (153, (.if_icmp .ge 26, 3)), (156, (.iload_n 2, 1)), (157, (.aload_n 0, 1)), (158, (.getfield 50, 3)), (161, (.iload_n 3, 1)), (162, (.baload, 1)), (163, (.ifCond .eq 7, 3)), (166, (.iconst 1, 1)), (167, (.goto 4, 3)), (170, (.iconst 0, 1)), (171, (.iadd, 1)), (172, (.istore_n 2, 1)), (173, (.iinc 3 1, 3)), (176, (.goto (-28), 3)), (179, (.iload_n 2, 1)), (180, (.ireturn, 1)), (181, (.aload_n 0, 1)), (182, (.getfield 179, 3)), (185, (.ireturn, 1)), (186, (.iconst (-1), 1)), (187, (.ireturn, 1))]
def mX7_count : hM := (RX7, yX7_count, cX7_count, 4, (some .int), tX7_count)
theorem miX7_count : h_MI mX7_count 1 := ⟨List.mem_of_getElem? (i := 1117) (by decide +kernel), by decide +kernel, rfl, ⟨by decide +kernel, by decide +kernel, by decide +kernel⟩, by decide +kernel⟩
def tJ0_length_8abf5 : List (Nat × (Instr × Nat)) := [(0, (.aload_n 0, 1)), (1, (.getfield 9, 3)), (4, (.arraylength, 1)), (5, (.aload_n 0, 1)), (6, (.invokevirtual 335, 3)), (9, (.ishr, 1)), (10, (.ireturn, 1))]
def mJ0_length_8abf5 : hM := (RJ0, yJ0_length_8abf5, cJ0_length_8abf5, 1, (some .int), tJ0_length_8abf5)
theorem miJ0_length_8abf5 : h_MI mJ0_length_8abf5 0 := ⟨List.mem_of_getElem? (i := 406) (by decide +kernel), by decide +kernel, rfl, ⟨by decide +kernel, by decide +kernel, by decide +kernel⟩, by decide +kernel⟩
def tJ0_charAt_5068e : List (Nat × (Instr × Nat)) := [(0, (.aload_n 0, 1)), (1, (.invokevirtual 492, 3)), (4, (.ifCond .eq 12, 3)), (7, (.aload_n 0, 1)), (8, (.getfield 9, 3)), (11, (.iload_n 1, 1)), (12, (.invokestatic 495, 3)), (15, (.ireturn, 1)), (16, (.aload_n 0, 1)), (17, (.getfield 9, 3)), (20, (.iload_n 1, 1)), (21, (.invokestatic 498, 3)), (24, (.ireturn, 1))]
def mJ0_charAt_5068e : hM := (RJ0, yJ0_charAt_5068e, cJ0_charAt_5068e, 2, (some .char), tJ0_charAt_5068e)
theorem miJ0_charAt_5068e : h_MI mJ0_charAt_5068e 1 := ⟨List.mem_of_getElem? (i := 416) (by decide +kernel), by decide +kernel, rfl, ⟨by decide +kernel, by decide +kernel, by decide +kernel⟩, by decide +kernel⟩
def tJ0_coder_7d493 : List (Nat × (Instr × Nat)) := [(0, (.getstatic 38, 3)), (3, (.ifCond .eq 10, 3)), (6, (.aload_n 0, 1)), (7, (.getfield 15, 3)), (10, (.goto 4, 3)), (13, (.iconst 1, 1)), (14, (.ireturn, 1))]
def mJ0_coder_7d493 : hM := (RJ0, yJ0_coder_7d493, cJ0_coder_7d493, 1, (some .byte), tJ0_coder_7d493)
theorem miJ0_coder_7d493 : h_MI mJ0_coder_7d493 0 := ⟨List.mem_of_getElem? (i := 410) (by decide +kernel), by decide +kernel, rfl, ⟨by decide +kernel, by decide +kernel, by decide +kernel⟩, by decide +kernel⟩
def tJ0_isLatin1_aae02 : List (Nat × (Instr × Nat)) := [(0, (.getstatic 38, 3)), (3, (.ifCond .eq 14, 3)), (6, (.aload_n 0, 1)), (7, (.getfield 15, 3)), (10, (.ifCond .ne 7, 3)), (13, (.iconst 1, 1)), (14, (.goto 4, 3)), (17, (.iconst 0, 1)), (18, (.ireturn, 1))]
def mJ0_isLatin1_aae02 : hM := (RJ0, yJ0_isLatin1_aae02, cJ0_isLatin1_aae02, 1, (some .boolean), tJ0_isLatin1_aae02)
theorem miJ0_isLatin1_aae02 : h_MI mJ0_isLatin1_aae02 0 := ⟨List.mem_of_getElem? (i := 420) (by decide +kernel), by decide +kernel, rfl, ⟨by decide +kernel, by decide +kernel, by decide +kernel⟩, by decide +kernel⟩
def tJ0_checkIndex_df160 : List (Nat × (Instr × Nat)) := [(0, (.iload_n 0, 1)), (1, (.iload_n 1, 1)), (2, (.getstatic 1053, 3)), (5, (.invokestatic 1059, 3)), (8, (.pop, 1)), (9, (.return_, 1))]
def mJ0_checkIndex_df160 : hM := (RJ0, yJ0_checkIndex_df160, cJ0_checkIndex_df160, 2, (none : Option Jvm.ClassFile.FieldType), tJ0_checkIndex_df160)
theorem miJ0_checkIndex_df160 : h_MI mJ0_checkIndex_df160 2 := ⟨List.mem_of_getElem? (i := 426) (by decide +kernel), by decide +kernel, rfl, ⟨by decide +kernel, by decide +kernel, by decide +kernel⟩, by decide +kernel⟩
def tJ1_charAt_3b067 : List (Nat × (Instr × Nat)) := [(0, (.iload_n 1, 1)), (1, (.aload_n 0, 1)), (2, (.arraylength, 1)), (3, (.invokestatic 9, 3)), (6, (.aload_n 0, 1)), (7, (.iload_n 1, 1)), (8, (.baload, 1)), (9, (.sipush 255, 3)), (12, (.iand, 1)), (13, (.i2c, 1)), (14, (.ireturn, 1))]
def mJ1_charAt_3b067 : hM := (RJ1, yJ1_charAt_3b067, cJ1_charAt_3b067, 2, (some .char), tJ1_charAt_3b067)
theorem miJ1_charAt_3b067 : h_MI mJ1_charAt_3b067 2 := ⟨List.mem_of_getElem? (i := 423) (by decide +kernel), by decide +kernel, rfl, ⟨by decide +kernel, by decide +kernel, by decide +kernel⟩, by decide +kernel⟩
def tJ2_getChar_3b067 : List (Nat × (Instr × Nat)) := [(0, (.getstatic 44, 3)), (3, (.ifCond .ne 25, 3)), (6, (.iload_n 1, 1)), (7, (.ifCond .lt 11, 3)), (10, (.iload_n 1, 1)), (11, (.aload_n 0, 1)), (12, (.invokestatic 48, 3)), (15, (.if_icmp .lt 13, 3)), (18, (.new 52, 3)), (21, (.dup, 1)), (22, (.ldc 54, 2)), (24, (.invokespecial 56, 3)), (27, (.athrow, 1)), (28, (.iload_n 1, 1)), (29, (.iconst 1, 1)), (30, (.ishl, 1)), (31, (.istore_n 1, 1)), (32, (.aload_n 0, 1)), (33, (.iload_n 1, 1)), (34, (.iinc 1 1, 3)), (37, (.baload, 1)), (38, (.sipush 255, 3)), (41, (.iand, 1)), (42, (.getstatic 59, 3)), (45, (.ishl, 1)), (46, (.aload_n 0, 1)), (47, (.iload_n 1, 1)), (48, (.baload, 1)), (49, (.sipush 255, 3)), (52, (.iand, 1)), (53, (.getstatic 63, 3)), (56, (.ishl, 1)), (57, (.ior, 1)), (58, (.i2c, 1)), (59, (.ireturn, 1))]
def mJ2_getChar_3b067 : hM := (RJ2, yJ2_getChar_3b067, cJ2_getChar_3b067, 2, (some .char), tJ2_getChar_3b067)
theorem miJ2_getChar_3b067 : h_MI mJ2_getChar_3b067 2 := ⟨List.mem_of_getElem? (i := 444) (by decide +kernel), by decide +kernel, rfl, ⟨by decide +kernel, by decide +kernel, by decide +kernel⟩, by decide +kernel⟩
def tJ2_length_9d52b : List (Nat × (Instr × Nat)) := [(0, (.aload_n 0, 1)), (1, (.arraylength, 1)), (2, (.iconst 1, 1)), (3, (.ishr, 1)), (4, (.ireturn, 1))]
def mJ2_length_9d52b : hM := (RJ2, yJ2_length_9d52b, cJ2_length_9d52b, 1, (some .int), tJ2_length_9d52b)
theorem miJ2_length_9d52b : h_MI mJ2_length_9d52b 1 := ⟨List.mem_of_getElem? (i := 440) (by decide +kernel), by decide +kernel, rfl, ⟨by decide +kernel, by decide +kernel, by decide +kernel⟩, by decide +kernel⟩
def tJ2_charAt_3b067 : List (Nat × (Instr × Nat)) := [(0, (.iload_n 1, 1)), (1, (.aload_n 0, 1)), (2, (.invokestatic 67, 3)), (5, (.aload_n 0, 1)), (6, (.iload_n 1, 1)), (7, (.invokestatic 71, 3)), (10, (.ireturn, 1))]
def mJ2_charAt_3b067 : hM := (RJ2, yJ2_charAt_3b067, cJ2_charAt_3b067, 2, (some .char), tJ2_charAt_3b067)
theorem miJ2_charAt_3b067 : h_MI mJ2_charAt_3b067 2 := ⟨List.mem_of_getElem? (i := 434) (by decide +kernel), by decide +kernel, rfl, ⟨by decide +kernel, by decide +kernel, by decide +kernel⟩, by decide +kernel⟩
def tJ2_checkIndex_2214a : List (Nat × (Instr × Nat)) := [(0, (.iload_n 0, 1)), (1, (.aload_n 1, 1)), (2, (.invokestatic 48, 3)), (5, (.invokestatic 414, 3)), (8, (.return_, 1))]
def mJ2_checkIndex_2214a : hM := (RJ2, yJ2_checkIndex_2214a, cJ2_checkIndex_2214a, 2, (none : Option Jvm.ClassFile.FieldType), tJ2_checkIndex_2214a)
theorem miJ2_checkIndex_2214a : h_MI mJ2_checkIndex_2214a 2 := ⟨List.mem_of_getElem? (i := 437) (by decide +kernel), by decide +kernel, rfl, ⟨by decide +kernel, by decide +kernel, by decide +kernel⟩, by decide +kernel⟩
def tJ7_fill_53178 : List (Nat × (Instr × Nat)) := [(0, (.iconst 0, 1)), (1, (.istore_n 2, 1)), (2, (.aload_n 0, 1)), (3, (.arraylength, 1)), (4, (.istore_n 3, 1)), (5, (.iload_n 2, 1)), (6, (.iload_n 3, 1)), (7, (.if_icmp .ge 13, 3)), (10, (.aload_n 0, 1)), (11, (.iload_n 2, 1)), (12, (.iload_n 1, 1)), (13, (.iastore, 1)), (14, (.iinc 2 1, 3)), (17, (.goto (-12), 3)), (20, (.return_, 1))]
def mJ7_fill_53178 : hM := (RJ7, yJ7_fill_53178, cJ7_fill_53178, 4, (none : Option Jvm.ClassFile.FieldType), tJ7_fill_53178)
theorem miJ7_fill_53178 : h_MI mJ7_fill_53178 2 := ⟨List.mem_of_getElem? (i := 139) (by decide +kernel), by decide +kernel, rfl, ⟨by decide +kernel, by decide +kernel, by decide +kernel⟩, by decide +kernel⟩
def tJ7_copyOf_59c91 : List (Nat × (Instr × Nat)) := [(0, (.iload_n 1, 1)), (1, (.aload_n 0, 1)), (2, (.arraylength, 1)), (3, (.if_icmp .ne 11, 3)), (6, (.aload_n 0, 1)), (7, (.invokevirtual 316, 3)), (10, (.checkcast 317, 3)), (13, (.areturn, 1)), (14, (.iload_n 1, 1)), (15, (.newarray .int, 2)), (17, (.astore_n 2, 1)), (18, (.aload_n 0, 1)), (19, (.iconst 0, 1)), (20, (.aload_n 2, 1)), (21, (.iconst 0, 1)), (22, (.aload_n 0, 1)), (23, (.arraylength, 1)), (24, (.iload_n 1, 1)), (25, (.invokestatic 304, 3)), (28, (.invokestatic 150, 3)), (31, (.aload_n 2, 1)), (32, (.areturn, 1))]
def mJ7_copyOf_59c91 : hM := (RJ7, yJ7_copyOf_59c91, cJ7_copyOf_59c91, 3, (some (.array .int)), tJ7_copyOf_59c91)
theorem miJ7_copyOf_59c91 : h_MI mJ7_copyOf_59c91 2 := ⟨List.mem_of_getElem? (i := 482) (by decide +kernel), by decide +kernel, rfl, ⟨by decide +kernel, by decide +kernel, by decide +kernel⟩, by decide +kernel⟩
def tJ3_checkIndex_8e157 : List (Nat × (Instr × Nat)) := [(0, (.iload_n 0, 1)), (1, (.ifCond .lt 8, 3)), (4, (.iload_n 0, 1)), (5, (.iload_n 1, 1)), (6, (.if_icmp .lt 10, 3)), (9, (.aload_n 2, 1)), (10, (.iload_n 0, 1)), (11, (.iload_n 1, 1)), (12, (.invokestatic 95, 3)), (15, (.athrow, 1)), (16, (.iload_n 0, 1)), (17, (.ireturn, 1))]
def mJ3_checkIndex_8e157 : hM := (RJ3, yJ3_checkIndex_8e157, cJ3_checkIndex_8e157, 3, (some .int), tJ3_checkIndex_8e157)
theorem miJ3_checkIndex_8e157 : h_MI mJ3_checkIndex_8e157 3 := ⟨List.mem_of_getElem? (i := 431) (by decide +kernel), by decide +kernel, rfl, ⟨by decide +kernel, by decide +kernel, by decide +kernel⟩, by decide +kernel⟩
theorem lnL_9 : h_LI RL 9 yX6_init := ⟨List.mem_of_getElem? (i := 67) (by decide +kernel), List.mem_of_getElem? (i := 68) (by decide +kernel), List.mem_of_getElem? (i := 50) (by decide +kernel), rfl⟩
theorem lnX6_29 : h_LIN RX6 29 yX5_init RX6 := ⟨by decide +kernel, List.mem_of_getElem? (i := 82) (by decide +kernel), List.mem_of_getElem? (i := 51) (by decide +kernel), rfl⟩
theorem lnX6_62 : h_LIN RX6 62 yX0_init RX6 := ⟨by decide +kernel, List.mem_of_getElem? (i := 111) (by decide +kernel), List.mem_of_getElem? (i := 52) (by decide +kernel), rfl⟩
theorem lnX6_67 : h_LS RX6 67 yJ7_fill_53178 := ⟨List.mem_of_getElem? (i := 137) (by decide +kernel), List.mem_of_getElem? (i := 138) (by decide +kernel), List.mem_of_getElem? (i := 53) (by decide +kernel)⟩
theorem lnX6_73 : h_LIN RX6 73 yX3_init RX6 := ⟨by decide +kernel, List.mem_of_getElem? (i := 142) (by decide +kernel), List.mem_of_getElem? (i := 54) (by decide +kernel), rfl⟩
theorem lnL_13 : h_LV RL 13 yX6_sort := ⟨List.mem_of_getElem? (i := 233) (by decide +kernel), List.mem_of_getElem? (i := 234) (by decide +kernel), List.mem_of_getElem? (i := 235) (by decide +kernel), List.mem_of_getElem? (i := 50) (by decide +kernel)⟩
theorem lnX6_74 : h_LS RX6 74 yX6_within := ⟨List.mem_of_getElem? (i := 237) (by decide +kernel), List.mem_of_getElem? (i := 238) (by decide +kernel), List.mem_of_getElem? (i := 50) (by decide +kernel)⟩
theorem lnX6_82 : h_LI RX6 82 yX4_init := ⟨List.mem_of_getElem? (i := 241) (by decide +kernel), List.mem_of_getElem? (i := 242) (by decide +kernel), List.mem_of_getElem? (i := 56) (by decide +kernel), rfl⟩
theorem lnL_18 : h_LV RL 18 yX6_lot := ⟨List.mem_of_getElem? (i := 263) (by decide +kernel), List.mem_of_getElem? (i := 264) (by decide +kernel), List.mem_of_getElem? (i := 265) (by decide +kernel), List.mem_of_getElem? (i := 50) (by decide +kernel)⟩
theorem lnX6_85 : h_LV RX6 85 yX6_sortAt := ⟨List.mem_of_getElem? (i := 267) (by decide +kernel), List.mem_of_getElem? (i := 269) (by decide +kernel), List.mem_of_getElem? (i := 0) (by decide +kernel), List.mem_of_getElem? (i := 50) (by decide +kernel)⟩
theorem lnX6_89 : h_LS RX6 89 yX6_isTown := ⟨List.mem_of_getElem? (i := 271) (by decide +kernel), List.mem_of_getElem? (i := 272) (by decide +kernel), List.mem_of_getElem? (i := 50) (by decide +kernel)⟩
theorem lnX6_93 : h_LS RX6 93 yX6_isLotAsTold := ⟨List.mem_of_getElem? (i := 274) (by decide +kernel), List.mem_of_getElem? (i := 275) (by decide +kernel), List.mem_of_getElem? (i := 50) (by decide +kernel)⟩
theorem lnX6_100 : h_LS RX6 100 yX6_hasOwnFine := ⟨List.mem_of_getElem? (i := 277) (by decide +kernel), List.mem_of_getElem? (i := 278) (by decide +kernel), List.mem_of_getElem? (i := 50) (by decide +kernel)⟩
theorem lnX6_317 : h_LV RX6 317 yX4_leastOfCoin := ⟨List.mem_of_getElem? (i := 281) (by decide +kernel), List.mem_of_getElem? (i := 282) (by decide +kernel), List.mem_of_getElem? (i := 283) (by decide +kernel), List.mem_of_getElem? (i := 56) (by decide +kernel)⟩
theorem lnX6_106 : h_LI RX6 106 yX1_init := ⟨List.mem_of_getElem? (i := 286) (by decide +kernel), List.mem_of_getElem? (i := 287) (by decide +kernel), List.mem_of_getElem? (i := 57) (by decide +kernel), rfl⟩
theorem lnX6_112 : h_LV RX6 112 yX6_keepLot := ⟨List.mem_of_getElem? (i := 337) (by decide +kernel), List.mem_of_getElem? (i := 339) (by decide +kernel), List.mem_of_getElem? (i := 1) (by decide +kernel), List.mem_of_getElem? (i := 50) (by decide +kernel)⟩
theorem lnL_23 : h_LV RL 23 yX6_open := ⟨List.mem_of_getElem? (i := 341) (by decide +kernel), List.mem_of_getElem? (i := 342) (by decide +kernel), List.mem_of_getElem? (i := 343) (by decide +kernel), List.mem_of_getElem? (i := 50) (by decide +kernel)⟩
theorem lnX6_116 : h_LV RX6 116 yX6_lotAt := ⟨List.mem_of_getElem? (i := 345) (by decide +kernel), List.mem_of_getElem? (i := 347) (by decide +kernel), List.mem_of_getElem? (i := 2) (by decide +kernel), List.mem_of_getElem? (i := 50) (by decide +kernel)⟩
theorem lnX6_130 : h_LV RX6 130 yX1_isSealedBag := ⟨List.mem_of_getElem? (i := 349) (by decide +kernel), List.mem_of_getElem? (i := 350) (by decide +kernel), List.mem_of_getElem? (i := 351) (by decide +kernel), List.mem_of_getElem? (i := 57) (by decide +kernel)⟩
theorem lnX6_143 : h_LS RX6 143 yX6_oneIf := ⟨List.mem_of_getElem? (i := 353) (by decide +kernel), List.mem_of_getElem? (i := 354) (by decide +kernel), List.mem_of_getElem? (i := 50) (by decide +kernel)⟩
theorem lnL_28 : h_LV RL 28 yX6_about := ⟨List.mem_of_getElem? (i := 356) (by decide +kernel), List.mem_of_getElem? (i := 357) (by decide +kernel), List.mem_of_getElem? (i := 358) (by decide +kernel), List.mem_of_getElem? (i := 50) (by decide +kernel)⟩
theorem lnX6_157 : h_LV RX6 157 yX1_isOnRoad := ⟨List.mem_of_getElem? (i := 360) (by decide +kernel), List.mem_of_getElem? (i := 361) (by decide +kernel), List.mem_of_getElem? (i := 362) (by decide +kernel), List.mem_of_getElem? (i := 57) (by decide +kernel)⟩
theorem lnL_32 : h_LV RL 32 yX6_silver := ⟨List.mem_of_getElem? (i := 364) (by decide +kernel), List.mem_of_getElem? (i := 365) (by decide +kernel), List.mem_of_getElem? (i := 366) (by decide +kernel), List.mem_of_getElem? (i := 50) (by decide +kernel)⟩
theorem lnX6_175 : h_LV RX6 175 yX1_silverHeld := ⟨List.mem_of_getElem? (i := 369) (by decide +kernel), List.mem_of_getElem? (i := 370) (by decide +kernel), List.mem_of_getElem? (i := 371) (by decide +kernel), List.mem_of_getElem? (i := 57) (by decide +kernel)⟩
theorem lnL_37 : h_LV RL 37 yX6_today := ⟨List.mem_of_getElem? (i := 373) (by decide +kernel), List.mem_of_getElem? (i := 374) (by decide +kernel), List.mem_of_getElem? (i := 375) (by decide +kernel), List.mem_of_getElem? (i := 50) (by decide +kernel)⟩
theorem lnL_44 : h_LV RL 44 yX6_feed := ⟨List.mem_of_getElem? (i := 377) (by decide +kernel), List.mem_of_getElem? (i := 378) (by decide +kernel), List.mem_of_getElem? (i := 379) (by decide +kernel), List.mem_of_getElem? (i := 50) (by decide +kernel)⟩
theorem lnX6_179 : h_LV RX6 179 yX5_append := ⟨List.mem_of_getElem? (i := 381) (by decide +kernel), List.mem_of_getElem? (i := 382) (by decide +kernel), List.mem_of_getElem? (i := 383) (by decide +kernel), List.mem_of_getElem? (i := 51) (by decide +kernel)⟩
theorem lnL_49 : h_LV RL 49 yX6_order := ⟨List.mem_of_getElem? (i := 385) (by decide +kernel), List.mem_of_getElem? (i := 386) (by decide +kernel), List.mem_of_getElem? (i := 387) (by decide +kernel), List.mem_of_getElem? (i := 50) (by decide +kernel)⟩
theorem lnX6_189 : h_LV RX6 189 yX5_findFault := ⟨List.mem_of_getElem? (i := 389) (by decide +kernel), List.mem_of_getElem? (i := 390) (by decide +kernel), List.mem_of_getElem? (i := 391) (by decide +kernel), List.mem_of_getElem? (i := 51) (by decide +kernel)⟩
theorem lnX5_29 : h_LS RX5 29 yJ7_fill_53178 := ⟨List.mem_of_getElem? (i := 393) (by decide +kernel), List.mem_of_getElem? (i := 138) (by decide +kernel), List.mem_of_getElem? (i := 53) (by decide +kernel)⟩
theorem lnX5_35 : h_LV RX5 35 yX5_readClauses := ⟨List.mem_of_getElem? (i := 394) (by decide +kernel), List.mem_of_getElem? (i := 396) (by decide +kernel), List.mem_of_getElem? (i := 3) (by decide +kernel), List.mem_of_getElem? (i := 51) (by decide +kernel)⟩
theorem lnX5_41 : h_LV RX5 41 yX5_readWord := ⟨List.mem_of_getElem? (i := 399) (by decide +kernel), List.mem_of_getElem? (i := 401) (by decide +kernel), List.mem_of_getElem? (i := 4) (by decide +kernel), List.mem_of_getElem? (i := 51) (by decide +kernel)⟩
theorem lnX5_74 : h_LV RX5 74 yJ0_length_8abf5 := ⟨List.mem_of_getElem? (i := 403) (by decide +kernel), List.mem_of_getElem? (i := 404) (by decide +kernel), List.mem_of_getElem? (i := 405) (by decide +kernel), List.mem_of_getElem? (i := 58) (by decide +kernel)⟩
theorem lnJ0_335 : h_LV RJ0 335 yJ0_coder_7d493 := ⟨List.mem_of_getElem? (i := 407) (by decide +kernel), List.mem_of_getElem? (i := 408) (by decide +kernel), List.mem_of_getElem? (i := 409) (by decide +kernel), List.mem_of_getElem? (i := 58) (by decide +kernel)⟩
theorem lnX5_78 : h_LV RX5 78 yJ0_charAt_5068e := ⟨List.mem_of_getElem? (i := 413) (by decide +kernel), List.mem_of_getElem? (i := 414) (by decide +kernel), List.mem_of_getElem? (i := 415) (by decide +kernel), List.mem_of_getElem? (i := 58) (by decide +kernel)⟩
theorem lnJ0_492 : h_LV RJ0 492 yJ0_isLatin1_aae02 := ⟨List.mem_of_getElem? (i := 417) (by decide +kernel), List.mem_of_getElem? (i := 418) (by decide +kernel), List.mem_of_getElem? (i := 419) (by decide +kernel), List.mem_of_getElem? (i := 58) (by decide +kernel)⟩
theorem lnJ0_495 : h_LS RJ0 495 yJ1_charAt_3b067 := ⟨List.mem_of_getElem? (i := 421) (by decide +kernel), List.mem_of_getElem? (i := 422) (by decide +kernel), List.mem_of_getElem? (i := 59) (by decide +kernel)⟩
theorem lnJ1_9 : h_LS RJ1 9 yJ0_checkIndex_df160 := ⟨List.mem_of_getElem? (i := 424) (by decide +kernel), List.mem_of_getElem? (i := 425) (by decide +kernel), List.mem_of_getElem? (i := 58) (by decide +kernel)⟩
theorem lnJ0_1059 : h_LS RJ0 1059 yJ3_checkIndex_8e157 := ⟨List.mem_of_getElem? (i := 429) (by decide +kernel), List.mem_of_getElem? (i := 430) (by decide +kernel), List.mem_of_getElem? (i := 60) (by decide +kernel)⟩
theorem lnJ0_498 : h_LS RJ0 498 yJ2_charAt_3b067 := ⟨List.mem_of_getElem? (i := 432) (by decide +kernel), List.mem_of_getElem? (i := 433) (by decide +kernel), List.mem_of_getElem? (i := 61) (by decide +kernel)⟩
theorem lnJ2_67 : h_LS RJ2 67 yJ2_checkIndex_2214a := ⟨List.mem_of_getElem? (i := 435) (by decide +kernel), List.mem_of_getElem? (i := 436) (by decide +kernel), List.mem_of_getElem? (i := 61) (by decide +kernel)⟩
theorem lnJ2_48 : h_LS RJ2 48 yJ2_length_9d52b := ⟨List.mem_of_getElem? (i := 438) (by decide +kernel), List.mem_of_getElem? (i := 439) (by decide +kernel), List.mem_of_getElem? (i := 61) (by decide +kernel)⟩
theorem lnJ2_414 : h_LS RJ2 414 yJ0_checkIndex_df160 := ⟨List.mem_of_getElem? (i := 441) (by decide +kernel), List.mem_of_getElem? (i := 425) (by decide +kernel), List.mem_of_getElem? (i := 58) (by decide +kernel)⟩
theorem lnJ2_71 : h_LS RJ2 71 yJ2_getChar_3b067 := ⟨List.mem_of_getElem? (i := 442) (by decide +kernel), List.mem_of_getElem? (i := 443) (by decide +kernel), List.mem_of_getElem? (i := 61) (by decide +kernel)⟩
theorem lnX5_58 : h_LV RX5 58 yX5_isHere := ⟨List.mem_of_getElem? (i := 451) (by decide +kernel), List.mem_of_getElem? (i := 453) (by decide +kernel), List.mem_of_getElem? (i := 5) (by decide +kernel), List.mem_of_getElem? (i := 51) (by decide +kernel)⟩
theorem lnX5_45 : h_LV RX5 45 yX5_readClause := ⟨List.mem_of_getElem? (i := 455) (by decide +kernel), List.mem_of_getElem? (i := 457) (by decide +kernel), List.mem_of_getElem? (i := 6) (by decide +kernel), List.mem_of_getElem? (i := 51) (by decide +kernel)⟩
theorem lnX5_48 : h_LV RX5 48 yX5_digitHere := ⟨List.mem_of_getElem? (i := 459) (by decide +kernel), List.mem_of_getElem? (i := 461) (by decide +kernel), List.mem_of_getElem? (i := 7) (by decide +kernel), List.mem_of_getElem? (i := 51) (by decide +kernel)⟩
theorem lnX5_52 : h_LSN RX5 52 yX6_within RX6 := ⟨by decide +kernel, List.mem_of_getElem? (i := 238) (by decide +kernel), List.mem_of_getElem? (i := 50) (by decide +kernel)⟩
theorem lnX5_64 : h_LV RX5 64 yX5_readNumber := ⟨List.mem_of_getElem? (i := 466) (by decide +kernel), List.mem_of_getElem? (i := 468) (by decide +kernel), List.mem_of_getElem? (i := 8) (by decide +kernel), List.mem_of_getElem? (i := 51) (by decide +kernel)⟩
theorem lnX5_68 : h_LV RX5 68 yX5_readWeight := ⟨List.mem_of_getElem? (i := 470) (by decide +kernel), List.mem_of_getElem? (i := 472) (by decide +kernel), List.mem_of_getElem? (i := 9) (by decide +kernel), List.mem_of_getElem? (i := 51) (by decide +kernel)⟩
theorem lnX6_199 : h_LI RX6 199 yX2_init := ⟨List.mem_of_getElem? (i := 476) (by decide +kernel), List.mem_of_getElem? (i := 477) (by decide +kernel), List.mem_of_getElem? (i := 62) (by decide +kernel), rfl⟩
theorem lnX2_15 : h_LS RX2 15 yJ7_copyOf_59c91 := ⟨List.mem_of_getElem? (i := 480) (by decide +kernel), List.mem_of_getElem? (i := 481) (by decide +kernel), List.mem_of_getElem? (i := 53) (by decide +kernel)⟩
theorem lnX2_27 : h_LS RX2 27 yJ7_fill_53178 := ⟨List.mem_of_getElem? (i := 496) (by decide +kernel), List.mem_of_getElem? (i := 138) (by decide +kernel), List.mem_of_getElem? (i := 53) (by decide +kernel)⟩
theorem lnL_54 : h_LV RL 54 yX6_tell := ⟨List.mem_of_getElem? (i := 510) (by decide +kernel), List.mem_of_getElem? (i := 511) (by decide +kernel), List.mem_of_getElem? (i := 512) (by decide +kernel), List.mem_of_getElem? (i := 50) (by decide +kernel)⟩
theorem lnX6_202 : h_LV RX6 202 yX6_orderAt := ⟨List.mem_of_getElem? (i := 514) (by decide +kernel), List.mem_of_getElem? (i := 516) (by decide +kernel), List.mem_of_getElem? (i := 10) (by decide +kernel), List.mem_of_getElem? (i := 50) (by decide +kernel)⟩
theorem lnL_58 : h_LV RL 58 yX6_force := ⟨List.mem_of_getElem? (i := 518) (by decide +kernel), List.mem_of_getElem? (i := 519) (by decide +kernel), List.mem_of_getElem? (i := 520) (by decide +kernel), List.mem_of_getElem? (i := 50) (by decide +kernel)⟩
theorem lnX6_209 : h_LV RX6 209 yX6_orderInForce := ⟨List.mem_of_getElem? (i := 522) (by decide +kernel), List.mem_of_getElem? (i := 524) (by decide +kernel), List.mem_of_getElem? (i := 11) (by decide +kernel), List.mem_of_getElem? (i := 50) (by decide +kernel)⟩
theorem lnL_62 : h_LV RL 62 yX6_pass := ⟨List.mem_of_getElem? (i := 526) (by decide +kernel), List.mem_of_getElem? (i := 527) (by decide +kernel), List.mem_of_getElem? (i := 528) (by decide +kernel), List.mem_of_getElem? (i := 50) (by decide +kernel)⟩
theorem lnX6_213 : h_LS RX6 213 yX6_worthOf := ⟨List.mem_of_getElem? (i := 530) (by decide +kernel), List.mem_of_getElem? (i := 531) (by decide +kernel), List.mem_of_getElem? (i := 50) (by decide +kernel)⟩
theorem lnL_67 : h_LV RL 67 yX6_light := ⟨List.mem_of_getElem? (i := 533) (by decide +kernel), List.mem_of_getElem? (i := 534) (by decide +kernel), List.mem_of_getElem? (i := 535) (by decide +kernel), List.mem_of_getElem? (i := 50) (by decide +kernel)⟩
theorem lnX6_217 : h_LV RX6 217 yX1_canDraw := ⟨List.mem_of_getElem? (i := 537) (by decide +kernel), List.mem_of_getElem? (i := 538) (by decide +kernel), List.mem_of_getElem? (i := 539) (by decide +kernel), List.mem_of_getElem? (i := 57) (by decide +kernel)⟩
theorem lnX1_44 : h_LSN RX1 44 yX6_within RX6 := ⟨by decide +kernel, List.mem_of_getElem? (i := 238) (by decide +kernel), List.mem_of_getElem? (i := 50) (by decide +kernel)⟩
theorem lnX1_48 : h_LV RX1 48 yX4_leastOfCoin := ⟨List.mem_of_getElem? (i := 542) (by decide +kernel), List.mem_of_getElem? (i := 282) (by decide +kernel), List.mem_of_getElem? (i := 283) (by decide +kernel), List.mem_of_getElem? (i := 56) (by decide +kernel)⟩
theorem lnX6_221 : h_LV RX6 221 yX1_mostDrawn := ⟨List.mem_of_getElem? (i := 543) (by decide +kernel), List.mem_of_getElem? (i := 544) (by decide +kernel), List.mem_of_getElem? (i := 545) (by decide +kernel), List.mem_of_getElem? (i := 57) (by decide +kernel)⟩
theorem lnL_71 : h_LV RL 71 yX6_pay := ⟨List.mem_of_getElem? (i := 547) (by decide +kernel), List.mem_of_getElem? (i := 548) (by decide +kernel), List.mem_of_getElem? (i := 549) (by decide +kernel), List.mem_of_getElem? (i := 50) (by decide +kernel)⟩
theorem lnX6_226 : h_LV RX6 226 yX6_reckonWorth := ⟨List.mem_of_getElem? (i := 552) (by decide +kernel), List.mem_of_getElem? (i := 554) (by decide +kernel), List.mem_of_getElem? (i := 12) (by decide +kernel), List.mem_of_getElem? (i := 50) (by decide +kernel)⟩
theorem lnX6_233 : h_LV RX6 233 yX6_payWorst := ⟨List.mem_of_getElem? (i := 556) (by decide +kernel), List.mem_of_getElem? (i := 558) (by decide +kernel), List.mem_of_getElem? (i := 13) (by decide +kernel), List.mem_of_getElem? (i := 50) (by decide +kernel)⟩
theorem lnX6_324 : h_LS RX6 324 yX6_isWorse := ⟨List.mem_of_getElem? (i := 560) (by decide +kernel), List.mem_of_getElem? (i := 561) (by decide +kernel), List.mem_of_getElem? (i := 50) (by decide +kernel)⟩
theorem lnL_75 : h_LV RL 75 yX6_paid := ⟨List.mem_of_getElem? (i := 563) (by decide +kernel), List.mem_of_getElem? (i := 564) (by decide +kernel), List.mem_of_getElem? (i := 565) (by decide +kernel), List.mem_of_getElem? (i := 50) (by decide +kernel)⟩
theorem lnL_79 : h_LV RL 79 yX6_credit := ⟨List.mem_of_getElem? (i := 567) (by decide +kernel), List.mem_of_getElem? (i := 568) (by decide +kernel), List.mem_of_getElem? (i := 569) (by decide +kernel), List.mem_of_getElem? (i := 50) (by decide +kernel)⟩
theorem lnL_83 : h_LV RL 83 yX6_give := ⟨List.mem_of_getElem? (i := 571) (by decide +kernel), List.mem_of_getElem? (i := 572) (by decide +kernel), List.mem_of_getElem? (i := 573) (by decide +kernel), List.mem_of_getElem? (i := 50) (by decide +kernel)⟩
theorem lnL_87 : h_LV RL 87 yX6_lack := ⟨List.mem_of_getElem? (i := 575) (by decide +kernel), List.mem_of_getElem? (i := 576) (by decide +kernel), List.mem_of_getElem? (i := 577) (by decide +kernel), List.mem_of_getElem? (i := 50) (by decide +kernel)⟩
theorem lnL_91 : h_LV RL 91 yX6_road := ⟨List.mem_of_getElem? (i := 582) (by decide +kernel), List.mem_of_getElem? (i := 583) (by decide +kernel), List.mem_of_getElem? (i := 584) (by decide +kernel), List.mem_of_getElem? (i := 50) (by decide +kernel)⟩
theorem lnX6_243 : h_LS RX6 243 yX6_isMint := ⟨List.mem_of_getElem? (i := 586) (by decide +kernel), List.mem_of_getElem? (i := 587) (by decide +kernel), List.mem_of_getElem? (i := 50) (by decide +kernel)⟩
theorem lnL_95 : h_LV RL 95 yX6_send := ⟨List.mem_of_getElem? (i := 589) (by decide +kernel), List.mem_of_getElem? (i := 590) (by decide +kernel), List.mem_of_getElem? (i := 591) (by decide +kernel), List.mem_of_getElem? (i := 50) (by decide +kernel)⟩
theorem lnL_99 : h_LV RL 99 yX6_bring := ⟨List.mem_of_getElem? (i := 593) (by decide +kernel), List.mem_of_getElem? (i := 594) (by decide +kernel), List.mem_of_getElem? (i := 595) (by decide +kernel), List.mem_of_getElem? (i := 50) (by decide +kernel)⟩
theorem lnL_103 : h_LV RL 103 yX6_melt := ⟨List.mem_of_getElem? (i := 597) (by decide +kernel), List.mem_of_getElem? (i := 598) (by decide +kernel), List.mem_of_getElem? (i := 599) (by decide +kernel), List.mem_of_getElem? (i := 50) (by decide +kernel)⟩
theorem lnX6_246 : h_LV RX6 246 yX6_potAt := ⟨List.mem_of_getElem? (i := 601) (by decide +kernel), List.mem_of_getElem? (i := 603) (by decide +kernel), List.mem_of_getElem? (i := 14) (by decide +kernel), List.mem_of_getElem? (i := 50) (by decide +kernel)⟩
theorem lnX6_250 : h_LV RX6 250 yX6_findFalse := ⟨List.mem_of_getElem? (i := 605) (by decide +kernel), List.mem_of_getElem? (i := 607) (by decide +kernel), List.mem_of_getElem? (i := 15) (by decide +kernel), List.mem_of_getElem? (i := 50) (by decide +kernel)⟩
theorem lnX6_254 : h_LV RX6 254 yX3_meltedOn := ⟨List.mem_of_getElem? (i := 609) (by decide +kernel), List.mem_of_getElem? (i := 610) (by decide +kernel), List.mem_of_getElem? (i := 611) (by decide +kernel), List.mem_of_getElem? (i := 54) (by decide +kernel)⟩
theorem lnX6_261 : h_LV RX6 261 yX3_takeIn := ⟨List.mem_of_getElem? (i := 613) (by decide +kernel), List.mem_of_getElem? (i := 614) (by decide +kernel), List.mem_of_getElem? (i := 615) (by decide +kernel), List.mem_of_getElem? (i := 54) (by decide +kernel)⟩
theorem lnX3_22 : h_LV RX3 22 yX3_meltedOn := ⟨List.mem_of_getElem? (i := 617) (by decide +kernel), List.mem_of_getElem? (i := 610) (by decide +kernel), List.mem_of_getElem? (i := 611) (by decide +kernel), List.mem_of_getElem? (i := 54) (by decide +kernel)⟩
theorem lnX6_265 : h_LV RX6 265 yX1_vanish := ⟨List.mem_of_getElem? (i := 618) (by decide +kernel), List.mem_of_getElem? (i := 619) (by decide +kernel), List.mem_of_getElem? (i := 620) (by decide +kernel), List.mem_of_getElem? (i := 57) (by decide +kernel)⟩
theorem lnL_107 : h_LV RL 107 yX6_furnace := ⟨List.mem_of_getElem? (i := 622) (by decide +kernel), List.mem_of_getElem? (i := 623) (by decide +kernel), List.mem_of_getElem? (i := 624) (by decide +kernel), List.mem_of_getElem? (i := 50) (by decide +kernel)⟩
theorem lnL_111 : h_LV RL 111 yX6_refine := ⟨List.mem_of_getElem? (i := 626) (by decide +kernel), List.mem_of_getElem? (i := 627) (by decide +kernel), List.mem_of_getElem? (i := 628) (by decide +kernel), List.mem_of_getElem? (i := 50) (by decide +kernel)⟩
theorem lnX6_271 : h_LV RX6 271 yX3_bringToLaw := ⟨List.mem_of_getElem? (i := 630) (by decide +kernel), List.mem_of_getElem? (i := 631) (by decide +kernel), List.mem_of_getElem? (i := 632) (by decide +kernel), List.mem_of_getElem? (i := 54) (by decide +kernel)⟩
theorem lnL_115 : h_LV RL 115 yX6_strike := ⟨List.mem_of_getElem? (i := 638) (by decide +kernel), List.mem_of_getElem? (i := 639) (by decide +kernel), List.mem_of_getElem? (i := 640) (by decide +kernel), List.mem_of_getElem? (i := 50) (by decide +kernel)⟩
theorem lnX6_277 : h_LV RX6 277 yX3_pourOut := ⟨List.mem_of_getElem? (i := 642) (by decide +kernel), List.mem_of_getElem? (i := 643) (by decide +kernel), List.mem_of_getElem? (i := 644) (by decide +kernel), List.mem_of_getElem? (i := 54) (by decide +kernel)⟩
theorem lnL_119 : h_LV RL 119 yX6_mint := ⟨List.mem_of_getElem? (i := 646) (by decide +kernel), List.mem_of_getElem? (i := 647) (by decide +kernel), List.mem_of_getElem? (i := 648) (by decide +kernel), List.mem_of_getElem? (i := 50) (by decide +kernel)⟩
theorem lnL_124 : h_LV RL 124 yX6_all := ⟨List.mem_of_getElem? (i := 650) (by decide +kernel), List.mem_of_getElem? (i := 651) (by decide +kernel), List.mem_of_getElem? (i := 652) (by decide +kernel), List.mem_of_getElem? (i := 50) (by decide +kernel)⟩
theorem lnL_129 : h_LV RL 129 yX6_drawn := ⟨List.mem_of_getElem? (i := 655) (by decide +kernel), List.mem_of_getElem? (i := 656) (by decide +kernel), List.mem_of_getElem? (i := 657) (by decide +kernel), List.mem_of_getElem? (i := 50) (by decide +kernel)⟩
theorem lnX6_294 : h_LV RX6 294 yX1_leastDrawn := ⟨List.mem_of_getElem? (i := 659) (by decide +kernel), List.mem_of_getElem? (i := 660) (by decide +kernel), List.mem_of_getElem? (i := 661) (by decide +kernel), List.mem_of_getElem? (i := 57) (by decide +kernel)⟩
theorem lnL_133 : h_LV RL 133 yX6_wish := ⟨List.mem_of_getElem? (i := 663) (by decide +kernel), List.mem_of_getElem? (i := 664) (by decide +kernel), List.mem_of_getElem? (i := 665) (by decide +kernel), List.mem_of_getElem? (i := 50) (by decide +kernel)⟩
theorem lnL_137 : h_LV RL 137 yX6_flow := ⟨List.mem_of_getElem? (i := 667) (by decide +kernel), List.mem_of_getElem? (i := 668) (by decide +kernel), List.mem_of_getElem? (i := 669) (by decide +kernel), List.mem_of_getElem? (i := 50) (by decide +kernel)⟩
theorem lnX6_297 : h_LV RX6 297 yX0_leastCost := ⟨List.mem_of_getElem? (i := 671) (by decide +kernel), List.mem_of_getElem? (i := 672) (by decide +kernel), List.mem_of_getElem? (i := 673) (by decide +kernel), List.mem_of_getElem? (i := 52) (by decide +kernel)⟩
theorem lnX0_39 : h_LS RX0 39 yJ7_fill_53178 := ⟨List.mem_of_getElem? (i := 676) (by decide +kernel), List.mem_of_getElem? (i := 138) (by decide +kernel), List.mem_of_getElem? (i := 53) (by decide +kernel)⟩
theorem lnX0_45 : h_LV RX0 45 yX0_findWays := ⟨List.mem_of_getElem? (i := 677) (by decide +kernel), List.mem_of_getElem? (i := 679) (by decide +kernel), List.mem_of_getElem? (i := 16) (by decide +kernel), List.mem_of_getElem? (i := 52) (by decide +kernel)⟩
theorem lnX0_62 : h_LV RX0 62 yX0_goOn := ⟨List.mem_of_getElem? (i := 682) (by decide +kernel), List.mem_of_getElem? (i := 684) (by decide +kernel), List.mem_of_getElem? (i := 17) (by decide +kernel), List.mem_of_getElem? (i := 52) (by decide +kernel)⟩
theorem lnX0_66 : h_LV RX0 66 yX0_takeBack := ⟨List.mem_of_getElem? (i := 686) (by decide +kernel), List.mem_of_getElem? (i := 688) (by decide +kernel), List.mem_of_getElem? (i := 18) (by decide +kernel), List.mem_of_getElem? (i := 52) (by decide +kernel)⟩
theorem lnX0_49 : h_LV RX0 49 yX0_cheapestTown := ⟨List.mem_of_getElem? (i := 690) (by decide +kernel), List.mem_of_getElem? (i := 692) (by decide +kernel), List.mem_of_getElem? (i := 19) (by decide +kernel), List.mem_of_getElem? (i := 52) (by decide +kernel)⟩
theorem lnX0_53 : h_LV RX0 53 yX0_roomOfWay := ⟨List.mem_of_getElem? (i := 694) (by decide +kernel), List.mem_of_getElem? (i := 696) (by decide +kernel), List.mem_of_getElem? (i := 20) (by decide +kernel), List.mem_of_getElem? (i := 52) (by decide +kernel)⟩
theorem lnX0_70 : h_LSN RX0 70 yX6_isMint RX6 := ⟨by decide +kernel, List.mem_of_getElem? (i := 587) (by decide +kernel), List.mem_of_getElem? (i := 50) (by decide +kernel)⟩
theorem lnX0_74 : h_LSN RX0 74 yX6_isTown RX6 := ⟨by decide +kernel, List.mem_of_getElem? (i := 272) (by decide +kernel), List.mem_of_getElem? (i := 50) (by decide +kernel)⟩
theorem lnX0_57 : h_LV RX0 57 yX0_carry := ⟨List.mem_of_getElem? (i := 701) (by decide +kernel), List.mem_of_getElem? (i := 703) (by decide +kernel), List.mem_of_getElem? (i := 21) (by decide +kernel), List.mem_of_getElem? (i := 52) (by decide +kernel)⟩
theorem lnL_141 : h_LV RL 141 yX6_sent := ⟨List.mem_of_getElem? (i := 705) (by decide +kernel), List.mem_of_getElem? (i := 706) (by decide +kernel), List.mem_of_getElem? (i := 707) (by decide +kernel), List.mem_of_getElem? (i := 50) (by decide +kernel)⟩
theorem lnX6_301 : h_LS RX6 301 yX6_sumOf := ⟨List.mem_of_getElem? (i := 709) (by decide +kernel), List.mem_of_getElem? (i := 710) (by decide +kernel), List.mem_of_getElem? (i := 50) (by decide +kernel)⟩
theorem lnL_145 : h_LV RL 145 yX6_count := ⟨List.mem_of_getElem? (i := 713) (by decide +kernel), List.mem_of_getElem? (i := 714) (by decide +kernel), List.mem_of_getElem? (i := 715) (by decide +kernel), List.mem_of_getElem? (i := 50) (by decide +kernel)⟩
theorem lnX6_308 : h_LV RX6 308 yX6_countMelted := ⟨List.mem_of_getElem? (i := 717) (by decide +kernel), List.mem_of_getElem? (i := 719) (by decide +kernel), List.mem_of_getElem? (i := 22) (by decide +kernel), List.mem_of_getElem? (i := 50) (by decide +kernel)⟩
theorem lnX6_311 : h_LV RX6 311 yX6_countOnRoads := ⟨List.mem_of_getElem? (i := 721) (by decide +kernel), List.mem_of_getElem? (i := 723) (by decide +kernel), List.mem_of_getElem? (i := 23) (by decide +kernel), List.mem_of_getElem? (i := 50) (by decide +kernel)⟩
theorem lnX6_314 : h_LV RX6 314 yX6_countInChests := ⟨List.mem_of_getElem? (i := 725) (by decide +kernel), List.mem_of_getElem? (i := 727) (by decide +kernel), List.mem_of_getElem? (i := 24) (by decide +kernel), List.mem_of_getElem? (i := 50) (by decide +kernel)⟩
theorem lnL_12 : h_LI RL 12 yX7_init := ⟨List.mem_of_getElem? (i := 731) (by decide +kernel), List.mem_of_getElem? (i := 732) (by decide +kernel), List.mem_of_getElem? (i := 55) (by decide +kernel), rfl⟩
theorem lnL_17 : h_LV RL 17 yX7_sort := ⟨List.mem_of_getElem? (i := 884) (by decide +kernel), List.mem_of_getElem? (i := 885) (by decide +kernel), List.mem_of_getElem? (i := 886) (by decide +kernel), List.mem_of_getElem? (i := 55) (by decide +kernel)⟩
theorem lnX7_138 : h_LS RX7 138 yX7_in := ⟨List.mem_of_getElem? (i := 888) (by decide +kernel), List.mem_of_getElem? (i := 889) (by decide +kernel), List.mem_of_getElem? (i := 55) (by decide +kernel)⟩
theorem lnL_22 : h_LV RL 22 yX7_lot := ⟨List.mem_of_getElem? (i := 891) (by decide +kernel), List.mem_of_getElem? (i := 892) (by decide +kernel), List.mem_of_getElem? (i := 893) (by decide +kernel), List.mem_of_getElem? (i := 55) (by decide +kernel)⟩
theorem lnX7_145 : h_LV RX7 145 yX7_isSort := ⟨List.mem_of_getElem? (i := 895) (by decide +kernel), List.mem_of_getElem? (i := 897) (by decide +kernel), List.mem_of_getElem? (i := 25) (by decide +kernel), List.mem_of_getElem? (i := 55) (by decide +kernel)⟩
theorem lnX7_149 : h_LS RX7 149 yX7_isTown := ⟨List.mem_of_getElem? (i := 899) (by decide +kernel), List.mem_of_getElem? (i := 900) (by decide +kernel), List.mem_of_getElem? (i := 55) (by decide +kernel)⟩
theorem lnX7_152 : h_LV RX7 152 yX7_isWeight := ⟨List.mem_of_getElem? (i := 902) (by decide +kernel), List.mem_of_getElem? (i := 904) (by decide +kernel), List.mem_of_getElem? (i := 26) (by decide +kernel), List.mem_of_getElem? (i := 55) (by decide +kernel)⟩
theorem lnX7_156 : h_LV RX7 156 yX7_newLot := ⟨List.mem_of_getElem? (i := 906) (by decide +kernel), List.mem_of_getElem? (i := 908) (by decide +kernel), List.mem_of_getElem? (i := 27) (by decide +kernel), List.mem_of_getElem? (i := 55) (by decide +kernel)⟩
theorem lnL_27 : h_LV RL 27 yX7_open := ⟨List.mem_of_getElem? (i := 910) (by decide +kernel), List.mem_of_getElem? (i := 911) (by decide +kernel), List.mem_of_getElem? (i := 912) (by decide +kernel), List.mem_of_getElem? (i := 55) (by decide +kernel)⟩
theorem lnX7_160 : h_LV RX7 160 yX7_isLot := ⟨List.mem_of_getElem? (i := 914) (by decide +kernel), List.mem_of_getElem? (i := 916) (by decide +kernel), List.mem_of_getElem? (i := 28) (by decide +kernel), List.mem_of_getElem? (i := 55) (by decide +kernel)⟩
theorem lnL_31 : h_LV RL 31 yX7_about := ⟨List.mem_of_getElem? (i := 918) (by decide +kernel), List.mem_of_getElem? (i := 919) (by decide +kernel), List.mem_of_getElem? (i := 920) (by decide +kernel), List.mem_of_getElem? (i := 55) (by decide +kernel)⟩
theorem lnX7_163 : h_LV RX7 163 yX7_fine := ⟨List.mem_of_getElem? (i := 922) (by decide +kernel), List.mem_of_getElem? (i := 924) (by decide +kernel), List.mem_of_getElem? (i := 29) (by decide +kernel), List.mem_of_getElem? (i := 55) (by decide +kernel)⟩
theorem lnX7_170 : h_LV RX7 170 yX7_isUnderWay := ⟨List.mem_of_getElem? (i := 926) (by decide +kernel), List.mem_of_getElem? (i := 928) (by decide +kernel), List.mem_of_getElem? (i := 30) (by decide +kernel), List.mem_of_getElem? (i := 55) (by decide +kernel)⟩
theorem lnL_36 : h_LV RL 36 yX7_silver := ⟨List.mem_of_getElem? (i := 930) (by decide +kernel), List.mem_of_getElem? (i := 931) (by decide +kernel), List.mem_of_getElem? (i := 932) (by decide +kernel), List.mem_of_getElem? (i := 55) (by decide +kernel)⟩
theorem lnX7_173 : h_LV RX7 173 yX7_silverOf := ⟨List.mem_of_getElem? (i := 934) (by decide +kernel), List.mem_of_getElem? (i := 936) (by decide +kernel), List.mem_of_getElem? (i := 31) (by decide +kernel), List.mem_of_getElem? (i := 55) (by decide +kernel)⟩
theorem lnL_41 : h_LV RL 41 yX7_today := ⟨List.mem_of_getElem? (i := 939) (by decide +kernel), List.mem_of_getElem? (i := 940) (by decide +kernel), List.mem_of_getElem? (i := 941) (by decide +kernel), List.mem_of_getElem? (i := 55) (by decide +kernel)⟩
theorem lnL_48 : h_LV RL 48 yX7_feed := ⟨List.mem_of_getElem? (i := 943) (by decide +kernel), List.mem_of_getElem? (i := 944) (by decide +kernel), List.mem_of_getElem? (i := 945) (by decide +kernel), List.mem_of_getElem? (i := 55) (by decide +kernel)⟩
theorem lnL_53 : h_LV RL 53 yX7_order := ⟨List.mem_of_getElem? (i := 947) (by decide +kernel), List.mem_of_getElem? (i := 948) (by decide +kernel), List.mem_of_getElem? (i := 949) (by decide +kernel), List.mem_of_getElem? (i := 55) (by decide +kernel)⟩
theorem lnX7_208 : h_LV RX7 208 yX7_clause := ⟨List.mem_of_getElem? (i := 951) (by decide +kernel), List.mem_of_getElem? (i := 953) (by decide +kernel), List.mem_of_getElem? (i := 32) (by decide +kernel), List.mem_of_getElem? (i := 55) (by decide +kernel)⟩
theorem lnX7_194 : h_LV RX7 194 yX7_takesIs := ⟨List.mem_of_getElem? (i := 955) (by decide +kernel), List.mem_of_getElem? (i := 957) (by decide +kernel), List.mem_of_getElem? (i := 33) (by decide +kernel), List.mem_of_getElem? (i := 55) (by decide +kernel)⟩
theorem lnX7_191 : h_LV RX7 191 yX7_takes := ⟨List.mem_of_getElem? (i := 959) (by decide +kernel), List.mem_of_getElem? (i := 961) (by decide +kernel), List.mem_of_getElem? (i := 34) (by decide +kernel), List.mem_of_getElem? (i := 55) (by decide +kernel)⟩
theorem lnX7_198 : h_LV RX7 198 yX7_takesNumber := ⟨List.mem_of_getElem? (i := 963) (by decide +kernel), List.mem_of_getElem? (i := 965) (by decide +kernel), List.mem_of_getElem? (i := 35) (by decide +kernel), List.mem_of_getElem? (i := 55) (by decide +kernel)⟩
theorem lnX7_185 : h_LV RX7 185 yX7_digitAt := ⟨List.mem_of_getElem? (i := 967) (by decide +kernel), List.mem_of_getElem? (i := 969) (by decide +kernel), List.mem_of_getElem? (i := 36) (by decide +kernel), List.mem_of_getElem? (i := 55) (by decide +kernel)⟩
theorem lnX7_202 : h_LV RX7 202 yX7_takesWeight := ⟨List.mem_of_getElem? (i := 971) (by decide +kernel), List.mem_of_getElem? (i := 973) (by decide +kernel), List.mem_of_getElem? (i := 37) (by decide +kernel), List.mem_of_getElem? (i := 55) (by decide +kernel)⟩
theorem lnL_57 : h_LV RL 57 yX7_tell := ⟨List.mem_of_getElem? (i := 975) (by decide +kernel), List.mem_of_getElem? (i := 976) (by decide +kernel), List.mem_of_getElem? (i := 977) (by decide +kernel), List.mem_of_getElem? (i := 55) (by decide +kernel)⟩
theorem lnX7_211 : h_LV RX7 211 yX7_isOrder := ⟨List.mem_of_getElem? (i := 979) (by decide +kernel), List.mem_of_getElem? (i := 981) (by decide +kernel), List.mem_of_getElem? (i := 38) (by decide +kernel), List.mem_of_getElem? (i := 55) (by decide +kernel)⟩
theorem lnL_61 : h_LV RL 61 yX7_force := ⟨List.mem_of_getElem? (i := 983) (by decide +kernel), List.mem_of_getElem? (i := 984) (by decide +kernel), List.mem_of_getElem? (i := 985) (by decide +kernel), List.mem_of_getElem? (i := 55) (by decide +kernel)⟩
theorem lnX7_214 : h_LV RX7 214 yX7_forceIn := ⟨List.mem_of_getElem? (i := 987) (by decide +kernel), List.mem_of_getElem? (i := 989) (by decide +kernel), List.mem_of_getElem? (i := 39) (by decide +kernel), List.mem_of_getElem? (i := 55) (by decide +kernel)⟩
theorem lnL_66 : h_LV RL 66 yX7_pass := ⟨List.mem_of_getElem? (i := 991) (by decide +kernel), List.mem_of_getElem? (i := 992) (by decide +kernel), List.mem_of_getElem? (i := 993) (by decide +kernel), List.mem_of_getElem? (i := 55) (by decide +kernel)⟩
theorem lnX7_218 : h_LV RX7 218 yX7_passes := ⟨List.mem_of_getElem? (i := 995) (by decide +kernel), List.mem_of_getElem? (i := 997) (by decide +kernel), List.mem_of_getElem? (i := 40) (by decide +kernel), List.mem_of_getElem? (i := 55) (by decide +kernel)⟩
theorem lnL_70 : h_LV RL 70 yX7_light := ⟨List.mem_of_getElem? (i := 999) (by decide +kernel), List.mem_of_getElem? (i := 1000) (by decide +kernel), List.mem_of_getElem? (i := 1001) (by decide +kernel), List.mem_of_getElem? (i := 55) (by decide +kernel)⟩
theorem lnX7_225 : h_LV RX7 225 yX7_isDrawn := ⟨List.mem_of_getElem? (i := 1003) (by decide +kernel), List.mem_of_getElem? (i := 1005) (by decide +kernel), List.mem_of_getElem? (i := 41) (by decide +kernel), List.mem_of_getElem? (i := 55) (by decide +kernel)⟩
theorem lnX7_222 : h_LV RX7 222 yX7_lowest := ⟨List.mem_of_getElem? (i := 1007) (by decide +kernel), List.mem_of_getElem? (i := 1009) (by decide +kernel), List.mem_of_getElem? (i := 42) (by decide +kernel), List.mem_of_getElem? (i := 55) (by decide +kernel)⟩
theorem lnL_74 : h_LV RL 74 yX7_pay := ⟨List.mem_of_getElem? (i := 1011) (by decide +kernel), List.mem_of_getElem? (i := 1012) (by decide +kernel), List.mem_of_getElem? (i := 1013) (by decide +kernel), List.mem_of_getElem? (i := 55) (by decide +kernel)⟩
theorem lnX7_229 : h_LV RX7 229 yX7_isThere := ⟨List.mem_of_getElem? (i := 1016) (by decide +kernel), List.mem_of_getElem? (i := 1018) (by decide +kernel), List.mem_of_getElem? (i := 43) (by decide +kernel), List.mem_of_getElem? (i := 55) (by decide +kernel)⟩
theorem lnX7_232 : h_LV RX7 232 yX7_isWorse := ⟨List.mem_of_getElem? (i := 1020) (by decide +kernel), List.mem_of_getElem? (i := 1022) (by decide +kernel), List.mem_of_getElem? (i := 44) (by decide +kernel), List.mem_of_getElem? (i := 55) (by decide +kernel)⟩
theorem lnL_78 : h_LV RL 78 yX7_paid := ⟨List.mem_of_getElem? (i := 1024) (by decide +kernel), List.mem_of_getElem? (i := 1025) (by decide +kernel), List.mem_of_getElem? (i := 1026) (by decide +kernel), List.mem_of_getElem? (i := 55) (by decide +kernel)⟩
theorem lnL_82 : h_LV RL 82 yX7_credit := ⟨List.mem_of_getElem? (i := 1028) (by decide +kernel), List.mem_of_getElem? (i := 1029) (by decide +kernel), List.mem_of_getElem? (i := 1030) (by decide +kernel), List.mem_of_getElem? (i := 55) (by decide +kernel)⟩
theorem lnL_86 : h_LV RL 86 yX7_give := ⟨List.mem_of_getElem? (i := 1032) (by decide +kernel), List.mem_of_getElem? (i := 1033) (by decide +kernel), List.mem_of_getElem? (i := 1034) (by decide +kernel), List.mem_of_getElem? (i := 55) (by decide +kernel)⟩
theorem lnL_90 : h_LV RL 90 yX7_lack := ⟨List.mem_of_getElem? (i := 1036) (by decide +kernel), List.mem_of_getElem? (i := 1037) (by decide +kernel), List.mem_of_getElem? (i := 1038) (by decide +kernel), List.mem_of_getElem? (i := 55) (by decide +kernel)⟩
theorem lnL_94 : h_LV RL 94 yX7_road := ⟨List.mem_of_getElem? (i := 1040) (by decide +kernel), List.mem_of_getElem? (i := 1041) (by decide +kernel), List.mem_of_getElem? (i := 1042) (by decide +kernel), List.mem_of_getElem? (i := 55) (by decide +kernel)⟩
theorem lnX7_238 : h_LS RX7 238 yX7_isMint := ⟨List.mem_of_getElem? (i := 1044) (by decide +kernel), List.mem_of_getElem? (i := 1045) (by decide +kernel), List.mem_of_getElem? (i := 55) (by decide +kernel)⟩
theorem lnL_98 : h_LV RL 98 yX7_send := ⟨List.mem_of_getElem? (i := 1047) (by decide +kernel), List.mem_of_getElem? (i := 1048) (by decide +kernel), List.mem_of_getElem? (i := 1049) (by decide +kernel), List.mem_of_getElem? (i := 55) (by decide +kernel)⟩
theorem lnL_102 : h_LV RL 102 yX7_bring := ⟨List.mem_of_getElem? (i := 1051) (by decide +kernel), List.mem_of_getElem? (i := 1052) (by decide +kernel), List.mem_of_getElem? (i := 1053) (by decide +kernel), List.mem_of_getElem? (i := 55) (by decide +kernel)⟩
theorem lnX7_241 : h_LV RX7 241 yX7_isAtMint := ⟨List.mem_of_getElem? (i := 1055) (by decide +kernel), List.mem_of_getElem? (i := 1057) (by decide +kernel), List.mem_of_getElem? (i := 45) (by decide +kernel), List.mem_of_getElem? (i := 55) (by decide +kernel)⟩
theorem lnL_106 : h_LV RL 106 yX7_melt := ⟨List.mem_of_getElem? (i := 1059) (by decide +kernel), List.mem_of_getElem? (i := 1060) (by decide +kernel), List.mem_of_getElem? (i := 1061) (by decide +kernel), List.mem_of_getElem? (i := 55) (by decide +kernel)⟩
theorem lnX7_244 : h_LV RX7 244 yX7_meltedToday := ⟨List.mem_of_getElem? (i := 1063) (by decide +kernel), List.mem_of_getElem? (i := 1065) (by decide +kernel), List.mem_of_getElem? (i := 46) (by decide +kernel), List.mem_of_getElem? (i := 55) (by decide +kernel)⟩
theorem lnL_110 : h_LV RL 110 yX7_furnace := ⟨List.mem_of_getElem? (i := 1067) (by decide +kernel), List.mem_of_getElem? (i := 1068) (by decide +kernel), List.mem_of_getElem? (i := 1069) (by decide +kernel), List.mem_of_getElem? (i := 55) (by decide +kernel)⟩
theorem lnL_114 : h_LV RL 114 yX7_refine := ⟨List.mem_of_getElem? (i := 1071) (by decide +kernel), List.mem_of_getElem? (i := 1072) (by decide +kernel), List.mem_of_getElem? (i := 1073) (by decide +kernel), List.mem_of_getElem? (i := 55) (by decide +kernel)⟩
theorem lnL_118 : h_LV RL 118 yX7_strike := ⟨List.mem_of_getElem? (i := 1078) (by decide +kernel), List.mem_of_getElem? (i := 1079) (by decide +kernel), List.mem_of_getElem? (i := 1080) (by decide +kernel), List.mem_of_getElem? (i := 55) (by decide +kernel)⟩
theorem lnL_123 : h_LV RL 123 yX7_mint := ⟨List.mem_of_getElem? (i := 1082) (by decide +kernel), List.mem_of_getElem? (i := 1083) (by decide +kernel), List.mem_of_getElem? (i := 1084) (by decide +kernel), List.mem_of_getElem? (i := 55) (by decide +kernel)⟩
theorem lnL_128 : h_LV RL 128 yX7_all := ⟨List.mem_of_getElem? (i := 1086) (by decide +kernel), List.mem_of_getElem? (i := 1087) (by decide +kernel), List.mem_of_getElem? (i := 1088) (by decide +kernel), List.mem_of_getElem? (i := 55) (by decide +kernel)⟩
theorem lnL_132 : h_LV RL 132 yX7_drawn := ⟨List.mem_of_getElem? (i := 1090) (by decide +kernel), List.mem_of_getElem? (i := 1091) (by decide +kernel), List.mem_of_getElem? (i := 1092) (by decide +kernel), List.mem_of_getElem? (i := 55) (by decide +kernel)⟩
theorem lnL_136 : h_LV RL 136 yX7_wish := ⟨List.mem_of_getElem? (i := 1094) (by decide +kernel), List.mem_of_getElem? (i := 1095) (by decide +kernel), List.mem_of_getElem? (i := 1096) (by decide +kernel), List.mem_of_getElem? (i := 55) (by decide +kernel)⟩
theorem lnL_140 : h_LV RL 140 yX7_flow := ⟨List.mem_of_getElem? (i := 1098) (by decide +kernel), List.mem_of_getElem? (i := 1099) (by decide +kernel), List.mem_of_getElem? (i := 1100) (by decide +kernel), List.mem_of_getElem? (i := 55) (by decide +kernel)⟩
theorem lnX7_260 : h_LV RX7 260 yX7_sendOne := ⟨List.mem_of_getElem? (i := 1102) (by decide +kernel), List.mem_of_getElem? (i := 1104) (by decide +kernel), List.mem_of_getElem? (i := 47) (by decide +kernel), List.mem_of_getElem? (i := 55) (by decide +kernel)⟩
theorem lnX7_257 : h_LV RX7 257 yX7_findFar := ⟨List.mem_of_getElem? (i := 1106) (by decide +kernel), List.mem_of_getElem? (i := 1108) (by decide +kernel), List.mem_of_getElem? (i := 48) (by decide +kernel), List.mem_of_getElem? (i := 55) (by decide +kernel)⟩
theorem lnL_144 : h_LV RL 144 yX7_sent := ⟨List.mem_of_getElem? (i := 1110) (by decide +kernel), List.mem_of_getElem? (i := 1111) (by decide +kernel), List.mem_of_getElem? (i := 1112) (by decide +kernel), List.mem_of_getElem? (i := 55) (by decide +kernel)⟩
theorem lnL_148 : h_LV RL 148 yX7_count := ⟨List.mem_of_getElem? (i := 1114) (by decide +kernel), List.mem_of_getElem? (i := 1115) (by decide +kernel), List.mem_of_getElem? (i := 1116) (by decide +kernel), List.mem_of_getElem? (i := 55) (by decide +kernel)⟩
theorem klL_7 : Cond.classLink RL 7 RX6 ∈ lw_tbl := List.mem_of_getElem? (i := 65) (by decide +kernel)
theorem koX6 : Cond.methodLink RX6 1 objectInit ∈ lw_tbl := List.mem_of_getElem? (i := 70) (by decide +kernel)
theorem klX6_9 : Cond.classLink RX6 9 RX4 ∈ lw_tbl := List.mem_of_getElem? (i := 73) (by decide +kernel)
theorem klX6_15 : Cond.classLink RX6 15 RX1 ∈ lw_tbl := List.mem_of_getElem? (i := 75) (by decide +kernel)
theorem klX6_21 : Cond.classLink RX6 21 RX2 ∈ lw_tbl := List.mem_of_getElem? (i := 77) (by decide +kernel)
theorem klX6_27 : Cond.classLink RX6 27 RX5 ∈ lw_tbl := List.mem_of_getElem? (i := 79) (by decide +kernel)
theorem koX5 : Cond.methodLink RX5 3 objectInit ∈ lw_tbl := List.mem_of_getElem? (i := 84) (by decide +kernel)
theorem ka_int : Cond.arrayClass .int ∈ lw_tbl := List.mem_of_getElem? (i := 104) (by decide +kernel)
theorem ka_byte : Cond.arrayClass .byte ∈ lw_tbl := List.mem_of_getElem? (i := 105) (by decide +kernel)
theorem klX6_34 : Cond.classLink RX6 34 RX3 ∈ lw_tbl := List.mem_of_getElem? (i := 106) (by decide +kernel)
theorem klX6_60 : Cond.classLink RX6 60 RX0 ∈ lw_tbl := List.mem_of_getElem? (i := 108) (by decide +kernel)
theorem koX0 : Cond.methodLink RX0 3 objectInit ∈ lw_tbl := List.mem_of_getElem? (i := 113) (by decide +kernel)
theorem ka_long : Cond.arrayClass .long ∈ lw_tbl := List.mem_of_getElem? (i := 136) (by decide +kernel)
theorem koX3 : Cond.methodLink RX3 3 objectInit ∈ lw_tbl := List.mem_of_getElem? (i := 144) (by decide +kernel)
theorem kcX3_9 : Cond.constant RX3 9 (100000) ∈ lw_tbl := List.mem_of_getElem? (i := 145) (by decide +kernel)
theorem koX4 : Cond.methodLink RX4 3 objectInit ∈ lw_tbl := List.mem_of_getElem? (i := 244) (by decide +kernel)
theorem kcX6_236 : Cond.constant RX6 236 (100000) ∈ lw_tbl := List.mem_of_getElem? (i := 280) (by decide +kernel)
theorem koX1 : Cond.methodLink RX1 3 objectInit ∈ lw_tbl := List.mem_of_getElem? (i := 289) (by decide +kernel)
theorem kcX6_173 : Cond.constantLong RX6 173 (-1) ∈ lw_tbl := List.mem_of_getElem? (i := 368) (by decide +kernel)
theorem koX2 : Cond.methodLink RX2 3 objectInit ∈ lw_tbl := List.mem_of_getElem? (i := 479) (by decide +kernel)
theorem kcX6_225 : Cond.constant RX6 225 (1000000) ∈ lw_tbl := List.mem_of_getElem? (i := 551) (by decide +kernel)
theorem kcX3_37 : Cond.constantLong RX3 37 (925) ∈ lw_tbl := List.mem_of_getElem? (i := 634) (by decide +kernel)
theorem kcX3_42 : Cond.constantLong RX3 42 (74) ∈ lw_tbl := List.mem_of_getElem? (i := 635) (by decide +kernel)
theorem kcX3_44 : Cond.constantLong RX3 44 (75) ∈ lw_tbl := List.mem_of_getElem? (i := 636) (by decide +kernel)
theorem kcX3_49 : Cond.constantLong RX3 49 (1000) ∈ lw_tbl := List.mem_of_getElem? (i := 637) (by decide +kernel)
theorem kcX6_289 : Cond.constantLong RX6 289 (1000) ∈ lw_tbl := List.mem_of_getElem? (i := 654) (by decide +kernel)
theorem kcX0_61 : Cond.constant RX0 61 (1000000) ∈ lw_tbl := List.mem_of_getElem? (i := 681) (by decide +kernel)
theorem klL_10 : Cond.classLink RL 10 RX7 ∈ lw_tbl := List.mem_of_getElem? (i := 729) (by decide +kernel)
theorem koX7 : Cond.methodLink RX7 1 objectInit ∈ lw_tbl := List.mem_of_getElem? (i := 734) (by decide +kernel)
theorem kcX7_100 : Cond.constant RX7 100 (100000) ∈ lw_tbl := List.mem_of_getElem? (i := 735) (by decide +kernel)
theorem ka_boolean : Cond.arrayClass .boolean ∈ lw_tbl := List.mem_of_getElem? (i := 883) (by decide +kernel)
theorem kcX7_177 : Cond.constantLong RX7 177 (-1) ∈ lw_tbl := List.mem_of_getElem? (i := 938) (by decide +kernel)
theorem kcX7_228 : Cond.constant RX7 228 (1000000) ∈ lw_tbl := List.mem_of_getElem? (i := 1015) (by decide +kernel)
theorem kcX7_247 : Cond.constantLong RX7 247 (925) ∈ lw_tbl := List.mem_of_getElem? (i := 1075) (by decide +kernel)
theorem kcX7_249 : Cond.constantLong RX7 249 (1000) ∈ lw_tbl := List.mem_of_getElem? (i := 1076) (by decide +kernel)
theorem kcX7_251 : Cond.constantLong RX7 251 (75) ∈ lw_tbl := List.mem_of_getElem? (i := 1077) (by decide +kernel)
theorem kcL_42 : Cond.constantLong RL 42 (4294967295) ∈ lw_tbl := List.mem_of_getElem? (i := 1118) (by decide +kernel)
theorem ko_i : Cond.instanceMethod objectInit ∈ lw_tbl := List.mem_of_getElem? (i := 71) (by decide +kernel)
theorem ko_c : Cond.code objectInit ⟨#[0xb1]⟩ 1 none ∈ lw_tbl := List.mem_of_getElem? (i := 72) (by decide +kernel)
abbrev dfX0 : List Value := [.null, .null, .null, .null, .null, .null, .null]
theorem dfX0_ok : ∀ j, j < 7 → (parseFieldDescriptor (TX0 j).2.2.1).map defaultValue = some (vp_V dfX0 j) := by decide +kernel
abbrev dfX1 : List Value := [.int 0, .null, .int 0, .int 0, .int 0, .int 0, .int 0, .int 0, .int 0, .int 0, .int 0, .int 0]
theorem dfX1_ok : ∀ j, j < 12 → (parseFieldDescriptor (TX1 j).2.2.1).map defaultValue = some (vp_V dfX1 j) := by decide +kernel
abbrev dfX2 : List Value := [.null, .null, .null]
theorem dfX2_ok : ∀ j, j < 3 → (parseFieldDescriptor (TX2 j).2.2.1).map defaultValue = some (vp_V dfX2 j) := by decide +kernel
abbrev dfX3 : List Value := [.long 0, .long 0, .int 0, .long 0, .long 0, .long 0, .int 0, .int 0, .int 0]
theorem dfX3_ok : ∀ j, j < 9 → (parseFieldDescriptor (TX3 j).2.2.1).map defaultValue = some (vp_V dfX3 j) := by decide +kernel
abbrev dfX4 : List Value := [.int 0, .int 0, .int 0, .int 0]
theorem dfX4_ok : ∀ j, j < 4 → (parseFieldDescriptor (TX4 j).2.2.1).map defaultValue = some (vp_V dfX4 j) := by decide +kernel
abbrev dfX5 : List Value := [.null, .null, .int 0, .null, .int 0]
theorem dfX5_ok : ∀ j, j < 5 → (parseFieldDescriptor (TX5 j).2.2.1).map defaultValue = some (vp_V dfX5 j) := by decide +kernel
abbrev dfX6 : List Value := [.null, .int 0, .null, .int 0, .null, .int 0, .null, .null, .null, .null, .null, .int 0, .null, .null, .null, .null, .int 0]
theorem dfX6_ok : ∀ j, j < 17 → (parseFieldDescriptor (TX6 j).2.2.1).map defaultValue = some (vp_V dfX6 j) := by decide +kernel
abbrev dfX7 : List Value := [.int 0, .int 0, .null, .null, .null, .null, .int 0, .int 0, .null, .null, .null, .null, .null, .null, .null, .null, .null, .null, .null, .null, .int 0, .int 0, .null, .null, .null, .null, .int 0, .int 0, .null, .int 0, .null, .null, .null, .null, .null, .null, .null, .null, .null, .null, .null, .long 0, .null, .null, .null, .null, .null, .null, .null]
theorem dfX7_ok : ∀ j, j < 49 → (parseFieldDescriptor (TX7 j).2.2.1).map defaultValue = some (vp_V dfX7 j) := by decide +kernel
end
section
/-! THE ABSTRACT HEAP: keys instead of addresses; a method's contract speaks of keys and cells alone. -/
section HCORE
abbrev hG : Type := va_G × (FieldType → ClassId)
abbrev hE : Type := (FieldType × vp_A) ⊕ (Nat × List Value)
abbrev hH : Type := Nat → Option hE
def h_rv (α : Nat → Nat) (v : Value) : Value := match v with
  | .ref k => .ref (α k)
  | v => v
def h_ra (α : Nat → Nat) (a : vp_A) : vp_A := match a with
  | (n, .inr (.inr (.inr (.inr f)))) => (n, .inr (.inr (.inr (.inr (fun j => (f j).map α)))))
  | a => a
def h_re (D : hG) (α : Nat → Nat) (e : hE) : va_E := match e with
  | .inl q => .inl (D.2 q.1, h_ra α q.2)
  | .inr q => .inr (q.1, q.2.map (h_rv α))
def h_P (D : hG) (α : Nat → Nat) (h : hH) (H : Heap) : Prop := ∀ (k : Nat) (e : hE), h k = some e → va_at D.1 vwCl (α k, h_re D α e) H
def h_D (A : Nat → Prop) (α : Nat → Nat) (h : hH) : Prop := (∀ i j : Nat, h i ≠ none → h j ≠ none → α i = α j → i = j) ∧ ∀ k : Nat, k < 9000 → h k ≠ none → A (α k)
/-- closed: a reference is to a key that is there, or to a constant (9000 and on) -/
def h_ok (h : hH) (k : Nat) : Prop := h k ≠ none ∨ 9000 ≤ k
def h_cv (h : hH) (v : Value) : Prop := match v with
  | .ref k => h_ok h k
  | _ => True
def h_ce (h : hH) (e : hE) : Prop := match e with
  | .inl (_, _, .inr (.inr (.inr (.inr f)))) => ∀ (j k : Nat), f j = some k → h_ok h k
  | .inl _ => True
  | .inr q => ∀ v ∈ q.2, h_cv h v
def h_cH (h : hH) : Prop := ∀ (k : Nat) (e : hE), h k = some e → h_ce h e
def h_cl (h : hH) (st : List Value) : Prop := ∀ v ∈ st, h_cv h v
def h_ll (h : hH) (ls : List (Nat × Value)) : Prop := ∀ q ∈ ls, h_cv h q.2
def h_AA (α0 : Nat → Nat) (h0 : hH) (n : Nat) : Nat → Prop := fun q => (∃ k : Nat, k < 9000 ∧ h0 k ≠ none ∧ q = α0 k) ∨ n ≤ q
abbrev h_tys (D : hG) : List (ClassId × FieldType) := [(D.2 .int, .int), (D.2 .long, .long), (D.2 .byte, .byte), (D.2 .boolean, .boolean), (D.2 (.object RX4), .object RX4), (D.2 (.object RX1), .object RX1), (D.2 (.object RX2), .object RX2), (D.2 (.object RX3), .object RX3)]
/-- below h_B lie the String constants and the statics; h_sK, h_sV: the four Strings of the Tape, and their bytes -/
def h_B (D : hG) : Nat := D.2 (.object "#B")
def h_ct : Nat → FieldType
  | 0 => .object "#C"
  | n + 1 => .array (h_ct n)
def h_cn (D : hG) (i : Nat) : Nat := D.2 (h_ct i)
def h_sK (D : hG) : Nat → Nat := fun i => h_cn D i
def h_sV (D : hG) : Nat → Nat := fun i => h_cn D (10 + i)
def h_len : List Nat := [1, 4, 3, 11]
def h_byt : List (List Int32) := [[59], [32, 105, 115, 32], [111, 117, 116], [32, 98, 121, 32, 119, 101, 105, 103, 104, 116, 32]]
def h_SS (D : hG) (U : State) : Prop := h_B D ≤ U.heap.size ∧ vk_S 4 h_len h_byt (h_sK D) (h_sV D) (fun q => h_B D ≤ q) U U.heap ∧ (vk_R RX5 39 ";" (h_sK D 0) U ∧ vk_R RX5 56 " is " (h_sK D 1) U ∧ vk_R RX5 62 "out" (h_sK D 2) U ∧ vk_R RX5 72 " by weight " (h_sK D 3) U) ∧ va_Z "java/lang/String" "COMPACT_STRINGS" "Z" (.int 1) (fun q => h_B D ≤ q) U U.heap ∧ (va_Z "jdk/internal/util/Preconditions" "SIOOBE_FORMATTER" "Ljava/util/function/BiFunction;" .null (fun q => h_B D ≤ q) U U.heap ∨ va_Z "jdk/internal/util/Preconditions" "SIOOBE_FORMATTER" "Ljava/util/function/BiFunction;" (.ref (h_cn D 20)) (fun q => h_B D ≤ q) U U.heap) ∧ va_Nw (.castable "[I" "java/lang/Cloneable") U
def h_K (D : hG) (U : State) : Prop := va_K D.1 vwCl (h_tys D) U ∧ (∀ q ∈ h_nest, va_Nw (.methodLinkNest q.1 q.2.1 q.2.2.1 q.2.2.2) U) ∧ (∀ C ∈ [RX4, RX1, RX2, RX3], va_AO C U) ∧ h_SS D U
/-- the world lies above, the constants' keys are the constants -/
def h_up (D : hG) (α : Nat → Nat) (h : hH) : Prop := (∀ k : Nat, k < 9000 → h k ≠ none → h_B D ≤ α k) ∧ ∀ i : Nat, α (9001 + i) = h_cn D i
def hw_tbl : List Cond := lw_tbl.filter goodWord
theorem h_in {w : Cond} (h : w ∈ lw_tbl) (g : goodWord w = true) : w ∈ hw_tbl := List.mem_filter.mpr ⟨h, g⟩
theorem h_good : GoodIn hw_tbl hw_tbl := fun w h => ⟨h, good_of_word (List.mem_filter.mp h).2⟩
def h_ws (M : hM) : List Cond := Cond.code (h_y M) (h_cc M) (h_nL M) (h_ret M) :: hw_tbl
def fnd {β : Type} : List (Nat × β) → Nat → Option β
  | [], _ => none
  | (a, b) :: l, k => bif Nat.beq a k then some b else fnd l k
theorem fnd_mem {β : Type} : ∀ (l : List (Nat × β)) (k : Nat) (b : β), fnd l k = some b → (k, b) ∈ l
  | [], k, b, h => by cases h
  | (a, c) :: l, k, b, h => by
    unfold fnd at h
    cases hq : Nat.beq a k with
    | true =>
      rw [hq] at h
      have e1 := Nat.eq_of_beq_eq_true hq
      cases h
      subst e1
      exact List.mem_cons_self
    | false =>
      rw [hq] at h
      exact List.mem_cons_of_mem _ (fnd_mem l k b h)
def h_Cx (M : hM) (p : Program) (s : State) (m : MethodId) (args : Array Value) (meth : Method) (c : Code) (D : hG) : Prop :=
  p.tables.exec = Jvm.exec ∧ c.code = h_cc M ∧ c.maxLocals = h_nL M ∧ s.vm.findClass (h_own M) = some m.cls ∧ (∀ w ∈ hw_tbl, w.before args s = true) ∧ meth.sig.returnType = h_ret M ∧ meth.locks = false ∧ ((h_y M).name = "<init>" → meth.name = "<init>") ∧ h_K D s ∧ (∀ q ∈ h_tab M, decode (h_cc M) q.1 = .ok q.2)
def h_Wd (D : hG) (α : Nat → Nat) (h : hH) (α0 : Nat → Nat) (h0 : hH) (s : State) (H : Heap) (locs : List Loc) : Prop :=
  h_P D α h H ∧ h_D (h_AA α0 h0 s.heap.size) α h ∧ va_S (h_AA α0 h0 s.heap.size) s.heap H locs ∧ (∀ k : Nat, h_ok h0 k → h_ok h k ∧ α k = α0 k) ∧ h_cH h ∧ h_up D α h ∧ h_B D ≤ s.heap.size
def h_QQ (D : hG) (α0 : Nat → Nat) (h0 : hH) (Q : Option Value → hH → Prop) : Array Value → State → Outcome → State → Prop := fun _ st o t =>
  ∃ (v : Option Value) (h' : hH) (α' : Nat → Nat), o = .returned (v.map (h_rv α')) ∧ Q v h' ∧ h_P D α' h' t.heap ∧ h_D (h_AA α0 h0 st.heap.size) α' h' ∧ (∀ k : Nat, h_ok h0 k → h_ok h' k ∧ α' k = α0 k) ∧ (h_cH h' ∧ h_up D α' h') ∧ (∀ w : Value, v = some w → h_cv h' w) ∧ va_F (h_AA α0 h0 st.heap.size) st t
/-- FROM HERE THE METHOD ENDS WITH Q: at pc, with locals ls and stack st, over the abstract heap h -/
def J (M : hM) (R : Room) (Q : Option Value → hH → Prop) (cells slots : Nat) (h : hH) (pc : Nat) (ls : List (Nat × Value)) (st : List Value) : Prop :=
  ∀ (p : Program) (l : Launch) (e : Env) (s : State) (m : MethodId) (args : Array Value) (below : List Frame) (meth : Method) (c : Code) (H : Heap) (locs : List Loc) (D : hG) (α α0 : Nat → Nat) (h0 : hH) (lsA : Array Slot),
    h_Cx M p s m args meth c D → h_Wd D α h α0 h0 s H locs → h_ll h ls → h_cl h st → lv_has lsA (h_nL M) (ls.map (fun q => (q.1, h_rv α q.2))) →
    W p l e R s m args below meth c H locs cells slots (MQ below (h_QQ D α0 h0 Q) args s R.cells R.slots (h_AA α0 h0 s.heap.size)) (F0 m pc lsA (st.map (h_rv α)))
/-- A METHOD'S CONTRACT over the abstract heap -/
def Sp (M : hM) (R : Room) (av : List Value) (h : hH) (Q : Option Value → hH → Prop) : Prop :=
  ∀ (l : Launch) (D : hG) (α : Nat → Nat) (sz : Nat), Met l (h_y M) (h_ws M) R
    (va_Pc (av.map (h_rv α)) (fun U => U.heap.size = sz ∧ h_K D U ∧ h_P D α h U.heap ∧ h_D (fun _ => True) α h ∧ h_cH h ∧ h_cl h av ∧ h_up D α h)) (h_QQ D α h Q) R.cells R.slots (h_AA α h sz)
theorem h_rv_cat (α : Nat → Nat) (v : Value) : (h_rv α v).category = v.category := by cases v <;> rfl
theorem h_rv_ext {h : hH} {α α' : Nat → Nat} (e : ∀ k : Nat, h_ok h k → α' k = α k) {v : Value} (c : h_cv h v) : h_rv α' v = h_rv α v := by
  cases v with
  | ref k => show Value.ref _ = Value.ref _; rw [e k c]
  | _ => rfl
theorem h_map_ext {h : hH} {α α' : Nat → Nat} (e : ∀ k : Nat, h_ok h k → α' k = α k) {st : List Value} (c : h_cl h st) : st.map (h_rv α') = st.map (h_rv α) := List.map_congr_left fun v hv => h_rv_ext e (c v hv)
theorem h_lmap_ext {h : hH} {α α' : Nat → Nat} (e : ∀ k : Nat, h_ok h k → α' k = α k) {ls : List (Nat × Value)} (c : h_ll h ls) : ls.map (fun q => (q.1, h_rv α' q.2)) = ls.map (fun q => (q.1, h_rv α q.2)) := List.map_congr_left fun q hq => by rw [h_rv_ext e (c q hq)]
theorem h_re_ext {D : hG} {h : hH} {α α' : Nat → Nat} (e : ∀ k : Nat, h_ok h k → α' k = α k) {x : hE} (c : h_ce h x) : h_re D α' x = h_re D α x := by
  cases x with
  | inl q =>
    obtain ⟨t, n, f | f | f | f | f⟩ := q
    · rfl
    · rfl
    · rfl
    · rfl
    · show Sum.inl _ = Sum.inl _
      congr 2
      show (n, _) = (n, _)
      congr 5
      funext j
      cases hj : f j with
      | none => rfl
      | some k => show some _ = some _; rw [e k (c j k hj)]
  | inr q =>
    show Sum.inr _ = Sum.inr _
    rw [h_map_ext e c]
theorem h_cv_mono {h h' : hH} (e : ∀ k : Nat, h_ok h k → h_ok h' k) {v : Value} (c : h_cv h v) : h_cv h' v := by
  cases v with
  | ref k => exact e k c
  | _ => trivial
theorem h_cl_mono {h h' : hH} (e : ∀ k : Nat, h_ok h k → h_ok h' k) {st : List Value} (c : h_cl h st) : h_cl h' st := fun v hv => h_cv_mono e (c v hv)
theorem h_ll_mono {h h' : hH} (e : ∀ k : Nat, h_ok h k → h_ok h' k) {ls : List (Nat × Value)} (c : h_ll h ls) : h_ll h' ls := fun v hv => h_cv_mono e (c v hv)
theorem h_ce_mono {h h' : hH} (e : ∀ k : Nat, h_ok h k → h_ok h' k) {x : hE} (c : h_ce h x) : h_ce h' x := by
  cases x with
  | inl q =>
    obtain ⟨t, n, f | f | f | f | f⟩ := q
    · trivial
    · trivial
    · trivial
    · trivial
    · exact fun j k hj => e k (c j k hj)
  | inr q => exact fun v hv => h_cv_mono e (c v hv)
theorem h_cl_cons {h : hH} {v : Value} {st : List Value} (a : h_cv h v) (b : h_cl h st) : h_cl h (v :: st) := fun w hw => by
  rcases List.mem_cons.mp hw with e | e
  · rw [e]; exact a
  · exact b w e
theorem h_cl_hd {h : hH} {v : Value} {st : List Value} (b : h_cl h (v :: st)) : h_cv h v := b v List.mem_cons_self
theorem h_cl_tl {h : hH} {v : Value} {st : List Value} (b : h_cl h (v :: st)) : h_cl h st := fun w hw => b w (List.mem_cons_of_mem _ hw)
theorem h_cl_i {h : hH} {x : Int32} {st : List Value} (b : h_cl h st) : h_cl h (.int x :: st) := h_cl_cons trivial b
theorem h_cl_l {h : hH} {x : Int64} {st : List Value} (b : h_cl h st) : h_cl h (.long x :: st) := h_cl_cons trivial b
def hup (h : hH) (k : Nat) (e : hE) : hH := fun j => if j = k then some e else h j
theorem hup_self (h : hH) (k : Nat) (e : hE) : hup h k e k = some e := if_pos rfl
theorem hup_ne {h : hH} {k j : Nat} {e : hE} (n : j ≠ k) : hup h k e j = h j := if_neg n
theorem hup_some (h : hH) (k : Nat) (e : hE) : hup h k e k ≠ none := by rw [hup_self]; exact fun z => by cases z
theorem hup_mono {h : hH} {k : Nat} {e : hE} (j : Nat) (q : h_ok h j) : h_ok (hup h k e) j := by
  rcases q with q | q
  · refine Or.inl ?_
    by_cases hj : j = k
    · rw [hj]; exact hup_some h k e
    · rw [hup_ne hj]; exact q
  · exact Or.inr q
/-- a cell is written -/
theorem h_Wd.put {D : hG} {α : Nat → Nat} {h : hH} {α0 : Nat → Nat} {h0 : hH} {s : State} {H H1 : Heap} {locs : List Loc} {i : Nat} (hW : h_Wd D α h α0 h0 s H locs) {k : Nat} {e0 e : hE} (hk : h k = some e0) (hro : k < 9000) (hc : h_ce h e)
    (he : va_at D.1 vwCl (α k, h_re D α e) H1) (hz : H1.size = H.size) (oq : ∀ q : Nat, q ≠ α k → H1[q]? = H[q]?) : h_Wd D α (hup h k e) α0 h0 s H1 (locs ++ [⟨α k, i⟩]) := by
  obtain ⟨hP, hD, hS, hX, hC, hU, hB⟩ := hW
  have hne : ∀ j : Nat, hup h k e j ≠ none → h j ≠ none := fun j q => by
    by_cases hj : j = k
    · rw [hj, hk]; exact fun z => by cases z
    · rwa [hup_ne hj] at q
  have hkn : h k ≠ none := by rw [hk]; exact fun z => by cases z
  refine ⟨fun j x hj => ?_, ⟨fun i j hi hj => hD.1 i j (hne i hi) (hne j hj), fun j hj q => hD.2 j hj (hne j q)⟩, hS.put hz oq (hD.2 k hro hkn), fun j q => ⟨hup_mono j (hX j q).1, (hX j q).2⟩, fun j x hj => ?_, ⟨fun j hj q => hU.1 j hj (hne j q), hU.2⟩, hB⟩
  · by_cases hjk : j = k
    · subst hjk
      rw [hup_self] at hj
      cases hj
      exact he
    · rw [hup_ne hjk] at hj
      exact (hP j x hj).kept (oq _ fun z => hjk (hD.1 j k (by rw [hj]; exact fun z => by cases z) hkn z))
  · by_cases hjk : j = k
    · subst hjk
      rw [hup_self] at hj
      cases hj
      exact h_ce_mono hup_mono hc
    · rw [hup_ne hjk] at hj
      exact h_ce_mono hup_mono (hC j x hj)
def h_al (α : Nat → Nat) (k a : Nat) : Nat → Nat := fun j => if j = k then a else α j
/-- a cell is made -/
theorem h_Wd.push {D : hG} {α : Nat → Nat} {h : hH} {α0 : Nat → Nat} {h0 : hH} {s : State} {H H1 : Heap} {locs : List Loc} (hW : h_Wd D α h α0 h0 s H locs) {k : Nat} {e : hE} (hk : h k = none) (hk9 : k < 9000) (hc : h_ce h e)
    (he : va_at D.1 vwCl (H.size, h_re D α e) H1) (hz : H1.size = H.size + 1) (oq : ∀ q : Nat, q < H.size → H1[q]? = H[q]?) : h_Wd D (h_al α k H.size) (hup h k e) α0 h0 s H1 locs ∧ ∀ j : Nat, h_ok h j → h_al α k H.size j = α j := by
  obtain ⟨hP, hD, hS, hX, hC, hU, hB⟩ := hW
  have hal : ∀ j : Nat, h_ok h j → h_al α k H.size j = α j := fun j q => if_neg fun z => by
    rcases q with q | q
    · exact q (by rw [z]; exact hk)
    · omega
  have hlt : ∀ j : Nat, h j ≠ none → α j < H.size := fun j q => by
    cases hj : h j with
    | none => exact absurd hj q
    | some x => exact (hP j x hj).lt
  have hne : ∀ j : Nat, hup h k e j ≠ none → j = k ∨ h j ≠ none := fun j q => by
    by_cases hj : j = k
    · exact Or.inl hj
    · rw [hup_ne hj] at q; exact Or.inr q
  have hself : h_al α k H.size k = H.size := if_pos rfl
  refine ⟨⟨fun j x hj => ?_, ⟨fun i j hi hj hij => ?_, fun j hj q => ?_⟩, ⟨Nat.le_trans hS.1 (by omega), fun q h1 h2 => (oq q (Nat.lt_of_lt_of_le h1 hS.1)).trans (hS.2.1 q h1 h2), hS.2.2⟩, fun j q => ⟨hup_mono j (hX j q).1, (hal j (hX j q).1).trans (hX j q).2⟩, fun j x hj => ?_, ⟨fun j hj q => ?_, fun i => (hal _ (Or.inr (by omega))).trans (hU.2 i)⟩, hB⟩, hal⟩
  · by_cases hjk : j = k
    · subst hjk
      rw [hup_self] at hj
      cases hj
      rw [hself, h_re_ext hal hc]
      exact he
    · rw [hup_ne hjk] at hj
      have q : h j ≠ none := by rw [hj]; exact fun z => by cases z
      rw [hal j (Or.inl q), h_re_ext hal (hC j x hj)]
      exact (hP j x hj).kept (oq _ (hlt j q))
  · rcases hne i hi with ei | qi
    · rcases hne j hj with ej | qj
      · rw [ei, ej]
      · rw [ei, hself, hal j (Or.inl qj)] at hij; exact absurd (hlt j qj) (by omega)
    · rcases hne j hj with ej | qj
      · rw [ej, hself, hal i (Or.inl qi)] at hij; exact absurd (hlt i qi) (by omega)
      · rw [hal i (Or.inl qi), hal j (Or.inl qj)] at hij; exact hD.1 i j qi qj hij
  · rcases hne j q with rfl | q
    · rw [hself]; exact Or.inr hS.1
    · rw [hal j (Or.inl q)]; exact hD.2 j hj q
  · by_cases hjk : j = k
    · subst hjk
      rw [hup_self] at hj
      cases hj
      exact h_ce_mono hup_mono hc
    · rw [hup_ne hjk] at hj
      exact h_ce_mono hup_mono (hC j x hj)
  · rcases hne j q with rfl | q
    · rw [hself]; exact Nat.le_trans hB hS.1
    · rw [hal j (Or.inl q)]; exact hU.1 j hj q
theorem h_has {lsA : Array Slot} {n : Nat} {α : Nat → Nat} {ls : List (Nat × Value)} (hl : lv_has lsA n (ls.map (fun q => (q.1, h_rv α q.2)))) {i : Nat} {v : Value} (hv : fnd ls i = some v) : lsA[i]? = some (.val (h_rv α v)) :=
  hl.2.2 (i, h_rv α v) (List.mem_map.mpr ⟨(i, v), fnd_mem _ _ _ hv, rfl⟩)
theorem h_lat {h : hH} {ls : List (Nat × Value)} (c : h_ll h ls) {i : Nat} {v : Value} (hv : fnd ls i = some v) : h_cv h v := c (i, v) (fnd_mem _ _ _ hv)
theorem h_dec {M : hM} {p : Program} {s : State} {m : MethodId} {args : Array Value} {meth : Method} {c : Code} {D : hG} (C : h_Cx M p s m args meth c D) {pc : Nat} {x : Instr × Nat} (hd : fnd (h_tab M) pc = some x) : decode (h_cc M) pc = .ok x := C.2.2.2.2.2.2.2.2.2 (pc, x) (fnd_mem _ _ _ hd)
/-- locals after a store of one word, of two -/
def lset1 (i : Nat) (v : Value) (ls : List (Nat × Value)) : List (Nat × Value) := (i, v) :: ls.filter (fun q => !(q.1 == i) && !(q.1 + 1 == i && q.2.category == 2))
def lset2 (i : Nat) (v : Value) (ls : List (Nat × Value)) : List (Nat × Value) := (i, v) :: ls.filter (fun q => !(q.1 == i) && (!(q.1 == i + 1) && !(q.1 + 1 == i && q.2.category == 2)))
theorem h_lset1 (α : Nat → Nat) (i : Nat) (v : Value) (ls : List (Nat × Value)) : (i, h_rv α v) :: (ls.map (fun q => (q.1, h_rv α q.2))).filter (fun q => !(q.1 == i) && !(q.1 + 1 == i && q.2.category == 2)) = (lset1 i v ls).map (fun q => (q.1, h_rv α q.2)) := by
  unfold lset1
  rw [List.map_cons, List.filter_map]
  congr 2
  apply List.filter_congr
  intro q _
  simp [Function.comp, h_rv_cat]
theorem h_lset2 (α : Nat → Nat) (i : Nat) (v : Value) (ls : List (Nat × Value)) : (i, h_rv α v) :: (ls.map (fun q => (q.1, h_rv α q.2))).filter (fun q => !(q.1 == i) && (!(q.1 == i + 1) && !(q.1 + 1 == i && q.2.category == 2))) = (lset2 i v ls).map (fun q => (q.1, h_rv α q.2)) := by
  unfold lset2
  rw [List.map_cons, List.filter_map]
  congr 2
  apply List.filter_congr
  intro q _
  simp [Function.comp, h_rv_cat]
theorem h_ll1 {h : hH} {ls : List (Nat × Value)} {i : Nat} {v : Value} (a : h_cv h v) (b : h_ll h ls) : h_ll h (lset1 i v ls) := fun q hq => by
  rcases List.mem_cons.mp hq with e | e
  · rw [e]; exact a
  · exact b q (List.mem_filter.mp e).1
theorem h_ll2 {h : hH} {ls : List (Nat × Value)} {i : Nat} {v : Value} (a : h_cv h v) (b : h_ll h ls) : h_ll h (lset2 i v ls) := fun q hq => by
  rcases List.mem_cons.mp hq with e | e
  · rw [e]; exact a
  · exact b q (List.mem_filter.mp e).1
/-- fewer locals -/
def subL (ls : List (Nat × Value)) : List (Nat × Value) → Prop
  | [] => True
  | q :: r => fnd ls q.1 = some q.2 ∧ subL ls r
theorem subL_all {ls : List (Nat × Value)} : ∀ {r : List (Nat × Value)}, subL ls r → ∀ q ∈ r, fnd ls q.1 = some q.2
  | [], _, q, h => by cases h
  | a :: r, c, q, h => by
    rcases List.mem_cons.mp h with e | e
    · rw [e]; exact c.1
    · exact subL_all c.2 q e
theorem j_sub {M : hM} {R : Room} {Q : Option Value → hH → Prop} {cells slots : Nat} {h : hH} {pc : Nat} {ls ls' : List (Nat × Value)} {st : List Value} (c : subL ls ls') (k : J M R Q cells slots h pc ls' st) : J M R Q cells slots h pc ls st := by
  intro p l e s m args below meth c0 H locs D α α0 h0 lsA hC hW hll hcl hl
  refine k p l e s m args below meth c0 H locs D α α0 h0 lsA hC hW (fun q hq => h_lat hll (subL_all c q hq)) hcl ⟨hl.1, hl.2.1, fun q hq => ?_⟩
  obtain ⟨x, hx, rfl⟩ := List.mem_map.mp hq
  exact h_has hl (subL_all c x hx)
theorem j_heap {M : hM} {R : Room} {Q : Option Value → hH → Prop} {cells slots : Nat} {h h' : hH} {pc : Nat} {ls : List (Nat × Value)} {st : List Value} (e : h = h') (k : J M R Q cells slots h' pc ls st) : J M R Q cells slots h pc ls st := e ▸ k
theorem j_widen {M : hM} {R : Room} {Q : Option Value → hH → Prop} {cells slots : Nat} {h : hH} {pc : Nat} {ls : List (Nat × Value)} {st : List Value} {a b : Nat} (h1 : cells ≤ a) (h2 : slots ≤ b) (k : J M R Q a b h pc ls st) : J M R Q cells slots h pc ls st := by
  intro p l e s m args below meth c0 H locs D α α0 h0 lsA hC hW hll hcl hl
  exact W.widen h1 h2 (k p l e s m args below meth c0 H locs D α α0 h0 lsA hC hW hll hcl hl)
/-- the contract out of the walk -/
theorem sp_of {M : hM} {R : Room} {av : List Value} {h : hH} {Q : Option Value → hH → Prop} {n : Nat} (I : h_MI M n) (hsz : (lg_sl av).length ≤ h_nL M) (k : J M R Q 0 0 h 0 (lv_args 0 av) []) : Sp M R av h Q := by
  intro l D α sz
  refine Met.ofW (cc := h_cc M) (maxL := h_nL M) (ret := h_ret M) I.2.1 rfl ?_
  intro p e s m args below meth c s₁ B hml hv
  obtain ⟨rfl, hsz0, hK, hP, hD, hcH, hcl, hup⟩ := hv
  subst hsz0
  have hts := atoms_spec (ws := h_ws M) B.pre
  have hown : s.vm.findClass (h_own M) = some m.cls := by rw [← I.2.2.1]; exact findClass_of_methodNamed B.named
  have hin : (h_y M).name = "<init>" → meth.name = "<init>" := fun q => (name_of_methodNamed B.named B.method).1.trans q
  have hsl : (lg_sl (av.map (h_rv α))).length ≤ h_nL M := by
    have : ∀ l : List Value, (lg_sl (l.map (h_rv α))).length = (lg_sl l).length := by
      intro l
      induction l with
      | nil => rfl
      | cons v l ih =>
        have h1 : ∀ (n : Nat) (a b d : Slot), (if n = 2 then [a, b] else [d]).length = if n = 2 then 2 else 1 := by
          intro n a b d
          split <;> rfl
        simp only [lg_sl, List.map_cons, List.flatMap_cons, List.length_append, h1, h_rv_cat] at ih ⊢
        omega
    rw [this]; exact hsz
  have hl := lv_entry (av.map (h_rv α)) (n := h_nL M) hsl
  rw [lg_entry_eq]
  have hla : ∀ (i : Nat) (l : List Value), lv_args i (l.map (h_rv α)) = (lv_args i l).map (fun q => (q.1, h_rv α q.2)) := by
    intro i l
    induction l generalizing i with
    | nil => rfl
    | cons v l ih => simp only [List.map_cons, lv_args, h_rv_cat, ih]
  rw [hla] at hl
  have hll : h_ll h (lv_args 0 av) := by
    have : ∀ (i : Nat) (l : List Value), h_cl h l → h_ll h (lv_args i l) := by
      intro i l
      induction l generalizing i with
      | nil => intro _ q hq; cases hq
      | cons v l ih =>
        intro c q hq
        rcases List.mem_cons.mp hq with e | e
        · rw [e]; exact h_cl_hd c
        · exact ih _ (h_cl_tl c) q e
    exact this 0 av hcl
  exact k p l e s m _ below meth c s.heap [] D α α h _ ⟨B.exec, B.bytes, hml, hown, fun w hw => hts w (List.mem_cons_of_mem _ hw), B.returns, B.notSynchronized, hin, hK, I.2.2.2.2⟩ ⟨hP, ⟨hD.1, fun k hk q => Or.inl ⟨k, hk, q, rfl⟩⟩, va_S.rf, fun k q => ⟨q, rfl⟩, hcH, hup, hK.2.2.2.1⟩ hll (fun _ hv => by cases hv) hl
end HCORE
end
section
/-! A ROW AN INSTRUCTION, over the abstract heap (J). -/
section HINSTR
variable {M : hM} {R : Room} {Q : Option Value → hH → Prop} {cells slots : Nat} {h : hH} {pc pc' : Nat} {ls : List (Nat × Value)} {st : List Value}
theorem j_iconst {n : Int} {v : Int32} (hd : fnd (h_tab M) pc = some (.iconst n, 1)) (hp : pc + 1 = pc') (hv : Int32.ofInt n = v) (k : J M R Q cells slots h pc' ls (.int v :: st)) : J M R Q cells slots h pc ls (st) := by
  subst hp
  intro p l e s m args below meth c H locs D α α0 h0 lsA hC hW hll hcl hl
  exact lv_iconst hC.1 hC.2.1 (h_dec hC hd) hv (k p l e s m args below meth c H locs D α α0 h0 lsA hC hW hll (h_cl_i hcl) hl)
theorem j_bipush {n : Int} {v : Int32} (hd : fnd (h_tab M) pc = some (.bipush n, 2)) (hp : pc + 2 = pc') (hv : (Int8.ofInt n).toInt32 = v) (k : J M R Q cells slots h pc' ls (.int v :: st)) : J M R Q cells slots h pc ls (st) := by
  subst hp
  intro p l e s m args below meth c H locs D α α0 h0 lsA hC hW hll hcl hl
  exact lv_bipush hC.1 hC.2.1 (h_dec hC hd) hv (k p l e s m args below meth c H locs D α α0 h0 lsA hC hW hll (h_cl_i hcl) hl)
theorem j_sipush {n : Int} {v : Int32} (hd : fnd (h_tab M) pc = some (.sipush n, 3)) (hp : pc + 3 = pc') (hv : (Int16.ofInt n).toInt32 = v) (k : J M R Q cells slots h pc' ls (.int v :: st)) : J M R Q cells slots h pc ls (st) := by
  subst hp
  intro p l e s m args below meth c H locs D α α0 h0 lsA hC hW hll hcl hl
  exact lv_sipush hC.1 hC.2.1 (h_dec hC hd) hv (k p l e s m args below meth c H locs D α α0 h0 lsA hC hW hll (h_cl_i hcl) hl)
theorem j_lconst {n : Fin 2} {v : Int64} (hd : fnd (h_tab M) pc = some (.lconst n, 1)) (hp : pc + 1 = pc') (hv : Int64.ofNat (n : Nat) = v) (k : J M R Q cells slots h pc' ls (.long v :: st)) : J M R Q cells slots h pc ls (st) := by
  subst hp
  intro p l e s m args below meth c H locs D α α0 h0 lsA hC hW hll hcl hl
  exact lv_lconst hC.1 hC.2.1 (h_dec hC hd) hv (k p l e s m args below meth c H locs D α α0 h0 lsA hC hW hll (h_cl_l hcl) hl)
theorem j_null  (hd : fnd (h_tab M) pc = some (.aconst_null, 1)) (hp : pc + 1 = pc')  (k : J M R Q cells slots h pc' ls (.null :: st)) : J M R Q cells slots h pc ls (st) := by
  subst hp
  intro p l e s m args below meth c H locs D α α0 h0 lsA hC hW hll hcl hl
  exact lv_null hC.1 hC.2.1 (h_dec hC hd)  (k p l e s m args below meth c H locs D α α0 h0 lsA hC hW hll (h_cl_cons trivial hcl) hl)
theorem j_iload_n {n : Fin 4} {x : Int32} (hd : fnd (h_tab M) pc = some (.iload_n n, 1)) (hp : pc + 1 = pc') (hv : fnd ls n = some (.int x)) (k : J M R Q cells slots h pc' ls (.int x :: st)) : J M R Q cells slots h pc ls (st) := by
  subst hp
  intro p l e s m args below meth c H locs D α α0 h0 lsA hC hW hll hcl hl
  exact lv_iload_n hC.1 hC.2.1 (h_dec hC hd) rfl (h_has hl hv) (k p l e s m args below meth c H locs D α α0 h0 lsA hC hW hll (h_cl_i hcl) hl)
theorem j_iload {n : Nat} {x : Int32} (hd : fnd (h_tab M) pc = some (.iload n, 2)) (hp : pc + 2 = pc') (hv : fnd ls n = some (.int x)) (k : J M R Q cells slots h pc' ls (.int x :: st)) : J M R Q cells slots h pc ls (st) := by
  subst hp
  intro p l e s m args below meth c H locs D α α0 h0 lsA hC hW hll hcl hl
  exact lv_iload hC.1 hC.2.1 (h_dec hC hd) (h_has hl hv) (k p l e s m args below meth c H locs D α α0 h0 lsA hC hW hll (h_cl_i hcl) hl)
theorem j_lload_n {n : Fin 4} {x : Int64} (hd : fnd (h_tab M) pc = some (.lload_n n, 1)) (hp : pc + 1 = pc') (hv : fnd ls n = some (.long x)) (k : J M R Q cells slots h pc' ls (.long x :: st)) : J M R Q cells slots h pc ls (st) := by
  subst hp
  intro p l e s m args below meth c H locs D α α0 h0 lsA hC hW hll hcl hl
  exact lv_lload_n hC.1 hC.2.1 (h_dec hC hd) rfl (h_has hl hv) (k p l e s m args below meth c H locs D α α0 h0 lsA hC hW hll (h_cl_l hcl) hl)
theorem j_lload {n : Nat} {x : Int64} (hd : fnd (h_tab M) pc = some (.lload n, 2)) (hp : pc + 2 = pc') (hv : fnd ls n = some (.long x)) (k : J M R Q cells slots h pc' ls (.long x :: st)) : J M R Q cells slots h pc ls (st) := by
  subst hp
  intro p l e s m args below meth c H locs D α α0 h0 lsA hC hW hll hcl hl
  exact lv_lload hC.1 hC.2.1 (h_dec hC hd) (h_has hl hv) (k p l e s m args below meth c H locs D α α0 h0 lsA hC hW hll (h_cl_l hcl) hl)
theorem j_aload_n {n : Fin 4} {x : Nat} (hd : fnd (h_tab M) pc = some (.aload_n n, 1)) (hp : pc + 1 = pc') (hv : fnd ls n = some (.ref x)) (k : J M R Q cells slots h pc' ls (.ref x :: st)) : J M R Q cells slots h pc ls (st) := by
  subst hp
  intro p l e s m args below meth c H locs D α α0 h0 lsA hC hW hll hcl hl
  exact lv_aload_n hC.1 hC.2.1 (h_dec hC hd) rfl (h_has hl hv) (k p l e s m args below meth c H locs D α α0 h0 lsA hC hW hll (h_cl_cons (h_lat hll hv) hcl) hl)
theorem j_aload {n : Nat} {x : Nat} (hd : fnd (h_tab M) pc = some (.aload n, 2)) (hp : pc + 2 = pc') (hv : fnd ls n = some (.ref x)) (k : J M R Q cells slots h pc' ls (.ref x :: st)) : J M R Q cells slots h pc ls (st) := by
  subst hp
  intro p l e s m args below meth c H locs D α α0 h0 lsA hC hW hll hcl hl
  exact lv_aload hC.1 hC.2.1 (h_dec hC hd) (h_has hl hv) (k p l e s m args below meth c H locs D α α0 h0 lsA hC hW hll (h_cl_cons (h_lat hll hv) hcl) hl)
theorem j_aload_nN {n : Fin 4} (hd : fnd (h_tab M) pc = some (.aload_n n, 1)) (hp : pc + 1 = pc') (hv : fnd ls n = some .null) (k : J M R Q cells slots h pc' ls (.null :: st)) : J M R Q cells slots h pc ls (st) := by
  subst hp
  intro p l e s m args below meth c H locs D α α0 h0 lsA hC hW hll hcl hl
  exact lv_aload_nN hC.1 hC.2.1 (h_dec hC hd) rfl (h_has hl hv) (k p l e s m args below meth c H locs D α α0 h0 lsA hC hW hll (h_cl_cons trivial hcl) hl)
theorem j_aloadN {n : Nat} (hd : fnd (h_tab M) pc = some (.aload n, 2)) (hp : pc + 2 = pc') (hv : fnd ls n = some .null) (k : J M R Q cells slots h pc' ls (.null :: st)) : J M R Q cells slots h pc ls (st) := by
  subst hp
  intro p l e s m args below meth c H locs D α α0 h0 lsA hC hW hll hcl hl
  exact lv_aloadN hC.1 hC.2.1 (h_dec hC hd) (h_has hl hv) (k p l e s m args below meth c H locs D α α0 h0 lsA hC hW hll (h_cl_cons trivial hcl) hl)
theorem j_iadd {x y : Int32} (hd : fnd (h_tab M) pc = some (.iadd, 1)) (hp : pc + 1 = pc')  (k : J M R Q cells slots h pc' ls (.int (x + y) :: st)) : J M R Q cells slots h pc ls (.int y :: .int x :: st) := by
  subst hp
  intro p l e s m args below meth c H locs D α α0 h0 lsA hC hW hll hcl hl
  exact lv_iadd hC.1 hC.2.1 (h_dec hC hd)  (k p l e s m args below meth c H locs D α α0 h0 lsA hC hW hll (h_cl_i (h_cl_tl (h_cl_tl hcl))) hl)
theorem j_isub {x y : Int32} (hd : fnd (h_tab M) pc = some (.isub, 1)) (hp : pc + 1 = pc')  (k : J M R Q cells slots h pc' ls (.int (x - y) :: st)) : J M R Q cells slots h pc ls (.int y :: .int x :: st) := by
  subst hp
  intro p l e s m args below meth c H locs D α α0 h0 lsA hC hW hll hcl hl
  exact lv_isub hC.1 hC.2.1 (h_dec hC hd)  (k p l e s m args below meth c H locs D α α0 h0 lsA hC hW hll (h_cl_i (h_cl_tl (h_cl_tl hcl))) hl)
theorem j_imul {x y : Int32} (hd : fnd (h_tab M) pc = some (.imul, 1)) (hp : pc + 1 = pc')  (k : J M R Q cells slots h pc' ls (.int (x * y) :: st)) : J M R Q cells slots h pc ls (.int y :: .int x :: st) := by
  subst hp
  intro p l e s m args below meth c H locs D α α0 h0 lsA hC hW hll hcl hl
  exact lv_imul hC.1 hC.2.1 (h_dec hC hd)  (k p l e s m args below meth c H locs D α α0 h0 lsA hC hW hll (h_cl_i (h_cl_tl (h_cl_tl hcl))) hl)
theorem j_iand {x y : Int32} (hd : fnd (h_tab M) pc = some (.iand, 1)) (hp : pc + 1 = pc')  (k : J M R Q cells slots h pc' ls (.int (x &&& y) :: st)) : J M R Q cells slots h pc ls (.int y :: .int x :: st) := by
  subst hp
  intro p l e s m args below meth c H locs D α α0 h0 lsA hC hW hll hcl hl
  exact lv_iand hC.1 hC.2.1 (h_dec hC hd)  (k p l e s m args below meth c H locs D α α0 h0 lsA hC hW hll (h_cl_i (h_cl_tl (h_cl_tl hcl))) hl)
theorem j_ior {x y : Int32} (hd : fnd (h_tab M) pc = some (.ior, 1)) (hp : pc + 1 = pc')  (k : J M R Q cells slots h pc' ls (.int (x ||| y) :: st)) : J M R Q cells slots h pc ls (.int y :: .int x :: st) := by
  subst hp
  intro p l e s m args below meth c H locs D α α0 h0 lsA hC hW hll hcl hl
  exact lv_ior hC.1 hC.2.1 (h_dec hC hd)  (k p l e s m args below meth c H locs D α α0 h0 lsA hC hW hll (h_cl_i (h_cl_tl (h_cl_tl hcl))) hl)
theorem j_ixor {x y : Int32} (hd : fnd (h_tab M) pc = some (.ixor, 1)) (hp : pc + 1 = pc')  (k : J M R Q cells slots h pc' ls (.int (x ^^^ y) :: st)) : J M R Q cells slots h pc ls (.int y :: .int x :: st) := by
  subst hp
  intro p l e s m args below meth c H locs D α α0 h0 lsA hC hW hll hcl hl
  exact lv_ixor hC.1 hC.2.1 (h_dec hC hd)  (k p l e s m args below meth c H locs D α α0 h0 lsA hC hW hll (h_cl_i (h_cl_tl (h_cl_tl hcl))) hl)
theorem j_ladd {x y : Int64} (hd : fnd (h_tab M) pc = some (.ladd, 1)) (hp : pc + 1 = pc')  (k : J M R Q cells slots h pc' ls (.long (x + y) :: st)) : J M R Q cells slots h pc ls (.long y :: .long x :: st) := by
  subst hp
  intro p l e s m args below meth c H locs D α α0 h0 lsA hC hW hll hcl hl
  exact lv_ladd hC.1 hC.2.1 (h_dec hC hd)  (k p l e s m args below meth c H locs D α α0 h0 lsA hC hW hll (h_cl_l (h_cl_tl (h_cl_tl hcl))) hl)
theorem j_lsub {x y : Int64} (hd : fnd (h_tab M) pc = some (.lsub, 1)) (hp : pc + 1 = pc')  (k : J M R Q cells slots h pc' ls (.long (x - y) :: st)) : J M R Q cells slots h pc ls (.long y :: .long x :: st) := by
  subst hp
  intro p l e s m args below meth c H locs D α α0 h0 lsA hC hW hll hcl hl
  exact lv_lsub hC.1 hC.2.1 (h_dec hC hd)  (k p l e s m args below meth c H locs D α α0 h0 lsA hC hW hll (h_cl_l (h_cl_tl (h_cl_tl hcl))) hl)
theorem j_lmul {x y : Int64} (hd : fnd (h_tab M) pc = some (.lmul, 1)) (hp : pc + 1 = pc')  (k : J M R Q cells slots h pc' ls (.long (x * y) :: st)) : J M R Q cells slots h pc ls (.long y :: .long x :: st) := by
  subst hp
  intro p l e s m args below meth c H locs D α α0 h0 lsA hC hW hll hcl hl
  exact lv_lmul hC.1 hC.2.1 (h_dec hC hd)  (k p l e s m args below meth c H locs D α α0 h0 lsA hC hW hll (h_cl_l (h_cl_tl (h_cl_tl hcl))) hl)
theorem j_land {x y : Int64} (hd : fnd (h_tab M) pc = some (.land, 1)) (hp : pc + 1 = pc')  (k : J M R Q cells slots h pc' ls (.long (x &&& y) :: st)) : J M R Q cells slots h pc ls (.long y :: .long x :: st) := by
  subst hp
  intro p l e s m args below meth c H locs D α α0 h0 lsA hC hW hll hcl hl
  exact lv_land hC.1 hC.2.1 (h_dec hC hd)  (k p l e s m args below meth c H locs D α α0 h0 lsA hC hW hll (h_cl_l (h_cl_tl (h_cl_tl hcl))) hl)
theorem j_lor {x y : Int64} (hd : fnd (h_tab M) pc = some (.lor, 1)) (hp : pc + 1 = pc')  (k : J M R Q cells slots h pc' ls (.long (x ||| y) :: st)) : J M R Q cells slots h pc ls (.long y :: .long x :: st) := by
  subst hp
  intro p l e s m args below meth c H locs D α α0 h0 lsA hC hW hll hcl hl
  exact lv_lor hC.1 hC.2.1 (h_dec hC hd)  (k p l e s m args below meth c H locs D α α0 h0 lsA hC hW hll (h_cl_l (h_cl_tl (h_cl_tl hcl))) hl)
theorem j_lxor {x y : Int64} (hd : fnd (h_tab M) pc = some (.lxor, 1)) (hp : pc + 1 = pc')  (k : J M R Q cells slots h pc' ls (.long (x ^^^ y) :: st)) : J M R Q cells slots h pc ls (.long y :: .long x :: st) := by
  subst hp
  intro p l e s m args below meth c H locs D α α0 h0 lsA hC hW hll hcl hl
  exact lv_lxor hC.1 hC.2.1 (h_dec hC hd)  (k p l e s m args below meth c H locs D α α0 h0 lsA hC hW hll (h_cl_l (h_cl_tl (h_cl_tl hcl))) hl)
theorem j_idiv {x y : Int32} (hd : fnd (h_tab M) pc = some (.idiv, 1)) (hp : pc + 1 = pc') (hne : ¬ y = 0) (k : J M R Q cells slots h pc' ls (.int (x / y) :: st)) : J M R Q cells slots h pc ls (.int y :: .int x :: st) := by
  subst hp
  intro p l e s m args below meth c H locs D α α0 h0 lsA hC hW hll hcl hl
  exact lv_idiv hC.1 hC.2.1 (h_dec hC hd) hne (k p l e s m args below meth c H locs D α α0 h0 lsA hC hW hll (h_cl_i (h_cl_tl (h_cl_tl hcl))) hl)
theorem j_ldiv {x y : Int64} (hd : fnd (h_tab M) pc = some (.ldiv, 1)) (hp : pc + 1 = pc') (hne : ¬ y = 0) (k : J M R Q cells slots h pc' ls (.long (x / y) :: st)) : J M R Q cells slots h pc ls (.long y :: .long x :: st) := by
  subst hp
  intro p l e s m args below meth c H locs D α α0 h0 lsA hC hW hll hcl hl
  exact lv_ldiv hC.1 hC.2.1 (h_dec hC hd) hne (k p l e s m args below meth c H locs D α α0 h0 lsA hC hW hll (h_cl_l (h_cl_tl (h_cl_tl hcl))) hl)
theorem j_lneg {x : Int64} (hd : fnd (h_tab M) pc = some (.lneg, 1)) (hp : pc + 1 = pc')  (k : J M R Q cells slots h pc' ls (.long (-x) :: st)) : J M R Q cells slots h pc ls (.long x :: st) := by
  subst hp
  intro p l e s m args below meth c H locs D α α0 h0 lsA hC hW hll hcl hl
  exact lv_lneg hC.1 hC.2.1 (h_dec hC hd)  (k p l e s m args below meth c H locs D α α0 h0 lsA hC hW hll (h_cl_l (h_cl_tl hcl)) hl)
theorem j_i2l {x : Int32} (hd : fnd (h_tab M) pc = some (.i2l, 1)) (hp : pc + 1 = pc')  (k : J M R Q cells slots h pc' ls (.long x.toInt64 :: st)) : J M R Q cells slots h pc ls (.int x :: st) := by
  subst hp
  intro p l e s m args below meth c H locs D α α0 h0 lsA hC hW hll hcl hl
  exact lv_i2l hC.1 hC.2.1 (h_dec hC hd) rfl (k p l e s m args below meth c H locs D α α0 h0 lsA hC hW hll (h_cl_l (h_cl_tl hcl)) hl)
theorem j_l2i {x : Int64} (hd : fnd (h_tab M) pc = some (.l2i, 1)) (hp : pc + 1 = pc')  (k : J M R Q cells slots h pc' ls (.int x.toInt32 :: st)) : J M R Q cells slots h pc ls (.long x :: st) := by
  subst hp
  intro p l e s m args below meth c H locs D α α0 h0 lsA hC hW hll hcl hl
  exact lv_l2i hC.1 hC.2.1 (h_dec hC hd) rfl (k p l e s m args below meth c H locs D α α0 h0 lsA hC hW hll (h_cl_i (h_cl_tl hcl)) hl)
theorem j_i2b {x : Int32} (hd : fnd (h_tab M) pc = some (.i2b, 1)) (hp : pc + 1 = pc')  (k : J M R Q cells slots h pc' ls (.int x.toInt8.toInt32 :: st)) : J M R Q cells slots h pc ls (.int x :: st) := by
  subst hp
  intro p l e s m args below meth c H locs D α α0 h0 lsA hC hW hll hcl hl
  exact lv_i2b hC.1 hC.2.1 (h_dec hC hd) rfl (k p l e s m args below meth c H locs D α α0 h0 lsA hC hW hll (h_cl_i (h_cl_tl hcl)) hl)
theorem j_lshl {x : Int64} {y : Int32} (hd : fnd (h_tab M) pc = some (.lshl, 1)) (hp : pc + 1 = pc')  (k : J M R Q cells slots h pc' ls (.long (x <<< (y.toInt64 &&& 63)) :: st)) : J M R Q cells slots h pc ls (.int y :: .long x :: st) := by
  subst hp
  intro p l e s m args below meth c H locs D α α0 h0 lsA hC hW hll hcl hl
  exact lv_lshl hC.1 hC.2.1 (h_dec hC hd) rfl (k p l e s m args below meth c H locs D α α0 h0 lsA hC hW hll (h_cl_l (h_cl_tl (h_cl_tl hcl))) hl)
theorem j_lshr {x : Int64} {y : Int32} (hd : fnd (h_tab M) pc = some (.lshr, 1)) (hp : pc + 1 = pc')  (k : J M R Q cells slots h pc' ls (.long (x >>> (y.toInt64 &&& 63)) :: st)) : J M R Q cells slots h pc ls (.int y :: .long x :: st) := by
  subst hp
  intro p l e s m args below meth c H locs D α α0 h0 lsA hC hW hll hcl hl
  exact lv_lshr hC.1 hC.2.1 (h_dec hC hd) rfl (k p l e s m args below meth c H locs D α α0 h0 lsA hC hW hll (h_cl_l (h_cl_tl (h_cl_tl hcl))) hl)
theorem j_lcmp {x y : Int64} (hd : fnd (h_tab M) pc = some (.lcmp, 1)) (hp : pc + 1 = pc')  (k : J M R Q cells slots h pc' ls (.int (lg_cmp x y) :: st)) : J M R Q cells slots h pc ls (.long y :: .long x :: st) := by
  subst hp
  intro p l e s m args below meth c H locs D α α0 h0 lsA hC hW hll hcl hl
  exact W.lcmp hC.1 hC.2.1 (h_dec hC hd)  (k p l e s m args below meth c H locs D α α0 h0 lsA hC hW hll (h_cl_i (h_cl_tl (h_cl_tl hcl))) hl)
theorem j_dup {v : Value} (hd : fnd (h_tab M) pc = some (.dup, 1)) (hp : pc + 1 = pc') (hc : v.category = 1) (k : J M R Q cells slots h pc' ls (v :: v :: st)) : J M R Q cells slots h pc ls (v :: st) := by
  subst hp
  intro p l e s m args below meth c H locs D α α0 h0 lsA hC hW hll hcl hl
  exact lv_dup hC.1 hC.2.1 (h_dec hC hd) ((h_rv_cat α v).trans hc) (k p l e s m args below meth c H locs D α α0 h0 lsA hC hW hll (h_cl_cons (h_cl_hd hcl) hcl) hl)
theorem j_pop {v : Value} (hd : fnd (h_tab M) pc = some (.pop, 1)) (hp : pc + 1 = pc') (hc : v.category = 1) (k : J M R Q cells slots h pc' ls (st)) : J M R Q cells slots h pc ls (v :: st) := by
  subst hp
  intro p l e s m args below meth c H locs D α α0 h0 lsA hC hW hll hcl hl
  exact lv_pop hC.1 hC.2.1 (h_dec hC hd) ((h_rv_cat α v).trans hc) (k p l e s m args below meth c H locs D α α0 h0 lsA hC hW hll (h_cl_tl hcl) hl)
theorem j_dup_x1 {v w : Value} (hd : fnd (h_tab M) pc = some (.dup_x1, 1)) (hp : pc + 1 = pc') (hc : v.category = 1) (hc2 : w.category = 1) (k : J M R Q cells slots h pc' ls (v :: w :: v :: st)) : J M R Q cells slots h pc ls (v :: w :: st) := by
  subst hp
  intro p l e s m args below meth c H locs D α α0 h0 lsA hC hW hll hcl hl
  exact lv_dup_x1 hC.1 hC.2.1 (h_dec hC hd) ((h_rv_cat α v).trans hc) ((h_rv_cat α w).trans hc2) (k p l e s m args below meth c H locs D α α0 h0 lsA hC hW hll (h_cl_cons (h_cl_hd hcl) (h_cl_cons (h_cl_hd (h_cl_tl hcl)) (h_cl_cons (h_cl_hd hcl) (h_cl_tl (h_cl_tl hcl))))) hl)
theorem j_dup2_11 {v w : Value} (hd : fnd (h_tab M) pc = some (.dup2, 1)) (hp : pc + 1 = pc') (hc : v.category = 1) (hc2 : w.category = 1) (k : J M R Q cells slots h pc' ls (v :: w :: v :: w :: st)) : J M R Q cells slots h pc ls (v :: w :: st) := by
  subst hp
  intro p l e s m args below meth c H locs D α α0 h0 lsA hC hW hll hcl hl
  exact lv_dup2_11 hC.1 hC.2.1 (h_dec hC hd) ((h_rv_cat α v).trans hc) ((h_rv_cat α w).trans hc2) (k p l e s m args below meth c H locs D α α0 h0 lsA hC hW hll (h_cl_cons (h_cl_hd hcl) (h_cl_cons (h_cl_hd (h_cl_tl hcl)) hcl)) hl)
theorem j_dup2_2 {v : Value} (hd : fnd (h_tab M) pc = some (.dup2, 1)) (hp : pc + 1 = pc') (hc : v.category = 2) (k : J M R Q cells slots h pc' ls (v :: v :: st)) : J M R Q cells slots h pc ls (v :: st) := by
  subst hp
  intro p l e s m args below meth c H locs D α α0 h0 lsA hC hW hll hcl hl
  exact lv_dup2_2 hC.1 hC.2.1 (h_dec hC hd) ((h_rv_cat α v).trans hc) (k p l e s m args below meth c H locs D α α0 h0 lsA hC hW hll (h_cl_cons (h_cl_hd hcl) hcl) hl)
theorem j_istore_n {n : Fin 4} {x : Int32} {ls' : List (Nat × Value)} (hd : fnd (h_tab M) pc = some (.istore_n n, 1)) (hp : pc + 1 = pc') (hn : (n : Nat) < h_nL M) (hs : lset1 (n : Nat) (.int x) ls = ls') (k : J M R Q cells slots h pc' ls' st) : J M R Q cells slots h pc ls (.int x :: st) := by
  subst hp; subst hs
  intro p l e s m args below meth c H locs D α α0 h0 lsA hC hW hll hcl hl
  exact lv_istore_n hC.1 hC.2.1 (h_dec hC hd) rfl hl hn (h_lset1 α n (.int x) ls) (fun lsB hl' => k p l e s m args below meth c H locs D α α0 h0 lsB hC hW (h_ll1 (h_cl_hd hcl) hll) (h_cl_tl hcl) hl')
theorem j_istore {n : Nat} {x : Int32} {ls' : List (Nat × Value)} (hd : fnd (h_tab M) pc = some (.istore n, 2)) (hp : pc + 2 = pc') (hn : n < h_nL M) (hs : lset1 n (.int x) ls = ls') (k : J M R Q cells slots h pc' ls' st) : J M R Q cells slots h pc ls (.int x :: st) := by
  subst hp; subst hs
  intro p l e s m args below meth c H locs D α α0 h0 lsA hC hW hll hcl hl
  exact lv_istore hC.1 hC.2.1 (h_dec hC hd) hl hn (h_lset1 α n (.int x) ls) (fun lsB hl' => k p l e s m args below meth c H locs D α α0 h0 lsB hC hW (h_ll1 (h_cl_hd hcl) hll) (h_cl_tl hcl) hl')
theorem j_lstore_n {n : Fin 4} {x : Int64} {ls' : List (Nat × Value)} (hd : fnd (h_tab M) pc = some (.lstore_n n, 1)) (hp : pc + 1 = pc') (hn : (n : Nat) + 1 < h_nL M) (hs : lset2 (n : Nat) (.long x) ls = ls') (k : J M R Q cells slots h pc' ls' st) : J M R Q cells slots h pc ls (.long x :: st) := by
  subst hp; subst hs
  intro p l e s m args below meth c H locs D α α0 h0 lsA hC hW hll hcl hl
  exact lv_lstore_n hC.1 hC.2.1 (h_dec hC hd) rfl hl hn (h_lset2 α n (.long x) ls) (fun lsB hl' => k p l e s m args below meth c H locs D α α0 h0 lsB hC hW (h_ll2 (h_cl_hd hcl) hll) (h_cl_tl hcl) hl')
theorem j_lstore {n : Nat} {x : Int64} {ls' : List (Nat × Value)} (hd : fnd (h_tab M) pc = some (.lstore n, 2)) (hp : pc + 2 = pc') (hn : n + 1 < h_nL M) (hs : lset2 n (.long x) ls = ls') (k : J M R Q cells slots h pc' ls' st) : J M R Q cells slots h pc ls (.long x :: st) := by
  subst hp; subst hs
  intro p l e s m args below meth c H locs D α α0 h0 lsA hC hW hll hcl hl
  exact lv_lstore hC.1 hC.2.1 (h_dec hC hd) hl hn (h_lset2 α n (.long x) ls) (fun lsB hl' => k p l e s m args below meth c H locs D α α0 h0 lsB hC hW (h_ll2 (h_cl_hd hcl) hll) (h_cl_tl hcl) hl')
theorem j_astore_n {n : Fin 4} {x : Nat} {ls' : List (Nat × Value)} (hd : fnd (h_tab M) pc = some (.astore_n n, 1)) (hp : pc + 1 = pc') (hn : (n : Nat) < h_nL M) (hs : lset1 (n : Nat) (.ref x) ls = ls') (k : J M R Q cells slots h pc' ls' st) : J M R Q cells slots h pc ls (.ref x :: st) := by
  subst hp; subst hs
  intro p l e s m args below meth c H locs D α α0 h0 lsA hC hW hll hcl hl
  exact lv_astore_n hC.1 hC.2.1 (h_dec hC hd) rfl hl hn (h_lset1 α n (.ref x) ls) (fun lsB hl' => k p l e s m args below meth c H locs D α α0 h0 lsB hC hW (h_ll1 (h_cl_hd hcl) hll) (h_cl_tl hcl) hl')
theorem j_astore {n : Nat} {x : Nat} {ls' : List (Nat × Value)} (hd : fnd (h_tab M) pc = some (.astore n, 2)) (hp : pc + 2 = pc') (hn : n < h_nL M) (hs : lset1 n (.ref x) ls = ls') (k : J M R Q cells slots h pc' ls' st) : J M R Q cells slots h pc ls (.ref x :: st) := by
  subst hp; subst hs
  intro p l e s m args below meth c H locs D α α0 h0 lsA hC hW hll hcl hl
  exact lv_astore hC.1 hC.2.1 (h_dec hC hd) hl hn (h_lset1 α n (.ref x) ls) (fun lsB hl' => k p l e s m args below meth c H locs D α α0 h0 lsB hC hW (h_ll1 (h_cl_hd hcl) hll) (h_cl_tl hcl) hl')
theorem j_astore_nN {n : Fin 4} {ls' : List (Nat × Value)} (hd : fnd (h_tab M) pc = some (.astore_n n, 1)) (hp : pc + 1 = pc') (hn : (n : Nat) < h_nL M) (hs : lset1 (n : Nat) .null ls = ls') (k : J M R Q cells slots h pc' ls' st) : J M R Q cells slots h pc ls (.null :: st) := by
  subst hp; subst hs
  intro p l e s m args below meth c H locs D α α0 h0 lsA hC hW hll hcl hl
  exact lv_astore_nN hC.1 hC.2.1 (h_dec hC hd) rfl hl hn (h_lset1 α n .null ls) (fun lsB hl' => k p l e s m args below meth c H locs D α α0 h0 lsB hC hW (h_ll1 (h_cl_hd hcl) hll) (h_cl_tl hcl) hl')
theorem j_astoreN {n : Nat} {ls' : List (Nat × Value)} (hd : fnd (h_tab M) pc = some (.astore n, 2)) (hp : pc + 2 = pc') (hn : n < h_nL M) (hs : lset1 n .null ls = ls') (k : J M R Q cells slots h pc' ls' st) : J M R Q cells slots h pc ls (.null :: st) := by
  subst hp; subst hs
  intro p l e s m args below meth c H locs D α α0 h0 lsA hC hW hll hcl hl
  exact lv_astoreN hC.1 hC.2.1 (h_dec hC hd) hl hn (h_lset1 α n .null ls) (fun lsB hl' => k p l e s m args below meth c H locs D α α0 h0 lsB hC hW (h_ll1 (h_cl_hd hcl) hll) (h_cl_tl hcl) hl')
theorem j_iinc {n : Nat} {i : Int} {x d : Int32} {ls' : List (Nat × Value)} (hd : fnd (h_tab M) pc = some (.iinc n i, 3)) (hp : pc + 3 = pc') (hv : fnd ls n = some (.int x)) (hi : Int32.ofInt i = d) (hn : n < h_nL M) (hs : lset1 n (.int (x + d)) ls = ls') (k : J M R Q cells slots h pc' ls' st) : J M R Q cells slots h pc ls st := by
  subst hp; subst hi; subst hs
  intro p l e s m args below meth c H locs D α α0 h0 lsA hC hW hll hcl hl
  obtain ⟨j, hj⟩ := List.getElem?_of_mem (List.mem_map.mpr ⟨(n, Value.int x), fnd_mem _ _ _ hv, rfl⟩ : (n, h_rv α (.int x)) ∈ ls.map (fun q => (q.1, h_rv α q.2)))
  exact lv_iinc hC.1 hC.2.1 (h_dec hC hd) hl hj rfl hn (h_lset1 α n (.int (x + Int32.ofInt i)) ls) (fun lsB hl' => k p l e s m args below meth c H locs D α α0 h0 lsB hC hW (h_ll1 trivial hll) hcl hl')
theorem j_if_eq {x : Int32} {off : Int} {tgt : Nat} (hd : fnd (h_tab M) pc = some (.ifCond .eq off, 3)) (ht : (pc : Int) + off = (tgt : Int)) (hp : pc + 3 = pc') (kt : x = 0 → J M R Q cells slots h tgt ls st) (kf : ¬ x = 0 → J M R Q cells slots h pc' ls st) : J M R Q cells slots h pc ls (.int x :: st) := by
  subst hp
  intro p l e s m args below meth c H locs D α α0 h0 lsA hC hW hll hcl hl
  exact lv_if_eq hC.1 hC.2.1 (h_dec hC hd) ht (fun q => kt q p l e s m args below meth c H locs D α α0 h0 lsA hC hW hll (h_cl_tl hcl) hl) (fun q => kf q p l e s m args below meth c H locs D α α0 h0 lsA hC hW hll (h_cl_tl hcl) hl)
theorem j_icmp_eq {x y : Int32} {off : Int} {tgt : Nat} (hd : fnd (h_tab M) pc = some (.if_icmp .eq off, 3)) (ht : (pc : Int) + off = (tgt : Int)) (hp : pc + 3 = pc') (kt : x = y → J M R Q cells slots h tgt ls st) (kf : ¬ x = y → J M R Q cells slots h pc' ls st) : J M R Q cells slots h pc ls (.int y :: .int x :: st) := by
  subst hp
  intro p l e s m args below meth c H locs D α α0 h0 lsA hC hW hll hcl hl
  exact lv_icmp_eq hC.1 hC.2.1 (h_dec hC hd) ht (fun q => kt q p l e s m args below meth c H locs D α α0 h0 lsA hC hW hll (h_cl_tl (h_cl_tl hcl)) hl) (fun q => kf q p l e s m args below meth c H locs D α α0 h0 lsA hC hW hll (h_cl_tl (h_cl_tl hcl)) hl)
theorem j_if_ne {x : Int32} {off : Int} {tgt : Nat} (hd : fnd (h_tab M) pc = some (.ifCond .ne off, 3)) (ht : (pc : Int) + off = (tgt : Int)) (hp : pc + 3 = pc') (kt : ¬ x = 0 → J M R Q cells slots h tgt ls st) (kf : x = 0 → J M R Q cells slots h pc' ls st) : J M R Q cells slots h pc ls (.int x :: st) := by
  subst hp
  intro p l e s m args below meth c H locs D α α0 h0 lsA hC hW hll hcl hl
  exact lv_if_ne hC.1 hC.2.1 (h_dec hC hd) ht (fun q => kt q p l e s m args below meth c H locs D α α0 h0 lsA hC hW hll (h_cl_tl hcl) hl) (fun q => kf q p l e s m args below meth c H locs D α α0 h0 lsA hC hW hll (h_cl_tl hcl) hl)
theorem j_icmp_ne {x y : Int32} {off : Int} {tgt : Nat} (hd : fnd (h_tab M) pc = some (.if_icmp .ne off, 3)) (ht : (pc : Int) + off = (tgt : Int)) (hp : pc + 3 = pc') (kt : ¬ x = y → J M R Q cells slots h tgt ls st) (kf : x = y → J M R Q cells slots h pc' ls st) : J M R Q cells slots h pc ls (.int y :: .int x :: st) := by
  subst hp
  intro p l e s m args below meth c H locs D α α0 h0 lsA hC hW hll hcl hl
  exact lv_icmp_ne hC.1 hC.2.1 (h_dec hC hd) ht (fun q => kt q p l e s m args below meth c H locs D α α0 h0 lsA hC hW hll (h_cl_tl (h_cl_tl hcl)) hl) (fun q => kf q p l e s m args below meth c H locs D α α0 h0 lsA hC hW hll (h_cl_tl (h_cl_tl hcl)) hl)
theorem j_if_lt {x : Int32} {off : Int} {tgt : Nat} (hd : fnd (h_tab M) pc = some (.ifCond .lt off, 3)) (ht : (pc : Int) + off = (tgt : Int)) (hp : pc + 3 = pc') (kt : x < 0 → J M R Q cells slots h tgt ls st) (kf : ¬ x < 0 → J M R Q cells slots h pc' ls st) : J M R Q cells slots h pc ls (.int x :: st) := by
  subst hp
  intro p l e s m args below meth c H locs D α α0 h0 lsA hC hW hll hcl hl
  exact lv_if_lt hC.1 hC.2.1 (h_dec hC hd) ht (fun q => kt q p l e s m args below meth c H locs D α α0 h0 lsA hC hW hll (h_cl_tl hcl) hl) (fun q => kf q p l e s m args below meth c H locs D α α0 h0 lsA hC hW hll (h_cl_tl hcl) hl)
theorem j_icmp_lt {x y : Int32} {off : Int} {tgt : Nat} (hd : fnd (h_tab M) pc = some (.if_icmp .lt off, 3)) (ht : (pc : Int) + off = (tgt : Int)) (hp : pc + 3 = pc') (kt : x < y → J M R Q cells slots h tgt ls st) (kf : ¬ x < y → J M R Q cells slots h pc' ls st) : J M R Q cells slots h pc ls (.int y :: .int x :: st) := by
  subst hp
  intro p l e s m args below meth c H locs D α α0 h0 lsA hC hW hll hcl hl
  exact lv_icmp_lt hC.1 hC.2.1 (h_dec hC hd) ht (fun q => kt q p l e s m args below meth c H locs D α α0 h0 lsA hC hW hll (h_cl_tl (h_cl_tl hcl)) hl) (fun q => kf q p l e s m args below meth c H locs D α α0 h0 lsA hC hW hll (h_cl_tl (h_cl_tl hcl)) hl)
theorem j_if_ge {x : Int32} {off : Int} {tgt : Nat} (hd : fnd (h_tab M) pc = some (.ifCond .ge off, 3)) (ht : (pc : Int) + off = (tgt : Int)) (hp : pc + 3 = pc') (kt : 0 ≤ x → J M R Q cells slots h tgt ls st) (kf : ¬ 0 ≤ x → J M R Q cells slots h pc' ls st) : J M R Q cells slots h pc ls (.int x :: st) := by
  subst hp
  intro p l e s m args below meth c H locs D α α0 h0 lsA hC hW hll hcl hl
  exact lv_if_ge hC.1 hC.2.1 (h_dec hC hd) ht (fun q => kt q p l e s m args below meth c H locs D α α0 h0 lsA hC hW hll (h_cl_tl hcl) hl) (fun q => kf q p l e s m args below meth c H locs D α α0 h0 lsA hC hW hll (h_cl_tl hcl) hl)
theorem j_icmp_ge {x y : Int32} {off : Int} {tgt : Nat} (hd : fnd (h_tab M) pc = some (.if_icmp .ge off, 3)) (ht : (pc : Int) + off = (tgt : Int)) (hp : pc + 3 = pc') (kt : y ≤ x → J M R Q cells slots h tgt ls st) (kf : ¬ y ≤ x → J M R Q cells slots h pc' ls st) : J M R Q cells slots h pc ls (.int y :: .int x :: st) := by
  subst hp
  intro p l e s m args below meth c H locs D α α0 h0 lsA hC hW hll hcl hl
  exact lv_icmp_ge hC.1 hC.2.1 (h_dec hC hd) ht (fun q => kt q p l e s m args below meth c H locs D α α0 h0 lsA hC hW hll (h_cl_tl (h_cl_tl hcl)) hl) (fun q => kf q p l e s m args below meth c H locs D α α0 h0 lsA hC hW hll (h_cl_tl (h_cl_tl hcl)) hl)
theorem j_if_gt {x : Int32} {off : Int} {tgt : Nat} (hd : fnd (h_tab M) pc = some (.ifCond .gt off, 3)) (ht : (pc : Int) + off = (tgt : Int)) (hp : pc + 3 = pc') (kt : 0 < x → J M R Q cells slots h tgt ls st) (kf : ¬ 0 < x → J M R Q cells slots h pc' ls st) : J M R Q cells slots h pc ls (.int x :: st) := by
  subst hp
  intro p l e s m args below meth c H locs D α α0 h0 lsA hC hW hll hcl hl
  exact lv_if_gt hC.1 hC.2.1 (h_dec hC hd) ht (fun q => kt q p l e s m args below meth c H locs D α α0 h0 lsA hC hW hll (h_cl_tl hcl) hl) (fun q => kf q p l e s m args below meth c H locs D α α0 h0 lsA hC hW hll (h_cl_tl hcl) hl)
theorem j_icmp_gt {x y : Int32} {off : Int} {tgt : Nat} (hd : fnd (h_tab M) pc = some (.if_icmp .gt off, 3)) (ht : (pc : Int) + off = (tgt : Int)) (hp : pc + 3 = pc') (kt : y < x → J M R Q cells slots h tgt ls st) (kf : ¬ y < x → J M R Q cells slots h pc' ls st) : J M R Q cells slots h pc ls (.int y :: .int x :: st) := by
  subst hp
  intro p l e s m args below meth c H locs D α α0 h0 lsA hC hW hll hcl hl
  exact lv_icmp_gt hC.1 hC.2.1 (h_dec hC hd) ht (fun q => kt q p l e s m args below meth c H locs D α α0 h0 lsA hC hW hll (h_cl_tl (h_cl_tl hcl)) hl) (fun q => kf q p l e s m args below meth c H locs D α α0 h0 lsA hC hW hll (h_cl_tl (h_cl_tl hcl)) hl)
theorem j_if_le {x : Int32} {off : Int} {tgt : Nat} (hd : fnd (h_tab M) pc = some (.ifCond .le off, 3)) (ht : (pc : Int) + off = (tgt : Int)) (hp : pc + 3 = pc') (kt : x ≤ 0 → J M R Q cells slots h tgt ls st) (kf : ¬ x ≤ 0 → J M R Q cells slots h pc' ls st) : J M R Q cells slots h pc ls (.int x :: st) := by
  subst hp
  intro p l e s m args below meth c H locs D α α0 h0 lsA hC hW hll hcl hl
  exact lv_if_le hC.1 hC.2.1 (h_dec hC hd) ht (fun q => kt q p l e s m args below meth c H locs D α α0 h0 lsA hC hW hll (h_cl_tl hcl) hl) (fun q => kf q p l e s m args below meth c H locs D α α0 h0 lsA hC hW hll (h_cl_tl hcl) hl)
theorem j_icmp_le {x y : Int32} {off : Int} {tgt : Nat} (hd : fnd (h_tab M) pc = some (.if_icmp .le off, 3)) (ht : (pc : Int) + off = (tgt : Int)) (hp : pc + 3 = pc') (kt : x ≤ y → J M R Q cells slots h tgt ls st) (kf : ¬ x ≤ y → J M R Q cells slots h pc' ls st) : J M R Q cells slots h pc ls (.int y :: .int x :: st) := by
  subst hp
  intro p l e s m args below meth c H locs D α α0 h0 lsA hC hW hll hcl hl
  exact lv_icmp_le hC.1 hC.2.1 (h_dec hC hd) ht (fun q => kt q p l e s m args below meth c H locs D α α0 h0 lsA hC hW hll (h_cl_tl (h_cl_tl hcl)) hl) (fun q => kf q p l e s m args below meth c H locs D α α0 h0 lsA hC hW hll (h_cl_tl (h_cl_tl hcl)) hl)
theorem j_goto {off : Int} {tgt : Nat} (hd : fnd (h_tab M) pc = some (.goto off, 3)) (ht : (pc : Int) + off = (tgt : Int)) (k : J M R Q cells slots h tgt ls st) : J M R Q cells slots h pc ls st := by
  intro p l e s m args below meth c H locs D α α0 h0 lsA hC hW hll hcl hl
  exact lv_goto hC.1 hC.2.1 (h_dec hC hd) ht (k p l e s m args below meth c H locs D α α0 h0 lsA hC hW hll hcl hl)
theorem j_ifnull {x : Nat} {off : Int} (hd : fnd (h_tab M) pc = some (.ifnull off, 3)) (hp : pc + 3 = pc') (k : J M R Q cells slots h pc' ls st) : J M R Q cells slots h pc ls (.ref x :: st) := by
  subst hp
  intro p l e s m args below meth c H locs D α α0 h0 lsA hC hW hll hcl hl
  exact lv_ifnull hC.1 hC.2.1 (h_dec hC hd) (k p l e s m args below meth c H locs D α α0 h0 lsA hC hW hll (h_cl_tl hcl) hl)
theorem j_ifnonnull {x : Nat} {off : Int} {tgt : Nat} (hd : fnd (h_tab M) pc = some (.ifnonnull off, 3)) (ht : (pc : Int) + off = (tgt : Int)) (k : J M R Q cells slots h tgt ls st) : J M R Q cells slots h pc ls (.ref x :: st) := by
  intro p l e s m args below meth c H locs D α α0 h0 lsA hC hW hll hcl hl
  exact lv_ifnonnull hC.1 hC.2.1 (h_dec hC hd) ht (k p l e s m args below meth c H locs D α α0 h0 lsA hC hW hll (h_cl_tl hcl) hl)
theorem j_ifnullN {off : Int} {tgt : Nat} (hd : fnd (h_tab M) pc = some (.ifnull off, 3)) (ht : (pc : Int) + off = (tgt : Int)) (k : J M R Q cells slots h tgt ls st) : J M R Q cells slots h pc ls (.null :: st) := by
  intro p l e s m args below meth c H locs D α α0 h0 lsA hC hW hll hcl hl
  exact lv_ifnullN hC.1 hC.2.1 (h_dec hC hd) ht (k p l e s m args below meth c H locs D α α0 h0 lsA hC hW hll (h_cl_tl hcl) hl)
theorem j_ifnonnullN {off : Int} (hd : fnd (h_tab M) pc = some (.ifnonnull off, 3)) (hp : pc + 3 = pc') (k : J M R Q cells slots h pc' ls st) : J M R Q cells slots h pc ls (.null :: st) := by
  subst hp
  intro p l e s m args below meth c H locs D α α0 h0 lsA hC hW hll hcl hl
  exact lv_ifnonnullN hC.1 hC.2.1 (h_dec hC hd) (k p l e s m args below meth c H locs D α α0 h0 lsA hC hW hll (h_cl_tl hcl) hl)
theorem j_tableIn {dflt lo hi : Int} {offs : Array Int} {len : Nat} {x : Int32} {off : Int} {tgt : Nat} (hd : fnd (h_tab M) pc = some (.tableswitch dflt lo hi offs, len)) (h1 : ¬ x.toInt < lo) (h2 : ¬ hi < x.toInt) (ho : offs[(x.toInt - lo).toNat]? = some off) (ht : (pc : Int) + off = (tgt : Int)) (k : J M R Q cells slots h tgt ls st) : J M R Q cells slots h pc ls (.int x :: st) := by
  intro p l e s m args below meth c H locs D α α0 h0 lsA hC hW hll hcl hl
  exact lv_tableIn hC.1 hC.2.1 (h_dec hC hd) h1 h2 ho ht (k p l e s m args below meth c H locs D α α0 h0 lsA hC hW hll (h_cl_tl hcl) hl)
theorem j_tableOut {dflt lo hi : Int} {offs : Array Int} {len : Nat} {x : Int32} {tgt : Nat} (hd : fnd (h_tab M) pc = some (.tableswitch dflt lo hi offs, len)) (hq : x.toInt < lo ∨ hi < x.toInt) (ht : (pc : Int) + dflt = (tgt : Int)) (k : J M R Q cells slots h tgt ls st) : J M R Q cells slots h pc ls (.int x :: st) := by
  intro p l e s m args below meth c H locs D α α0 h0 lsA hC hW hll hcl hl
  exact lv_tableOut hC.1 hC.2.1 (h_dec hC hd) hq ht (k p l e s m args below meth c H locs D α α0 h0 lsA hC hW hll (h_cl_tl hcl) hl)
theorem j_ldc {idx : Nat} {v : Int32} (hd : fnd (h_tab M) pc = some (.ldc idx, 2)) (hp : pc + 2 = pc') (hw : Cond.constant (h_own M) idx v ∈ lw_tbl) (k : J M R Q cells slots h pc' ls (.int v :: st)) : J M R Q cells slots h pc ls st := by
  subst hp
  intro p l e s m args below meth c H locs D α α0 h0 lsA hC hW hll hcl hl
  exact lv_ldc hC.1 hC.2.1 hC.2.2.2.1 (hC.2.2.2.2.1 _ (h_in hw rfl)) (h_dec hC hd) (k p l e s m args below meth c H locs D α α0 h0 lsA hC hW hll (h_cl_i hcl) hl)
theorem j_ldc2 {idx : Nat} {v : Int64} (hd : fnd (h_tab M) pc = some (.ldc2_w idx, 3)) (hp : pc + 3 = pc') (hw : Cond.constantLong (h_own M) idx v ∈ lw_tbl) (k : J M R Q cells slots h pc' ls (.long v :: st)) : J M R Q cells slots h pc ls st := by
  subst hp
  intro p l e s m args below meth c H locs D α α0 h0 lsA hC hW hll hcl hl
  exact lv_ldc2 hC.1 hC.2.1 hC.2.2.2.1 (hC.2.2.2.2.1 _ (h_in hw rfl)) (h_dec hC hd) (k p l e s m args below meth c H locs D α α0 h0 lsA hC hW hll (h_cl_l hcl) hl)
end HINSTR
end
section
/-! FIELDS, ARRAYS, NEW CELLS, CALLS, ENDS, over the abstract heap (J). -/
section HMEM
variable {M : hM} {R : Room} {Q : Option Value → hH → Prop} {cells slots : Nat} {h : hH} {pc pc' : Nat} {ls : List (Nat × Value)} {st : List Value}
theorem h_one {D : hG} {α : Nat → Nat} {h : hH} {H : Heap} (hP : h_P D α h H) {k : Nat} {e : hE} (hk : h k = some e) : va_P D.1 vwCl [(α k, h_re D α e)] H := by
  intro j q hq
  match j, hq with
  | 0, hq => cases hq; exact hP k e hk
  | j + 1, hq => simp at hq
theorem h_narrow {ty : FieldType} {v : Value} (α : Nat → Nat) (hn : narrow ty v = v) : narrow ty (h_rv α v) = h_rv α v := by
  cases v with
  | ref k => cases ty <;> rfl
  | _ => exact hn
theorem h_fits {ty : FieldType} {v : Value} (α : Nat → Nat) (hn : fits ty v = true) : fits ty (h_rv α v) = true := by
  cases v with
  | ref k => cases ty <;> first | exact hn | rfl
  | _ => exact hn
/-- getfield -/
theorem j_get {idx ci k key : Nat} {ty : FieldType} {fin : Bool} {fs : List Value} {v : Value} (hd : fnd (h_tab M) pc = some (.getfield idx, 3)) (hp : pc + 3 = pc') (F : h_FL (h_own M) idx ci k ty fin) (hk : h key = some (.inr (ci, fs))) (hv : fs[k]? = some v)
    (kk : J M R Q cells slots h pc' ls (v :: st)) : J M R Q cells slots h pc ls (.ref key :: st) := by
  subst hp
  intro p l e s m args below meth c H locs D α α0 h0 lsA hC hW hll hcl hl
  obtain ⟨C, T, N, hc, hkN, hdecl, hfin, hty, hlink⟩ := F
  have hck := h_cls _ _ _ _ hc
  refine va_get (D := D.1) (ci := ci) (C := C) (T := T) (N := N) (fs := fs.map (h_rv α)) (v := h_rv α v) (Ts := hw_tbl) hC.1 hC.2.1 hC.2.2.2.2.1 (fun w hw => h_in (hck.1 w hw) (by obtain ⟨j, -, rfl⟩ := List.mem_map.mp hw; unfold u_lay; split <;> rfl)) hC.2.2.2.1 hC.2.2.2.2.2.2.2.2.1.1 (h_one hW.1 hk) 0 rfl hc k hkN (ref := C) (hC.2.2.2.2.1 _ (h_in hlink rfl)) (fun x hx => by rw [← hdecl]; rw [hdecl] at hx ⊢; exact hx) (by rw [List.getElem?_map, hv]; rfl) (h_dec hC hd) ?_
  exact kk p l e s m args below meth c H locs D α α0 h0 lsA hC hW hll (h_cl_cons (hW.2.2.2.2.1 _ _ hk v (List.mem_of_getElem? hv)) (h_cl_tl hcl)) hl
/-- putfield -/
theorem j_put {idx ci k key : Nat} {ty : FieldType} {fs : List Value} {v : Value} (hd : fnd (h_tab M) pc = some (.putfield idx, 3)) (hp : pc + 3 = pc') (F : h_FL (h_own M) idx ci k ty false) (hk : h key = some (.inr (ci, fs))) (hro : key < 9000) (hkf : k < fs.length) (hn : narrow ty v = v) (hf : fits ty v = true)
    (kk : J M R Q cells slots (hup h key (.inr (ci, fs.set k v))) pc' ls st) : J M R Q cells slots h pc ls (v :: .ref key :: st) := by
  subst hp
  intro p l e s m args below meth c H locs D α α0 h0 lsA hC hW hll hcl hl
  obtain ⟨C, T, N, hc, hkN, hdecl, hfin, hty, hlink⟩ := F
  have hck := h_cls _ _ _ _ hc
  obtain ⟨ty0, hty0⟩ := hck.2.1
  have hts := hC.2.2.2.2.1
  have hin : ∀ w ∈ u_ws C T N, w ∈ hw_tbl := fun w hw => h_in (hck.1 w hw) (by obtain ⟨j, -, rfl⟩ := List.mem_map.mp hw; unfold u_lay; split <;> rfl)
  have hK := hC.2.2.2.2.2.2.2.2.1.1
  have hap := va_apart (own := h_own M) hts hin ty0 hty0 hck.2.2.1 hK hc
  obtain ⟨r, h1, cell, q1, q2, q3, q4⟩ := hW.1 key _ hk
  have hr : r = (C, T, N) := Option.some.inj (h1.symm.trans hc)
  subst hr
  obtain ⟨hS, hfc, kC, hkC, hkind⟩ := hK.1 ci _ hc
  obtain ⟨cf, kf, fi, f, hi, hsl⟩ := hS k hkN
  have hlay := hts _ (hin _ (u_in_lay hkN))
  unfold u_lay at hlay
  rw [if_neg (by rw [hfin]; decide)] at hlay
  have hst := (u_facts hfc hkC (u_lays hts hin hkN) hi).1
  have h6 := u_store hfc hkC hkind hlay hi hty (h_narrow α hn) (h_fits α hf)
  have hi' := hi
  rw [hdecl] at hi'
  refine W.putK hC.1 hC.2.1 (f := f) ⟨hC.2.2.2.1, hts _ (h_in hlink rfl), ⟨_, _, _, hi'⟩, hst⟩ (by rw [q2]; exact h6) q1 q3 (by rw [hsl]; exact k2_hasslot (q4 k hkN)) rfl rfl (h_dec hC hd) fun H' e1 e2 e3 => ?_
  rw [hsl] at e1 ⊢
  have hat : va_at D.1 vwCl (α key, h_re D α (.inr (ci, fs.set k v))) H' := by
    refine ⟨_, hc, ?_⟩
    show t_OB _ _ _ _ _ (vp_V ((fs.set k v).map (h_rv α)))
    rw [List.map_set]
    exact t_OB.to (V := updV (vp_V (fs.map (h_rv α))) k (h_rv α v)) ⟨_, e1, q2, q3, t_set q4 hap hkN (h_rv α v)⟩ (fun j _ => vp_updV_set (by rw [List.length_map]; exact hkf) _ j)
  have hce : h_ce h (.inr (ci, fs.set k v)) := fun w hw => by
    rcases List.mem_or_eq_of_mem_set hw with q | q
    · exact hW.2.2.2.2.1 _ _ hk w q
    · rw [q]; exact h_cl_hd hcl
  exact kk p l e s m args below meth c H' _ D α α0 h0 lsA hC (hW.put hk hro hce hat e2 e3) (h_ll_mono hup_mono hll) (h_cl_mono hup_mono (h_cl_tl (h_cl_tl hcl))) hl
/-- putfield of a final field, in a constructor -/
theorem j_putF {idx ci k key : Nat} {ty : FieldType} {fs : List Value} {v : Value} (hd : fnd (h_tab M) pc = some (.putfield idx, 3)) (hp : pc + 3 = pc') (F : h_FL (h_own M) idx ci k ty true) (hown : (vwCl[ci]?).map (fun q => q.1) = some (h_own M)) (hini : (h_y M).name = "<init>") (hk : h key = some (.inr (ci, fs))) (hro : key < 9000) (hkf : k < fs.length) (hn : narrow ty v = v) (hf : fits ty v = true)
    (kk : J M R Q cells slots (hup h key (.inr (ci, fs.set k v))) pc' ls st) : J M R Q cells slots h pc ls (v :: .ref key :: st) := by
  subst hp
  intro p l e s m args below meth c H locs D α α0 h0 lsA hC hW hll hcl hl
  obtain ⟨C, T, N, hc, hkN, hdecl, hfin, hty, hlink⟩ := F
  have hCo : C = h_own M := by rw [hc] at hown; exact Option.some.inj hown
  have hck := h_cls _ _ _ _ hc
  obtain ⟨ty0, hty0⟩ := hck.2.1
  have hts := hC.2.2.2.2.1
  have hin : ∀ w ∈ u_ws C T N, w ∈ hw_tbl := fun w hw => h_in (hck.1 w hw) (by obtain ⟨j, -, rfl⟩ := List.mem_map.mp hw; unfold u_lay; split <;> rfl)
  have hK := hC.2.2.2.2.2.2.2.2.1.1
  have hap := va_apart (own := h_own M) hts hin ty0 hty0 hck.2.2.1 hK hc
  obtain ⟨r, h1, cell, q1, q2, q3, q4⟩ := hW.1 key _ hk
  have hr : r = (C, T, N) := Option.some.inj (h1.symm.trans hc)
  subst hr
  obtain ⟨hS, hfc, kC, hkC, hkind⟩ := hK.1 ci _ hc
  obtain ⟨cf, kf, fi, f, hi, hsl⟩ := hS k hkN
  have hlay := hts _ (hin _ (u_in_lay hkN))
  unfold u_lay at hlay
  rw [if_pos hfin] at hlay
  have hst := (u_facts hfc hkC (u_lays hts hin hkN) hi).1
  have hcf : m.cls = cf := by
    obtain ⟨_, _, c', _, _, _, -, -, hf', -, -, -, hown2, -⟩ := Cond.laysFinal_spec hlay
    have e1 : c' = cf := by have := hi.symm.trans hf'; simp at this; exact this.1.symm
    rw [hdecl, hCo] at hown2
    rw [← e1]; exact Option.some.inj (hC.2.2.2.1.symm.trans hown2)
  have h6 := u_fits hfc hkC hkind (Or.inr hlay) hi hty (h_narrow α hn) (h_fits α hf)
  have hi' := hi
  rw [hdecl] at hi'
  refine W.putFinK hC.1 hC.2.1 hC.2.2.2.1 (hts _ (h_in hlink rfl)) hi' hst hcf (hC.2.2.2.2.2.2.2.1 hini) (by rw [q2]; exact h6) q1 q3 (by rw [hsl]; exact k2_hasslot (q4 k hkN)) rfl rfl (h_dec hC hd) fun H' e1 e2 e3 => ?_
  rw [hsl] at e1 ⊢
  have hat : va_at D.1 vwCl (α key, h_re D α (.inr (ci, fs.set k v))) H' := by
    refine ⟨_, hc, ?_⟩
    show t_OB _ _ _ _ _ (vp_V ((fs.set k v).map (h_rv α)))
    rw [List.map_set]
    exact t_OB.to (V := updV (vp_V (fs.map (h_rv α))) k (h_rv α v)) ⟨_, e1, q2, q3, t_set q4 hap hkN (h_rv α v)⟩ (fun j _ => vp_updV_set (by rw [List.length_map]; exact hkf) _ j)
  have hce : h_ce h (.inr (ci, fs.set k v)) := fun w hw => by
    rcases List.mem_or_eq_of_mem_set hw with q | q
    · exact hW.2.2.2.2.1 _ _ hk w q
    · rw [q]; exact h_cl_hd hcl
  exact kk p l e s m args below meth c H' _ D α α0 h0 lsA hC (hW.put hk hro hce hat e2 e3) (h_ll_mono hup_mono hll) (h_cl_mono hup_mono (h_cl_tl (h_cl_tl hcl))) hl
theorem j_iald {key n : Nat} {f : Nat → Int32} {i : Int32} (hd : fnd (h_tab M) pc = some (.iaload, 1)) (hp : pc + 1 = pc') (hk : h key = some (.inl (.int, n, .inl f))) (hi : vp_in i n) (kk : J M R Q cells slots h pc' ls (.int (f i.toNatClampNeg) :: st)) : J M R Q cells slots h pc ls (.int i :: .ref key :: st) := by
  subst hp
  intro p l e s m args below meth c H locs D α α0 h0 lsA hC hW hll hcl hl
  exact va_iald hC.1 hC.2.1 hC.2.2.2.2.2.2.2.2.1.1 (h_one hW.1 hk) 0 0 rfl rfl hi (h_dec hC hd) (kk p l e s m args below meth c H locs D α α0 h0 lsA hC hW hll (h_cl_i (h_cl_tl (h_cl_tl hcl))) hl)
theorem j_bald {key n : Nat} {f : Nat → Int32} {i : Int32} (hd : fnd (h_tab M) pc = some (.baload, 1)) (hp : pc + 1 = pc') (hk : h key = some (.inl (.byte, n, .inl f))) (hi : vp_in i n) (kk : J M R Q cells slots h pc' ls (.int (f i.toNatClampNeg) :: st)) : J M R Q cells slots h pc ls (.int i :: .ref key :: st) := by
  subst hp
  intro p l e s m args below meth c H locs D α α0 h0 lsA hC hW hll hcl hl
  exact va_bald hC.1 hC.2.1 hC.2.2.2.2.2.2.2.2.1.1 (h_one hW.1 hk) 0 2 rfl rfl hi (h_dec hC hd) (kk p l e s m args below meth c H locs D α α0 h0 lsA hC hW hll (h_cl_i (h_cl_tl (h_cl_tl hcl))) hl)
theorem j_zald {key n : Nat} {f : Nat → Int32} {i : Int32} (hd : fnd (h_tab M) pc = some (.baload, 1)) (hp : pc + 1 = pc') (hk : h key = some (.inl (.boolean, n, .inl f))) (hi : vp_in i n) (kk : J M R Q cells slots h pc' ls (.int (f i.toNatClampNeg) :: st)) : J M R Q cells slots h pc ls (.int i :: .ref key :: st) := by
  subst hp
  intro p l e s m args below meth c H locs D α α0 h0 lsA hC hW hll hcl hl
  exact va_zald hC.1 hC.2.1 hC.2.2.2.2.2.2.2.2.1.1 (h_one hW.1 hk) 0 3 rfl rfl hi (h_dec hC hd) (kk p l e s m args below meth c H locs D α α0 h0 lsA hC hW hll (h_cl_i (h_cl_tl (h_cl_tl hcl))) hl)
theorem j_lald {key n : Nat} {f : Nat → Int64} {i : Int32} (hd : fnd (h_tab M) pc = some (.laload, 1)) (hp : pc + 1 = pc') (hk : h key = some (.inl (.long, n, .inr (.inl f)))) (hi : vp_in i n) (kk : J M R Q cells slots h pc' ls (.long (f i.toNatClampNeg) :: st)) : J M R Q cells slots h pc ls (.int i :: .ref key :: st) := by
  subst hp
  intro p l e s m args below meth c H locs D α α0 h0 lsA hC hW hll hcl hl
  exact va_lald hC.1 hC.2.1 hC.2.2.2.2.2.2.2.2.1.1 (h_one hW.1 hk) 0 1 rfl rfl hi (h_dec hC hd) (kk p l e s m args below meth c H locs D α α0 h0 lsA hC hW hll (h_cl_l (h_cl_tl (h_cl_tl hcl))) hl)
theorem h_rf (α : Nat → Nat) (r : Option Nat) : va_rf (r.map α) = h_rv α (va_rf r) := by cases r <;> rfl
theorem h_of_tys {D : hG} {C : String} (hC : C ∈ [RX4, RX1, RX2, RX3]) : ∃ t0 : Nat, (h_tys D)[t0]? = some (D.2 (.object C), .object C) := by
  simp only [List.mem_cons, List.not_mem_nil, or_false] at hC
  rcases hC with rfl | rfl | rfl | rfl
  · exact ⟨4, rfl⟩
  · exact ⟨5, rfl⟩
  · exact ⟨6, rfl⟩
  · exact ⟨7, rfl⟩
theorem j_aald {key n : Nat} {f : Nat → Option Nat} {i : Int32} {C : String} (hd : fnd (h_tab M) pc = some (.aaload, 1)) (hp : pc + 1 = pc') (hc : C ∈ [RX4, RX1, RX2, RX3]) (hk : h key = some (.inl (.object C, n, .inr (.inr (.inr (.inr f)))))) (hi : vp_in i n) (kk : J M R Q cells slots h pc' ls (va_rf (f i.toNatClampNeg) :: st)) : J M R Q cells slots h pc ls (.int i :: .ref key :: st) := by
  subst hp
  intro p l e s m args below meth c H locs D α α0 h0 lsA hC hW hll hcl hl
  obtain ⟨t0, ht0⟩ := h_of_tys (D := D) hc
  refine va_aldq hC.1 hC.2.1 hC.2.2.2.2.2.2.2.2.1.1 (h_one hW.1 hk) 0 t0 rfl ht0 hi (h_dec hC hd) ?_
  have hcv : h_cv h (va_rf (f i.toNatClampNeg)) := by
    cases hj : f i.toNatClampNeg with
    | none => trivial
    | some k => exact hW.2.2.2.2.1 _ _ hk _ k hj
  have := kk p l e s m args below meth c H locs D α α0 h0 lsA hC hW hll (h_cl_cons hcv (h_cl_tl (h_cl_tl hcl))) hl
  rw [List.map_cons, ← h_rf] at this
  exact this
theorem j_iast {key n : Nat} {f : Nat → Int32} {i : Int32} {x : Int32} (hd : fnd (h_tab M) pc = some (.iastore, 1)) (hp : pc + 1 = pc') (hk : h key = some (.inl (.int, n, .inl f))) (hro : key < 9000) (hi : vp_in i n) (kk : J M R Q cells slots (hup h key (.inl (.int, n, .inl (va_up f i.toNatClampNeg x)))) pc' ls st) : J M R Q cells slots h pc ls (.int x :: .int i :: .ref key :: st) := by
  subst hp
  intro p l e s m args below meth c H locs D α α0 h0 lsA hC hW hll hcl hl
  refine W.iast hC.1 hC.2.1 (hW.1 _ _ hk) ((hC.2.2.2.2.2.2.2.2.1.1.2 0 _ rfl).1 n (fun j => .int (f j))) (fun q => by cases q) (by show ¬ (i < 0 ∨ (arrV _ _ _).slots.size ≤ _); rw [arrV_size]; exact hi) rfl rfl (h_dec hC hd) fun H1 e1 z oq => ?_
  have hat : va_at D.1 vwCl (α key, h_re D α (.inl (.int, n, .inl (va_up f i.toNatClampNeg x)))) H1 := by
    show H1[α key]? = some (vp_cell _ _)
    rw [e1]
    show some ((vp_cell _ (n, _)).setSlot _ _) = some (vp_cell _ (n, _))
    rw [vp_cell_i, vp_cell_i, arrV_store]
    congr 2
    funext q
    by_cases hq : q = i.toNatClampNeg
    · subst hq
      simp [updV, va_up, vp_nar]
      try rfl
    · simp [updV, va_up, hq]
  exact kk p l e s m args below meth c H1 _ D α α0 h0 lsA hC (hW.put hk hro trivial hat z oq) (h_ll_mono hup_mono hll) (h_cl_mono hup_mono (h_cl_tl (h_cl_tl (h_cl_tl hcl)))) hl
theorem j_bast {key n : Nat} {f : Nat → Int32} {i : Int32} {x : Int32} (hd : fnd (h_tab M) pc = some (.bastore, 1)) (hp : pc + 1 = pc') (hk : h key = some (.inl (.byte, n, .inl f))) (hro : key < 9000) (hi : vp_in i n) (kk : J M R Q cells slots (hup h key (.inl (.byte, n, .inl (va_up f i.toNatClampNeg (vp_nar .byte x))))) pc' ls st) : J M R Q cells slots h pc ls (.int x :: .int i :: .ref key :: st) := by
  subst hp
  intro p l e s m args below meth c H locs D α α0 h0 lsA hC hW hll hcl hl
  refine W.bast hC.1 hC.2.1 (hW.1 _ _ hk) ((hC.2.2.2.2.2.2.2.2.1.1.2 2 _ rfl).1 n (fun j => .int (f j))) (fun q => by cases q) (by show ¬ (i < 0 ∨ (arrV _ _ _).slots.size ≤ _); rw [arrV_size]; exact hi) rfl rfl (h_dec hC hd) fun H1 e1 z oq => ?_
  have hat : va_at D.1 vwCl (α key, h_re D α (.inl (.byte, n, .inl (va_up f i.toNatClampNeg (vp_nar .byte x))))) H1 := by
    show H1[α key]? = some (vp_cell _ _)
    rw [e1]
    show some ((vp_cell _ (n, _)).setSlot _ _) = some (vp_cell _ (n, _))
    rw [vp_cell_i, vp_cell_i, arrV_store]
    congr 2
    funext q
    by_cases hq : q = i.toNatClampNeg
    · subst hq
      simp [updV, va_up, vp_nar]
      try rfl
    · simp [updV, va_up, hq]
  exact kk p l e s m args below meth c H1 _ D α α0 h0 lsA hC (hW.put hk hro trivial hat z oq) (h_ll_mono hup_mono hll) (h_cl_mono hup_mono (h_cl_tl (h_cl_tl (h_cl_tl hcl)))) hl
theorem j_zast {key n : Nat} {f : Nat → Int32} {i : Int32} {x : Int32} (hd : fnd (h_tab M) pc = some (.bastore, 1)) (hp : pc + 1 = pc') (hk : h key = some (.inl (.boolean, n, .inl f))) (hro : key < 9000) (hi : vp_in i n) (kk : J M R Q cells slots (hup h key (.inl (.boolean, n, .inl (va_up f i.toNatClampNeg (vp_nar .boolean x))))) pc' ls st) : J M R Q cells slots h pc ls (.int x :: .int i :: .ref key :: st) := by
  subst hp
  intro p l e s m args below meth c H locs D α α0 h0 lsA hC hW hll hcl hl
  refine W.zast hC.1 hC.2.1 (hW.1 _ _ hk) ((hC.2.2.2.2.2.2.2.2.1.1.2 3 _ rfl).1 n (fun j => .int (f j))) (fun q => by cases q) (by show ¬ (i < 0 ∨ (arrV _ _ _).slots.size ≤ _); rw [arrV_size]; exact hi) rfl rfl (h_dec hC hd) fun H1 e1 z oq => ?_
  have hat : va_at D.1 vwCl (α key, h_re D α (.inl (.boolean, n, .inl (va_up f i.toNatClampNeg (vp_nar .boolean x))))) H1 := by
    show H1[α key]? = some (vp_cell _ _)
    rw [e1]
    show some ((vp_cell _ (n, _)).setSlot _ _) = some (vp_cell _ (n, _))
    rw [vp_cell_i, vp_cell_i, arrV_store]
    congr 2
    funext q
    by_cases hq : q = i.toNatClampNeg
    · subst hq
      simp [updV, va_up, vp_nar]
      try rfl
    · simp [updV, va_up, hq]
  exact kk p l e s m args below meth c H1 _ D α α0 h0 lsA hC (hW.put hk hro trivial hat z oq) (h_ll_mono hup_mono hll) (h_cl_mono hup_mono (h_cl_tl (h_cl_tl (h_cl_tl hcl)))) hl
theorem j_last {key n : Nat} {f : Nat → Int64} {i : Int32} {x : Int64} (hd : fnd (h_tab M) pc = some (.lastore, 1)) (hp : pc + 1 = pc') (hk : h key = some (.inl (.long, n, .inr (.inl f)))) (hro : key < 9000) (hi : vp_in i n) (kk : J M R Q cells slots (hup h key (.inl (.long, n, .inr (.inl (va_up f i.toNatClampNeg x))))) pc' ls st) : J M R Q cells slots h pc ls (.long x :: .int i :: .ref key :: st) := by
  subst hp
  intro p l e s m args below meth c H locs D α α0 h0 lsA hC hW hll hcl hl
  refine W.last hC.1 hC.2.1 (hW.1 _ _ hk) ((hC.2.2.2.2.2.2.2.2.1.1.2 1 _ rfl).1 n (fun j => .long (f j))) (fun q => by cases q) (by show ¬ (i < 0 ∨ (arrV _ _ _).slots.size ≤ _); rw [arrV_size]; exact hi) rfl rfl (h_dec hC hd) fun H1 e1 z oq => ?_
  have hat : va_at D.1 vwCl (α key, h_re D α (.inl (.long, n, .inr (.inl (va_up f i.toNatClampNeg x))))) H1 := by
    show H1[α key]? = some (vp_cell _ _)
    rw [e1]
    show some ((vp_cell _ (n, _)).setSlot _ _) = some (vp_cell _ (n, _))
    rw [vp_cell_l, vp_cell_l, arrV_store]
    congr 2
    funext q
    by_cases hq : q = i.toNatClampNeg
    · subst hq
      simp [updV, va_up, vp_nar]
      try rfl
    · simp [updV, va_up, hq]
  exact kk p l e s m args below meth c H1 _ D α α0 h0 lsA hC (hW.put hk hro trivial hat z oq) (h_ll_mono hup_mono hll) (h_cl_mono hup_mono (h_cl_tl (h_cl_tl (h_cl_tl hcl)))) hl
theorem j_aast {key n v ci : Nat} {r : vw_C} {vs : List Value} {f : Nat → Option Nat} {i : Int32} (hd : fnd (h_tab M) pc = some (.aastore, 1)) (hp : pc + 1 = pc') (hc : r.1 ∈ [RX4, RX1, RX2, RX3]) (hk : h key = some (.inl (.object r.1, n, .inr (.inr (.inr (.inr f)))))) (hro : key < 9000) (hi : vp_in i n) (hv : h v = some (.inr (ci, vs))) (hci : vwCl[ci]? = some r) (kk : J M R Q cells slots (hup h key (.inl (.object r.1, n, .inr (.inr (.inr (.inr (va_up f i.toNatClampNeg (some v)))))))) pc' ls st) : J M R Q cells slots h pc ls (.ref v :: .int i :: .ref key :: st) := by
  subst hp
  intro p l e s m args below meth c H locs D α α0 h0 lsA hC hW hll hcl hl
  obtain ⟨t0, ht0⟩ := h_of_tys (D := D) hc
  have hK := hC.2.2.2.2.2.2.2.2.1.1
  have hlt : i.toNatClampNeg < n := Nat.not_le.mp fun q => hi (Or.inr q)
  have hlo : ¬ i < 0 := fun q => hi (Or.inl q)
  obtain ⟨r', hr', cellV, g1, g2, g3, -⟩ := hW.1 v _ hv
  have hcls := (hK.1 ci r hci).2
  obtain ⟨kA, comp, k1, k2, k3, -⟩ := (hK.2 t0 _ ht0).2
  have hcomp : comp = D.1.1 ci := Option.some.inj (k3.symm.trans hcls.1)
  subst hcomp
  obtain ⟨kC, hkC, -⟩ := hcls.2
  refine W.aast hC.1 hC.2.1 (hW.1 _ _ hk) (fun q h => by cases h) (fun h => by cases h) k1 k2 rfl hkC ⟨hlo, by show _ < (arrV _ _ _).slots.size; rw [arrV_size]; exact hlt⟩ g1 (fun q h => by rw [g3] at h; cases h) (by rw [g2]; exact hkC) (by rw [g2]; exact va_assign hcls) rfl rfl (h_dec hC hd) fun H1 e1 z oq => ?_
  have hat : va_at D.1 vwCl (α key, h_re D α (.inl (.object r.1, n, .inr (.inr (.inr (.inr (va_up f i.toNatClampNeg (some v)))))))) H1 := by
    show H1[α key]? = some (vp_cell _ _)
    rw [e1]
    show some ((vp_cell _ (n, _)).setSlot _ _) = some (vp_cell _ (n, _))
    rw [vp_cell_q, vp_cell_q, arrV_store]
    congr 2
    funext q
    by_cases hq : q = i.toNatClampNeg
    · subst hq
      simp [updV, va_up, va_rf]
    · simp [updV, va_up, hq]
  have hce : h_ce h (.inl (.object r.1, n, .inr (.inr (.inr (.inr (va_up f i.toNatClampNeg (some v))))))) := fun j k hj => by
    by_cases hq : j = i.toNatClampNeg
    · subst hq
      simp [va_up] at hj
      rw [← hj]; exact Or.inl (by rw [hv]; exact fun z => by cases z)
    · simp [va_up, hq] at hj
      exact hW.2.2.2.2.1 _ _ hk j k hj
  exact kk p l e s m args below meth c H1 _ D α α0 h0 lsA hC (hW.put hk hro hce hat z oq) (h_ll_mono hup_mono hll) (h_cl_mono hup_mono (h_cl_tl (h_cl_tl (h_cl_tl hcl)))) hl
theorem j_alen {key : Nat} {ty : FieldType} {x : vp_A} {v : Int32} {t0 : Nat} (hd : fnd (h_tab M) pc = some (.arraylength, 1)) (hp : pc + 1 = pc') (hk : h key = some (.inl (ty, x))) (ht : ∀ D : hG, (h_tys D)[t0]? = some (D.2 ty, ty)) (hv : Int32.ofNat x.1 = v) (kk : J M R Q cells slots h pc' ls (.int v :: st)) : J M R Q cells slots h pc ls (.ref key :: st) := by
  subst hp
  intro p l e s m args below meth c H locs D α α0 h0 lsA hC hW hll hcl hl
  refine va_alen hC.1 hC.2.1 hC.2.2.2.2.2.2.2.2.1.1 (h_one hW.1 hk) 0 t0 rfl (ht D) (x := h_ra α x) (v := v) ?_ (h_dec hC hd) (kk p l e s m args below meth c H locs D α α0 h0 lsA hC hW hll (h_cl_i (h_cl_tl hcl)) hl)
  obtain ⟨n, f | f | f | f | f⟩ := x <;> exact hv
end HMEM
end
section
/-! NEW CELLS, ENDS AND CALLS, over the abstract heap (J). -/
section HCALLS
variable {M : hM} {R : Room} {Q : Option Value → hH → Prop} {cells slots : Nat} {h : hH} {pc pc' : Nat} {ls : List (Nat × Value)} {st : List Value}
def h_nr (v : Value) : Bool := match v with
  | .ref _ => false
  | _ => true
theorem h_nr_rv {v : Value} (α : Nat → Nat) (hv : h_nr v = true) : h_rv α v = v := by
  cases v with
  | ref k => cases hv
  | _ => rfl
theorem h_nr_cv {v : Value} (h : hH) (hv : h_nr v = true) : h_cv h v := by
  cases v with
  | ref k => cases hv
  | _ => trivial
/-- what lies behind: the stack and the locals stay, under the longer map of keys -/
theorem j_ext {M : hM} {R : Room} {Q : Option Value → hH → Prop} {cells slots : Nat} {h h' : hH} {pc : Nat} {ls : List (Nat × Value)} {st : List Value} (kk : J M R Q cells slots h' pc ls st)
    {p : Program} {l : Launch} {e : Env} {s : State} {m : MethodId} {args : Array Value} {below : List Frame} {meth : Method} {c : Code} {H : Heap} {locs : List Loc} {D : hG} {α α' α0 : Nat → Nat} {h0 : hH} {lsA : Array Slot}
    (hC : h_Cx M p s m args meth c D) (hW : h_Wd D α' h' α0 h0 s H locs) (e1 : ∀ k : Nat, h_ok h k → h_ok h' k) (e2 : ∀ k : Nat, h_ok h k → α' k = α k) (hll : h_ll h ls) (hcl : h_cl h' st) (hl : lv_has lsA (h_nL M) (ls.map (fun q => (q.1, h_rv α q.2)))) :
    W p l e R s m args below meth c H locs cells slots (MQ below (h_QQ D α0 h0 Q) args s R.cells R.slots (h_AA α0 h0 s.heap.size)) (F0 m pc lsA (st.map (h_rv α'))) :=
  kk p l e s m args below meth c H locs D α' α0 h0 lsA hC hW (h_ll_mono e1 hll) hcl (by rw [h_lmap_ext e2 hll]; exact hl)
/-- new -/
theorem j_new {idx ci key N : Nat} {C : String} {T : u_T} {fs : List Value} (hd : fnd (h_tab M) pc = some (.new idx, 3)) (hp : pc + 3 = pc') (hcl0 : Cond.classLink (h_own M) idx C ∈ lw_tbl) (hc : vwCl[ci]? = some (C, T, N)) (hdf : ∀ j, j < N → (parseFieldDescriptor (T j).2.2.1).map defaultValue = some (vp_V fs j)) (hnr : ∀ v ∈ fs, h_nr v = true) (hk : h key = none) (hk9 : key < 9000) (hcells : cells + 1 ≤ R.cells) (hslots : slots + N ≤ R.slots)
    (kk : J M R Q (cells + 1) (slots + N) (hup h key (.inr (ci, fs))) pc' ls (.ref key :: st)) : J M R Q cells slots h pc ls st := by
  subst hp
  intro p l e s m args below meth c H locs D α α0 h0 lsA hC hW hll hcl hl
  have hck := h_cls _ _ _ _ hc
  obtain ⟨ty0, hty0⟩ := hck.2.1
  have hts := hC.2.2.2.2.1
  have hin : ∀ w ∈ u_ws C T N, w ∈ hw_tbl := fun w hw => h_in (hck.1 w hw) (by obtain ⟨j, -, rfl⟩ := List.mem_map.mp hw; unfold u_lay; split <;> rfl)
  have hKn := hC.2.2.2.2.2.2.2.2.1.1.1 ci _ hc
  refine W.newcK hC.1 hC.2.1 hC.2.2.2.1 (hts _ (h_in hcl0 rfl)) (hts _ (h_in hck.2.2.2.1 rfl)) (hts _ (h_in hck.2.2.2.2 rfl)) rfl (h_dec hC hd) hcells hslots hKn.2.1 rfl fun H1 kC hkC e1 z1 o1 => ?_
  have hmap : fs.map (h_rv α) = fs := by
    have : fs.map (h_rv α) = fs.map id := List.map_congr_left fun v hv => h_nr_rv α (hnr v hv)
    rw [this, List.map_id]
  have hat : va_at D.1 vwCl (H.size, h_re D α (.inr (ci, fs))) H1 := by
    refine ⟨_, hc, ?_⟩
    show t_OB _ _ _ _ _ (vp_V (fs.map (h_rv α)))
    rw [hmap]
    refine (u_born ty0 hts hin hKn hkC e1 hty0).to (fun j hj => ?_)
    have q := hdf j hj
    rw [hty0 j hj] at q
    exact Option.some.inj q
  obtain ⟨hW', hal⟩ := hW.push hk hk9 (e := .inr (ci, fs)) (fun v hv => h_nr_cv h (hnr v hv)) hat z1 o1
  have hself : h_al α key H.size key = H.size := if_pos rfl
  have := j_ext (l := l) (e := e) (below := below) kk hC hW' hup_mono hal hll (h_cl_cons (show h_ok (hup h key _) key from Or.inl (hup_some h key _)) (h_cl_mono hup_mono hcl)) hl
  rw [List.map_cons, h_map_ext hal hcl] at this
  rw [← hself]
  exact this
theorem j_newa_int {key N : Nat} {n : Int32} (hd : fnd (h_tab M) pc = some (.newarray .int, 2)) (hp : pc + 2 = pc') (hw : Cond.arrayClass .int ∈ lw_tbl) (hn : ¬ n < 0) (hN : n.toNatClampNeg = N) (hbytes : N ≤ 10000) (hk : h key = none) (hk9 : key < 9000) (hcells : cells + 1 ≤ R.cells) (hslots : slots + N ≤ R.slots)
    (kk : J M R Q (cells + 1) (slots + N) (hup h key (.inl (.int, N, .inl (fun _ => 0)))) pc' ls (.ref key :: st)) : J M R Q cells slots h pc ls (.int n :: st) := by
  subst hp
  intro p l e s m args below meth c H locs D α α0 h0 lsA hC hW hll hcl hl
  refine va_newaK hC.1 hC.2.1 (atype := .int) (hC.2.2.2.2.1 _ (h_in hw rfl)) rfl (h_dec hC hd) rfl hn hN (by show N * componentBytes .int ≤ 536870912; simp only [componentBytes]; omega) hcells hslots rfl fun H1 cA e1 z1 o1 hAr hNm => ?_
  have hcA : D.2 .int = cA := Option.some.inj ((hC.2.2.2.2.2.2.2.2.1.1.2 0 _ rfl).2.symm.trans hNm)
  have hat : va_at D.1 vwCl (H.size, h_re D α (.inl (.int, N, .inl (fun _ => 0)))) H1 := by
    show H1[H.size]? = some (vp_cell (D.2 .int) _)
    rw [hcA]
    exact e1
  obtain ⟨hW', hal⟩ := hW.push hk hk9 (e := .inl (.int, N, .inl (fun _ => 0))) trivial hat z1 o1
  have hself : h_al α key H.size key = H.size := if_pos rfl
  have := j_ext (l := l) (e := e) (below := below) kk hC hW' hup_mono hal hll (h_cl_cons (show h_ok (hup h key _) key from Or.inl (hup_some h key _)) (h_cl_mono hup_mono (h_cl_tl hcl))) hl
  rw [List.map_cons, h_map_ext hal (h_cl_tl hcl)] at this
  rw [← hself]
  exact this
theorem j_newa_long {key N : Nat} {n : Int32} (hd : fnd (h_tab M) pc = some (.newarray .long, 2)) (hp : pc + 2 = pc') (hw : Cond.arrayClass .long ∈ lw_tbl) (hn : ¬ n < 0) (hN : n.toNatClampNeg = N) (hbytes : N ≤ 10000) (hk : h key = none) (hk9 : key < 9000) (hcells : cells + 1 ≤ R.cells) (hslots : slots + N ≤ R.slots)
    (kk : J M R Q (cells + 1) (slots + N) (hup h key (.inl (.long, N, .inr (.inl (fun _ => 0))))) pc' ls (.ref key :: st)) : J M R Q cells slots h pc ls (.int n :: st) := by
  subst hp
  intro p l e s m args below meth c H locs D α α0 h0 lsA hC hW hll hcl hl
  refine va_newaK hC.1 hC.2.1 (atype := .long) (hC.2.2.2.2.1 _ (h_in hw rfl)) rfl (h_dec hC hd) rfl hn hN (by show N * componentBytes .long ≤ 536870912; simp only [componentBytes]; omega) hcells hslots rfl fun H1 cA e1 z1 o1 hAr hNm => ?_
  have hcA : D.2 .long = cA := Option.some.inj ((hC.2.2.2.2.2.2.2.2.1.1.2 1 _ rfl).2.symm.trans hNm)
  have hat : va_at D.1 vwCl (H.size, h_re D α (.inl (.long, N, .inr (.inl (fun _ => 0))))) H1 := by
    show H1[H.size]? = some (vp_cell (D.2 .long) _)
    rw [hcA]
    exact e1
  obtain ⟨hW', hal⟩ := hW.push hk hk9 (e := .inl (.long, N, .inr (.inl (fun _ => 0)))) trivial hat z1 o1
  have hself : h_al α key H.size key = H.size := if_pos rfl
  have := j_ext (l := l) (e := e) (below := below) kk hC hW' hup_mono hal hll (h_cl_cons (show h_ok (hup h key _) key from Or.inl (hup_some h key _)) (h_cl_mono hup_mono (h_cl_tl hcl))) hl
  rw [List.map_cons, h_map_ext hal (h_cl_tl hcl)] at this
  rw [← hself]
  exact this
theorem j_newa_byte {key N : Nat} {n : Int32} (hd : fnd (h_tab M) pc = some (.newarray .byte, 2)) (hp : pc + 2 = pc') (hw : Cond.arrayClass .byte ∈ lw_tbl) (hn : ¬ n < 0) (hN : n.toNatClampNeg = N) (hbytes : N ≤ 10000) (hk : h key = none) (hk9 : key < 9000) (hcells : cells + 1 ≤ R.cells) (hslots : slots + N ≤ R.slots)
    (kk : J M R Q (cells + 1) (slots + N) (hup h key (.inl (.byte, N, .inl (fun _ => 0)))) pc' ls (.ref key :: st)) : J M R Q cells slots h pc ls (.int n :: st) := by
  subst hp
  intro p l e s m args below meth c H locs D α α0 h0 lsA hC hW hll hcl hl
  refine va_newaK hC.1 hC.2.1 (atype := .byte) (hC.2.2.2.2.1 _ (h_in hw rfl)) rfl (h_dec hC hd) rfl hn hN (by show N * componentBytes .byte ≤ 536870912; simp only [componentBytes]; omega) hcells hslots rfl fun H1 cA e1 z1 o1 hAr hNm => ?_
  have hcA : D.2 .byte = cA := Option.some.inj ((hC.2.2.2.2.2.2.2.2.1.1.2 2 _ rfl).2.symm.trans hNm)
  have hat : va_at D.1 vwCl (H.size, h_re D α (.inl (.byte, N, .inl (fun _ => 0)))) H1 := by
    show H1[H.size]? = some (vp_cell (D.2 .byte) _)
    rw [hcA]
    exact e1
  obtain ⟨hW', hal⟩ := hW.push hk hk9 (e := .inl (.byte, N, .inl (fun _ => 0))) trivial hat z1 o1
  have hself : h_al α key H.size key = H.size := if_pos rfl
  have := j_ext (l := l) (e := e) (below := below) kk hC hW' hup_mono hal hll (h_cl_cons (show h_ok (hup h key _) key from Or.inl (hup_some h key _)) (h_cl_mono hup_mono (h_cl_tl hcl))) hl
  rw [List.map_cons, h_map_ext hal (h_cl_tl hcl)] at this
  rw [← hself]
  exact this
theorem j_newa_boolean {key N : Nat} {n : Int32} (hd : fnd (h_tab M) pc = some (.newarray .boolean, 2)) (hp : pc + 2 = pc') (hw : Cond.arrayClass .boolean ∈ lw_tbl) (hn : ¬ n < 0) (hN : n.toNatClampNeg = N) (hbytes : N ≤ 10000) (hk : h key = none) (hk9 : key < 9000) (hcells : cells + 1 ≤ R.cells) (hslots : slots + N ≤ R.slots)
    (kk : J M R Q (cells + 1) (slots + N) (hup h key (.inl (.boolean, N, .inl (fun _ => 0)))) pc' ls (.ref key :: st)) : J M R Q cells slots h pc ls (.int n :: st) := by
  subst hp
  intro p l e s m args below meth c H locs D α α0 h0 lsA hC hW hll hcl hl
  refine va_newaK hC.1 hC.2.1 (atype := .boolean) (hC.2.2.2.2.1 _ (h_in hw rfl)) rfl (h_dec hC hd) rfl hn hN (by show N * componentBytes .boolean ≤ 536870912; simp only [componentBytes]; omega) hcells hslots rfl fun H1 cA e1 z1 o1 hAr hNm => ?_
  have hcA : D.2 .boolean = cA := Option.some.inj ((hC.2.2.2.2.2.2.2.2.1.1.2 3 _ rfl).2.symm.trans hNm)
  have hat : va_at D.1 vwCl (H.size, h_re D α (.inl (.boolean, N, .inl (fun _ => 0)))) H1 := by
    show H1[H.size]? = some (vp_cell (D.2 .boolean) _)
    rw [hcA]
    exact e1
  obtain ⟨hW', hal⟩ := hW.push hk hk9 (e := .inl (.boolean, N, .inl (fun _ => 0))) trivial hat z1 o1
  have hself : h_al α key H.size key = H.size := if_pos rfl
  have := j_ext (l := l) (e := e) (below := below) kk hC hW' hup_mono hal hll (h_cl_cons (show h_ok (hup h key _) key from Or.inl (hup_some h key _)) (h_cl_mono hup_mono (h_cl_tl hcl))) hl
  rw [List.map_cons, h_map_ext hal (h_cl_tl hcl)] at this
  rw [← hself]
  exact this
theorem j_newq {idx key N : Nat} {n : Int32} {C : String} (hd : fnd (h_tab M) pc = some (.anewarray idx, 3)) (hp : pc + 3 = pc') (hcl0 : Cond.classLink (h_own M) idx C ∈ lw_tbl) (hc : C ∈ [RX4, RX1, RX2, RX3]) (hn : ¬ n < 0) (hN : n.toNatClampNeg = N) (hbytes : N ≤ 10000) (hk : h key = none) (hk9 : key < 9000) (hcells : cells + 1 ≤ R.cells) (hslots : slots + N ≤ R.slots)
    (kk : J M R Q (cells + 1) (slots + N) (hup h key (.inl (.object C, N, .inr (.inr (.inr (.inr (fun _ => none))))))) pc' ls (.ref key :: st)) : J M R Q cells slots h pc ls (.int n :: st) := by
  subst hp
  subst hN
  intro p l e s m args below meth c H locs D α α0 h0 lsA hC hW hll hcl hl
  obtain ⟨t0, ht0⟩ := h_of_tys (D := D) hc
  have hK := hC.2.2.2.2.2.2.2.2.1
  refine W.anew hC.1 hC.2.1 hC.2.2.2.1 (hC.2.2.2.2.1 _ (h_in hcl0 rfl)) (va_AO.use (hK.2.2.1 C hc)) rfl (h_dec hC hd) rfl hn (by omega) hcells hslots fun cA kA comp f1 f2 f3 f4 => ?_
  generalize hH1 : H.push ({ cls := cA, slots := Array.replicate n.toNatClampNeg .null, vm := .none } : Cell) = H1
  have z1 : H1.size = H.size + 1 := by rw [← hH1, Array.size_push]
  have e1 : H1[H.size]? = some (arrV cA n.toNatClampNeg (fun _ => .null)) := by rw [← hH1, Array.getElem?_push_size, ← arrV_new]
  have o1 : ∀ q : Nat, q < H.size → H1[q]? = H[q]? := fun q hq => by rw [← hH1, Array.getElem?_push, if_neg (Nat.ne_of_lt hq)]
  obtain ⟨kA', comp', -, -, -, g4⟩ := (hK.1.2 t0 _ ht0).2
  have hcA : D.2 (.object C) = cA := Option.some.inj (g4.symm.trans f1)
  have hat : va_at D.1 vwCl (H.size, h_re D α (.inl (.object C, n.toNatClampNeg, .inr (.inr (.inr (.inr (fun _ => none))))))) H1 := by
    show H1[H.size]? = some (vp_cell (D.2 (.object C)) _)
    rw [hcA]
    exact e1
  obtain ⟨hW', hal⟩ := hW.push hk hk9 (e := .inl (.object C, n.toNatClampNeg, .inr (.inr (.inr (.inr (fun _ => none)))))) (fun j k hj => by cases hj) hat z1 o1
  have hself : h_al α key H.size key = H.size := if_pos rfl
  have := j_ext (l := l) (e := e) (below := below) kk hC hW' hup_mono hal hll (h_cl_cons (show h_ok (hup h key _) key from Or.inl (hup_some h key _)) (h_cl_mono hup_mono (h_cl_tl hcl))) hl
  rw [List.map_cons, h_map_ext hal (h_cl_tl hcl)] at this
  rw [← hself]
  exact this
theorem j_iret {v : Int32} (hd : fnd (h_tab M) pc = some (.ireturn, 1)) (hr : h_ret M = some .int) (hcs : cells ≤ R.cells) (hss : slots ≤ R.slots) (q : Q (some (.int v)) h) : J M R Q cells slots h pc ls [.int v] := by
  intro p l e s m args below meth c H locs D α α0 h0 lsA hC hW hll hcl hl
  refine W.widen hcs hss ?_
  exact W.iret (hlocks := hC.2.2.2.2.2.2.1) hC.1 hC.2.1 (hC.2.2.2.2.2.1.trans hr)  (fun t ht hWa => ⟨some (.int v), h, α, rfl, q, by rw [ht]; exact hW.1, hW.2.1, hW.2.2.2.1, ⟨hW.2.2.2.2.1, hW.2.2.2.2.2.1⟩, (fun w hw => by cases hw; trivial), hW.2.2.1.F ht⟩) hW.2.2.1.2.2 (h_dec hC hd)
theorem j_lret {v : Int64} (hd : fnd (h_tab M) pc = some (.lreturn, 1)) (hr : h_ret M = some .long) (hcs : cells ≤ R.cells) (hss : slots ≤ R.slots) (q : Q (some (.long v)) h) : J M R Q cells slots h pc ls [.long v] := by
  intro p l e s m args below meth c H locs D α α0 h0 lsA hC hW hll hcl hl
  refine W.widen hcs hss ?_
  exact W.lret (hlocks := hC.2.2.2.2.2.2.1) hC.1 hC.2.1 (hC.2.2.2.2.2.1.trans hr)  (fun t ht hWa => ⟨some (.long v), h, α, rfl, q, by rw [ht]; exact hW.1, hW.2.1, hW.2.2.2.1, ⟨hW.2.2.2.2.1, hW.2.2.2.2.2.1⟩, (fun w hw => by cases hw; trivial), hW.2.2.1.F ht⟩) hW.2.2.1.2.2 (h_dec hC hd)
theorem j_zret {v : Int32} (hd : fnd (h_tab M) pc = some (.ireturn, 1)) (hr : h_ret M = some .boolean) (hb : narrow .boolean (.int v) = .int v) (hcs : cells ≤ R.cells) (hss : slots ≤ R.slots) (q : Q (some (.int v)) h) : J M R Q cells slots h pc ls [.int v] := by
  intro p l e s m args below meth c H locs D α α0 h0 lsA hC hW hll hcl hl
  refine W.widen hcs hss ?_
  exact W.zret (hlocks := hC.2.2.2.2.2.2.1) hC.1 hC.2.1 (hC.2.2.2.2.2.1.trans hr) hb (fun t ht hWa => ⟨some (.int v), h, α, rfl, q, by rw [ht]; exact hW.1, hW.2.1, hW.2.2.2.1, ⟨hW.2.2.2.2.1, hW.2.2.2.2.2.1⟩, (fun w hw => by cases hw; trivial), hW.2.2.1.F ht⟩) hW.2.2.1.2.2 (h_dec hC hd)
theorem j_vret (hd : fnd (h_tab M) pc = some (.return_, 1)) (hr : h_ret M = none) (hcs : cells ≤ R.cells) (hss : slots ≤ R.slots) (q : Q (none) h) : J M R Q cells slots h pc ls [] := by
  intro p l e s m args below meth c H locs D α α0 h0 lsA hC hW hll hcl hl
  refine W.widen hcs hss ?_
  exact W.vret (hlocks := hC.2.2.2.2.2.2.1) hC.1 hC.2.1 (hC.2.2.2.2.2.1.trans hr)  (fun t ht hWa => ⟨none, h, α, rfl, q, by rw [ht]; exact hW.1, hW.2.1, hW.2.2.2.1, ⟨hW.2.2.2.2.1, hW.2.2.2.2.2.1⟩, (fun w hw => by cases hw), hW.2.2.1.F ht⟩) hW.2.2.1.2.2 (h_dec hC hd)
theorem j_aret {v : Value} {rt : FieldType} (hd : fnd (h_tab M) pc = some (.areturn, 1)) (hr : h_ret M = some rt) (hrt : (∃ n, rt = .object n) ∨ ∃ t, rt = .array t) (hv : v = .null ∨ ∃ a, v = .ref a) (hcs : cells ≤ R.cells) (hss : slots ≤ R.slots) (q : Q (some v) h) : J M R Q cells slots h pc ls [v] := by
  intro p l e s m args below meth c H locs D α α0 h0 lsA hC hW hll hcl hl
  refine W.widen hcs hss ?_
  exact W.aret (v := h_rv α v) (hlocks := hC.2.2.2.2.2.2.1) hC.1 hC.2.1 (hC.2.2.2.2.2.1.trans hr) hrt (by rcases hv with rfl | ⟨a, rfl⟩; exact Or.inl rfl; exact Or.inr ⟨_, rfl⟩) (fun t ht hWa => ⟨some v, h, α, rfl, q, by rw [ht]; exact hW.1, hW.2.1, hW.2.2.2.1, ⟨hW.2.2.2.2.1, hW.2.2.2.2.2.1⟩, (fun w hw => by cases hw; exact h_cl_hd hcl), hW.2.2.1.F ht⟩) hW.2.2.1.2.2 (h_dec hC hd)
/-- Object.<init> -/
theorem j_objInit {idx key : Nat} (hd : fnd (h_tab M) pc = some (.invokespecial idx, 3)) (hp : pc + 3 = pc') (h1 : Cond.methodLink (h_own M) idx objectInit ∈ lw_tbl) (h2 : Cond.instanceMethod objectInit ∈ lw_tbl) (h3 : Cond.code objectInit ⟨#[0xb1]⟩ 1 none ∈ lw_tbl) (hR : 1 ≤ R.frames ∧ (st.map fun v => v.category).sum + 12 ≤ R.locals) (kk : J M R Q cells slots h pc' ls st) : J M R Q cells slots h pc ls (.ref key :: st) := by
  subst hp
  intro p l e s m args below meth c H locs D α α0 h0 lsA hC hW hll hcl hl
  have hts := hC.2.2.2.2.1
  refine W.objInit hC.1 hC.2.1 hC.2.2.2.1 (hts _ (h_in h1 rfl)) (hts _ (h_in h2 rfl)) (hts _ (h_in h3 rfl)) rfl (by show lsA.size = c.maxLocals; rw [hC.2.2.1]; exact hl.1) (rest := st.map (h_rv α)) rfl (h_dec hC hd) hR.1 ?_ (kk p l e s m args below meth c H locs D α α0 h0 lsA hC hW hll (h_cl_tl hcl) hl)
  have hcat : (st.map (h_rv α)).map (fun v => v.category) = st.map (fun v => v.category) := by rw [List.map_map]; exact List.map_congr_left fun v _ => h_rv_cat α v
  rw [hcat]
  show 2 * 0 + _ + 12 ≤ _
  omega
theorem h_SS.same {D : hG} {u U : State} (hh : U.heap = u.heap) (hv : U.vm = u.vm) (h : h_SS D u) : h_SS D U := by
  obtain ⟨h1, h2, ⟨r1, r2, r3, r4⟩, h4, h5, h6⟩ := h
  have al : u.vm.Alike U.vm := by rw [hv]; exact Vm.Alike.refl _
  unfold h_SS
  rw [hh]
  exact ⟨h1, h2.moved al, ⟨r1.same hv, r2.same hv, r3.same hv, r4.same hv⟩, h4.moved al, h5.imp (fun z => z.moved al) (fun z => z.moved al), va_Nw.same rfl hv.symm h6⟩
theorem h_SS.at {D : hG} {s U : State} {H : Heap} (hW : s.WarmedH U.vm) (hU : U.heap = H) (hz : s.heap.size ≤ H.size) (hq : ∀ a : Nat, a < s.heap.size → ¬ h_B D ≤ a → H[a]? = s.heap[a]?) (h : h_SS D s) : h_SS D U := by
  obtain ⟨h1, h2, ⟨r1, r2, r3, r4⟩, h4, h5, h6⟩ := h
  unfold h_SS
  rw [hU]
  exact ⟨Nat.le_trans h1 hz, (h2.kept hq).moved hW.alike, ⟨r1.warm hW, r2.warm hW, r3.warm hW, r4.warm hW⟩, (h4.kept hq).moved hW.alike, h5.imp (fun z => (z.kept hq).moved hW.alike) (fun z => (z.kept hq).moved hW.alike), va_Nw.warmC hW h6⟩
/-- what the method may change lies above the constants -/
theorem h_Wd.above {D : hG} {α : Nat → Nat} {h : hH} {α0 : Nat → Nat} {h0 : hH} {s : State} {H : Heap} {locs : List Loc} (hW : h_Wd D α h α0 h0 s H locs) (q : Nat) (hq : h_AA α0 h0 s.heap.size q) : h_B D ≤ q := by
  rcases hq with ⟨k, hk, hn, rfl⟩ | hq
  · obtain ⟨e1, e2⟩ := hW.2.2.2.1 k (Or.inl hn)
    rw [← e2]
    exact hW.2.2.2.2.2.1.1 k hk (e1.resolve_right (by omega))
  · exact Nat.le_trans hW.2.2.2.2.2.2 hq
theorem h_blind {D : hG} {α : Nat → Nat} {h : hH} {av : List Value} {sz : Nat} : FrameBlind (va_Pc (av.map (h_rv α)) (fun U => U.heap.size = sz ∧ h_K D U ∧ h_P D α h U.heap ∧ h_D (fun _ => True) α h ∧ h_cH h ∧ h_cl h av ∧ h_up D α h)) := fun a U g mk q => by
  obtain ⟨q0, q1, qK, q2⟩ := q
  exact ⟨q0, q1, ⟨va_K.moved (u := U) (U := U.calling g mk a) (Vm.Alike.refl U.vm) qK.1, fun x hx => va_Nw.same rfl rfl (qK.2.1 x hx), fun x hx => va_AO.moved (u := U) (U := U.calling g mk a) (Vm.Alike.refl U.vm) (qK.2.2.1 x hx), h_SS.same (u := U) (U := U.calling g mk a) rfl rfl qK.2.2.2⟩, q2⟩
theorem h_K.warm {D : hG} {α : Nat → Nat} {h : hH} {α0 : Nat → Nat} {h0 : hH} {s U : State} {H : Heap} {locs : List Loc} (hWd : h_Wd D α h α0 h0 s H locs) (hU : U.heap = H) (hW : s.WarmedH U.vm) (hK : h_K D s) : h_K D U :=
  ⟨va_K.moved hW.alike hK.1, fun x hx => va_Nw.warmM hW (hK.2.1 x hx), fun x hx => va_AO.moved hW.alike (hK.2.2.1 x hx), h_SS.at hW hU hWd.2.2.1.1 (fun a h1 h2 => hWd.2.2.1.2.1 a h1 (fun z => h2 (hWd.above a z))) hK.2.2.2⟩
/-- behind a call -/
theorem j_back {R' : Room} {Q' : Option Value → hH → Prop} {p : Program} {l : Launch} {e : Env} {s : State} {m : MethodId} {args : Array Value} {below : List Frame} {meth : Method} {c : Code} {H : Heap} {locs : List Loc} {D : hG} {α α0 : Nat → Nat} {h0 : hH} {lsA : Array Slot} {st0 : List Value}
    (hC : h_Cx M p s m args meth c D) (hW : h_Wd D α h α0 h0 s H locs) (hll : h_ll h ls) (hcl : h_cl h st) (hl : lv_has lsA (h_nL M) (ls.map (fun q => (q.1, h_rv α q.2)))) {a' : Array Value}
    (hr : va_Run p l e R s m args below meth c H locs cells slots R'.cells R'.slots (F0 m pc lsA st0) (st.map (h_rv α)) (h_QQ D α h Q' a') (h_AA α h H.size))
    (kk : ∀ (v : Option Value) (h' : hH), Q' v h' → J M R Q (cells + R'.cells) (slots + R'.slots) h' (pc + 3) ls (v.toList ++ st)) :
    W p l e R s m args below meth c H locs cells slots (MQ below (h_QQ D α0 h0 Q) args s R.cells R.slots (h_AA α0 h0 s.heap.size)) (F0 m pc lsA st0) := by
  intro T hT X
  obtain ⟨v, st₀, t, T', L, hst, X', hL, e1, e2, ⟨v', h', α', q1, q2, q3, q4, q5, ⟨q6, q6b⟩, q7, q8⟩, go⟩ := hr T hT X
  cases q1
  have hsub : ∀ q : Nat, h_AA α h H.size q → h_AA α0 h0 s.heap.size q := fun q hq => by
    rcases hq with ⟨k, hk, hn, rfl⟩ | hq
    · exact hW.2.1.2 k hk hn
    · exact Or.inr (Nat.le_trans hW.2.2.1.1 hq)
  rw [hst] at q4
  have q8' : H.size ≤ t.heap.size ∧ ∀ q : Nat, q < H.size → ¬ h_AA α h H.size q → t.heap[q]? = H[q]? := by
    have z := q8
    unfold va_F at z
    rw [hst] at z
    exact z
  have hW' : h_Wd D α' h' α0 h0 s t.heap (locs ++ L) := by
    refine ⟨q3, ⟨q4.1, fun k hk hn => hsub _ (q4.2 k hk hn)⟩, ⟨Nat.le_trans hW.2.2.1.1 q8'.1, fun q hq hn => ?_, fun q hq => ?_⟩, fun k hk => ⟨(q5 k (hW.2.2.2.1 k hk).1).1, (q5 k (hW.2.2.2.1 k hk).1).2.trans (hW.2.2.2.1 k hk).2⟩, q6, q6b, hW.2.2.2.2.2.2⟩
    · exact (q8'.2 q (Nat.lt_of_lt_of_le hq hW.2.2.1.1) (fun z => hn (hsub q z))).trans (hW.2.2.1.2.1 q hq hn)
    · rcases List.mem_append.mp hq with z | z
      · exact hW.2.2.1.2.2 q z
      · exact hsub _ (hL q z)
  have hcl' : h_cl h' (v'.toList ++ st) := fun w hw => by
    rcases List.mem_append.mp hw with z | z
    · exact q7 w (by cases v' with | none => cases z | some x => simp at z; rw [z])
    · exact h_cv_mono (fun k hk => (q5 k hk).1) (hcl w z)
  have K := j_ext (l := l) (e := e) (below := below) (kk v' h' q2) hC hW' (fun k hk => (q5 k hk).1) (fun k hk => (q5 k hk).2) hll hcl' hl
  rw [List.map_append, h_map_ext (fun k hk => (q5 k hk).2) hcl] at K
  obtain ⟨t2, a1, b1⟩ := K T' e1 X'
  refine ⟨t2, go t2 ?_, b1⟩
  have hv : (v'.map (h_rv α')).toList = v'.toList.map (h_rv α') := by cases v' <;> rfl
  rw [hv]
  exact a1
theorem h_cats (α : Nat → Nat) (st : List Value) (hW8 : (st.map fun v => v.category).sum ≤ 8) {m : MethodId} {pc : Nat} {lsA : Array Slot} {x : List Value} : 2 * (F0 m pc lsA x).monitorRoom + ((st.map (h_rv α)).map fun v => v.category).sum ≤ 8 := by
  have hcat : (st.map (h_rv α)).map (fun v => v.category) = st.map (fun v => v.category) := by rw [List.map_map]; exact List.map_congr_left fun v _ => h_rv_cat α v
  rw [hcat]
  show 2 * 0 + _ ≤ 8
  omega
theorem h_code {M' : hM} {n : Nat} (I : h_MI M' n) : GoodIn hw_tbl (h_ws M') := fun w hw => by
  rcases List.mem_cons.mp hw with q | q
  · rw [q]; exact ⟨h_in I.1 rfl, good_of_word rfl⟩
  · exact h_good w q
/-- the room of a call -/
def h_rm (R R' : Room) (n cells slots : Nat) : Prop := (R'.frames + 1 ≤ R.frames ∧ 8 + (n + 11) + R'.locals ≤ R.locals) ∧ cells + R'.cells ≤ R.cells ∧ slots + R'.slots ≤ R.slots
theorem h_rm_of {R R' : Room} {n cells slots : Nat} (q : (Nat.ble (R'.frames + 1) R.frames && Nat.ble (8 + (n + 11) + R'.locals) R.locals && Nat.ble (cells + R'.cells) R.cells && Nat.ble (slots + R'.slots) R.slots) = true) : h_rm R R' n cells slots := by
  simp only [Bool.and_eq_true] at q
  exact ⟨⟨Nat.le_of_ble_eq_true q.1.1.1, Nat.le_of_ble_eq_true q.1.1.2⟩, Nat.le_of_ble_eq_true q.1.2, Nat.le_of_ble_eq_true q.2⟩
theorem j_callV {idx ci key n : Nat} {M' : hM} {R' : Room} {As : List Value} {Q' : Option Value → hH → Prop} {fs : List Value} (hd : fnd (h_tab M) pc = some (.invokevirtual idx, 3)) (hp : pc + 3 = pc') (I : h_MI M' n) (L : h_LV (h_own M) idx (h_y M')) (hk : h key = some (.inr (ci, fs))) (hci : (vwCl[ci]?).map (fun q => q.1) = some (h_y M').cls) (hn : As.length = n) (rm : h_rm R R' (h_nL M') cells slots) (hW8 : (st.map fun v => v.category).sum ≤ 8) (S : Sp M' R' (.ref key :: As) h Q')
    (kk : ∀ (v : Option Value) (h' : hH), Q' v h' → J M R Q (cells + R'.cells) (slots + R'.slots) h' pc' ls (v.toList ++ st)) : J M R Q cells slots h pc ls (As.reverse ++ .ref key :: st) := by
  subst hp
  intro p l e s m args below meth c H locs D α α0 h0 lsA hC hW hll hcl hl
  have hts := hC.2.2.2.2.1
  have hst : h_cl h st := fun w hw => hcl w (List.mem_append_right _ (List.mem_cons_of_mem _ hw))
  have hav : h_cl h (.ref key :: As) := fun w hw => by
    rcases List.mem_cons.mp hw with q | q
    · rw [q]; exact hcl _ (List.mem_append_right _ List.mem_cons_self)
    · exact hcl w (List.mem_append_left _ (List.mem_reverse.mpr q))
  obtain ⟨r, hr0, cell, g1, g2, g3, -⟩ := hW.1 key _ hk
  have hrc : r.1 = (h_y M').cls := by rw [hr0] at hci; exact Option.some.inj hci
  have hK := hC.2.2.2.2.2.2.2.2.1
  have cw : CallW R s args (h_own M) (h_y M').cls idx (h_y M') (h_cc M') (h_nL M') (h_ret M') (h_ws M') R' R'.cells R'.slots n := ⟨callB_of n hts (h_code I) rfl rfl rfl (hts _ (h_in L.2.2.2 rfl)) (hts _ (h_in L.1 rfl)) I.2.2.2.1 rm.1, hts _ (h_in L.2.1 rfl), hts _ (h_in L.2.2.1 rfl)⟩
  refine j_back (R' := R') hC hW hll hst hl (va_runV (As := As.map (h_rv α)) (b := α key) (rest := st.map (h_rv α)) (Ts := hw_tbl) ⟨hC.1, hC.2.1, hC.2.2.1, hC.2.2.2.1, hts⟩ (S l D α H.size) cw ⟨h_blind, ⟨cell, g1, by rw [g3]; rfl, by rw [g2, ← hrc]; exact (hK.1.1 ci r hr0).2.1⟩, fun U hU hWU => ⟨rfl, by rw [hU], hK.warm hW hU hWU, by rw [hU]; exact hW.1, ⟨hW.2.1.1, fun _ _ _ => trivial⟩, hW.2.2.2.2.1, hav, hW.2.2.2.2.2.1⟩⟩ rfl (by rw [List.length_map]; exact hn) hl.1 ?_ (h_cats α st hW8) (h_dec hC hd) rm.2) kk
  show (As.reverse ++ .ref key :: st).map (h_rv α) = _
  rw [List.map_append, List.map_reverse]
  rfl
theorem j_callS {idx n : Nat} {M' : hM} {R' : Room} {As : List Value} {Q' : Option Value → hH → Prop} (hd : fnd (h_tab M) pc = some (.invokestatic idx, 3)) (hp : pc + 3 = pc') (I : h_MI M' n) (L : h_LS (h_own M) idx (h_y M')) (hn : As.length = n) (rm : h_rm R R' (h_nL M') cells slots) (hW8 : (st.map fun v => v.category).sum ≤ 8) (S : Sp M' R' As h Q')
    (kk : ∀ (v : Option Value) (h' : hH), Q' v h' → J M R Q (cells + R'.cells) (slots + R'.slots) h' pc' ls (v.toList ++ st)) : J M R Q cells slots h pc ls (As.reverse ++ st) := by
  subst hp
  intro p l e s m args below meth c H locs D α α0 h0 lsA hC hW hll hcl hl
  have hts := hC.2.2.2.2.1
  have hst : h_cl h st := fun w hw => hcl w (List.mem_append_right _ hw)
  have hav : h_cl h As := fun w hw => hcl w (List.mem_append_left _ (List.mem_reverse.mpr hw))
  have hK := hC.2.2.2.2.2.2.2.2.1
  have cw : CallB R s args (h_own M) idx (h_y M') (h_cc M') (h_nL M') (h_ret M') (h_ws M') R' R'.cells R'.slots n ∧ (Cond.static (h_y M')).before args s = true := ⟨callB_of n hts (h_code I) rfl rfl rfl (hts _ (h_in L.2.2 rfl)) (hts _ (h_in L.1 rfl)) I.2.2.2.1 rm.1, hts _ (h_in L.2.1 rfl)⟩
  refine j_back (R' := R') hC hW hll hst hl (va_runS (As := As.map (h_rv α)) (rest := st.map (h_rv α)) (Ts := hw_tbl) ⟨hC.1, hC.2.1, hC.2.2.1, hC.2.2.2.1, hts⟩ (S l D α H.size) cw ⟨h_blind, fun U hU hWU => ⟨rfl, by rw [hU], hK.warm hW hU hWU, by rw [hU]; exact hW.1, ⟨hW.2.1.1, fun _ _ _ => trivial⟩, hW.2.2.2.2.1, hav, hW.2.2.2.2.2.1⟩⟩ rfl (by rw [List.length_map]; exact hn) hl.1 ?_ (h_cats α st hW8) (h_dec hC hd) rm.2) kk
  show (As.reverse ++ st).map (h_rv α) = _
  rw [List.map_append, List.map_reverse]
theorem j_callSN {idx n : Nat} {host : String} {M' : hM} {R' : Room} {As : List Value} {Q' : Option Value → hH → Prop} (hd : fnd (h_tab M) pc = some (.invokestatic idx, 3)) (hp : pc + 3 = pc') (I : h_MI M' n) (L : h_LSN (h_own M) idx (h_y M') host) (hn : As.length = n) (rm : h_rm R R' (h_nL M') cells slots) (hW8 : (st.map fun v => v.category).sum ≤ 8) (S : Sp M' R' As h Q')
    (kk : ∀ (v : Option Value) (h' : hH), Q' v h' → J M R Q (cells + R'.cells) (slots + R'.slots) h' pc' ls (v.toList ++ st)) : J M R Q cells slots h pc ls (As.reverse ++ st) := by
  subst hp
  intro p l e s m args below meth c H locs D α α0 h0 lsA hC hW hll hcl hl
  have hts := hC.2.2.2.2.1
  have hst : h_cl h st := fun w hw => hcl w (List.mem_append_right _ hw)
  have hav : h_cl h As := fun w hw => hcl w (List.mem_append_left _ (List.mem_reverse.mpr hw))
  have hK := hC.2.2.2.2.2.2.2.2.1
  have cw : va_CN R s args (h_own M) idx (h_y M') host (h_cc M') (h_nL M') (h_ret M') (h_ws M') R' R'.cells R'.slots n ∧ (Cond.static (h_y M')).before args s = true ∧ True := ⟨va_cnB n hts (h_code I) rfl rfl rfl (hK.2.1 _ L.1) (hts _ (h_in L.2.2 rfl)) I.2.2.2.1 rm.1, hts _ (h_in L.2.1 rfl), trivial⟩
  refine j_back (R' := R') hC hW hll hst hl (va_runSN (As := As.map (h_rv α)) (rest := st.map (h_rv α)) (Ts := hw_tbl) ⟨hC.1, hC.2.1, hC.2.2.1, hC.2.2.2.1, hts⟩ (S l D α H.size) cw ⟨h_blind, fun U hU hWU => ⟨rfl, by rw [hU], hK.warm hW hU hWU, by rw [hU]; exact hW.1, ⟨hW.2.1.1, fun _ _ _ => trivial⟩, hW.2.2.2.2.1, hav, hW.2.2.2.2.2.1⟩⟩ rfl (by rw [List.length_map]; exact hn) hl.1 ?_ (h_cats α st hW8) (h_dec hC hd) rm.2) kk
  show (As.reverse ++ st).map (h_rv α) = _
  rw [List.map_append, List.map_reverse]
theorem j_callI {idx key n : Nat} {M' : hM} {R' : Room} {As : List Value} {Q' : Option Value → hH → Prop} (hd : fnd (h_tab M) pc = some (.invokespecial idx, 3)) (hp : pc + 3 = pc') (I : h_MI M' n) (hret : h_ret M' = none) (L : h_LI (h_own M) idx (h_y M')) (hn : As.length = n) (rm : h_rm R R' (h_nL M') cells slots) (hW8 : (st.map fun v => v.category).sum ≤ 8) (S : Sp M' R' (.ref key :: As) h Q')
    (kk : ∀ (v : Option Value) (h' : hH), Q' v h' → J M R Q (cells + R'.cells) (slots + R'.slots) h' pc' ls (v.toList ++ st)) : J M R Q cells slots h pc ls (As.reverse ++ .ref key :: st) := by
  subst hp
  intro p l e s m args below meth c H locs D α α0 h0 lsA hC hW hll hcl hl
  have hts := hC.2.2.2.2.1
  have hst : h_cl h st := fun w hw => hcl w (List.mem_append_right _ (List.mem_cons_of_mem _ hw))
  have hav : h_cl h (.ref key :: As) := fun w hw => by
    rcases List.mem_cons.mp hw with q | q
    · rw [q]; exact hcl _ (List.mem_append_right _ List.mem_cons_self)
    · exact hcl w (List.mem_append_left _ (List.mem_reverse.mpr q))
  have hK := hC.2.2.2.2.2.2.2.2.1
  have cw : CallB R s args (h_own M) idx (h_y M') (h_cc M') (h_nL M') none (h_ws M') R' R'.cells R'.slots n ∧ (h_y M').name = "<init>" ∧ (Cond.instanceMethod (h_y M')).before args s = true := ⟨callB_of n hts (h_code I) (by unfold h_ws; rw [hret]) rfl rfl (hts _ (h_in L.2.2.1 rfl)) (hts _ (h_in L.1 rfl)) I.2.2.2.1 rm.1, L.2.2.2, hts _ (h_in L.2.1 rfl)⟩
  refine j_back (R' := R') hC hW hll hst hl (va_runI (As := As.map (h_rv α)) (b := α key) (rest := st.map (h_rv α)) (Ts := hw_tbl) ⟨hC.1, hC.2.1, hC.2.2.1, hC.2.2.2.1, hts⟩ (S l D α H.size) cw ⟨h_blind, fun U hU hWU => ⟨rfl, by rw [hU], hK.warm hW hU hWU, by rw [hU]; exact hW.1, ⟨hW.2.1.1, fun _ _ _ => trivial⟩, hW.2.2.2.2.1, hav, hW.2.2.2.2.2.1⟩⟩ rfl (by rw [List.length_map]; exact hn) hl.1 ?_ (h_cats α st hW8) (h_dec hC hd) rm.2) kk
  show (As.reverse ++ .ref key :: st).map (h_rv α) = _
  rw [List.map_append, List.map_reverse]
  rfl
theorem j_callIN {idx key n : Nat} {host : String} {M' : hM} {R' : Room} {As : List Value} {Q' : Option Value → hH → Prop} (hd : fnd (h_tab M) pc = some (.invokespecial idx, 3)) (hp : pc + 3 = pc') (I : h_MI M' n) (hret : h_ret M' = none) (L : h_LIN (h_own M) idx (h_y M') host) (hn : As.length = n) (rm : h_rm R R' (h_nL M') cells slots) (hW8 : (st.map fun v => v.category).sum ≤ 8) (S : Sp M' R' (.ref key :: As) h Q')
    (kk : ∀ (v : Option Value) (h' : hH), Q' v h' → J M R Q (cells + R'.cells) (slots + R'.slots) h' pc' ls (v.toList ++ st)) : J M R Q cells slots h pc ls (As.reverse ++ .ref key :: st) := by
  subst hp
  intro p l e s m args below meth c H locs D α α0 h0 lsA hC hW hll hcl hl
  have hts := hC.2.2.2.2.1
  have hst : h_cl h st := fun w hw => hcl w (List.mem_append_right _ (List.mem_cons_of_mem _ hw))
  have hav : h_cl h (.ref key :: As) := fun w hw => by
    rcases List.mem_cons.mp hw with q | q
    · rw [q]; exact hcl _ (List.mem_append_right _ List.mem_cons_self)
    · exact hcl w (List.mem_append_left _ (List.mem_reverse.mpr q))
  have hK := hC.2.2.2.2.2.2.2.2.1
  have cw : va_CN R s args (h_own M) idx (h_y M') host (h_cc M') (h_nL M') none (h_ws M') R' R'.cells R'.slots n ∧ (h_y M').name = "<init>" ∧ (Cond.instanceMethod (h_y M')).before args s = true := ⟨va_cnB n hts (h_code I) (by unfold h_ws; rw [hret]) rfl rfl (hK.2.1 _ L.1) (hts _ (h_in L.2.2.1 rfl)) I.2.2.2.1 rm.1, L.2.2.2, hts _ (h_in L.2.1 rfl)⟩
  refine j_back (R' := R') hC hW hll hst hl (va_runIN (As := As.map (h_rv α)) (b := α key) (rest := st.map (h_rv α)) (Ts := hw_tbl) ⟨hC.1, hC.2.1, hC.2.2.1, hC.2.2.2.1, hts⟩ (S l D α H.size) cw ⟨h_blind, fun U hU hWU => ⟨rfl, by rw [hU], hK.warm hW hU hWU, by rw [hU]; exact hW.1, ⟨hW.2.1.1, fun _ _ _ => trivial⟩, hW.2.2.2.2.1, hav, hW.2.2.2.2.2.1⟩⟩ rfl (by rw [List.length_map]; exact hn) hl.1 ?_ (h_cats α st hW8) (h_dec hC hd) rm.2) kk
  show (As.reverse ++ .ref key :: st).map (h_rv α) = _
  rw [List.map_append, List.map_reverse]
  rfl
/-- a contract that says the answer and the heap behind -/
abbrev SpD (M : hM) (R : Room) (av : List Value) (h : hH) (r : Option Value) (h2 : hH) : Prop := Sp M R av h (fun v h' => v = r ∧ h' = h2)
theorem j_v0 {idx ci key : Nat} {M' : hM} {R' : Room} {fs : List Value} {r : Value} {h2 : hH} (hd : fnd (h_tab M) pc = some (.invokevirtual idx, 3)) (hp : pc + 3 = pc') (I : h_MI M' 0) (L : h_LV (h_own M) idx (h_y M')) (hk : h key = some (.inr (ci, fs))) (hci : (vwCl[ci]?).map (fun q => q.1) = some (h_y M').cls) (S : SpD M' R' (.ref key :: []) h (some r) h2) (rm : h_rm R R' (h_nL M') cells slots) (hW8 : (st.map fun v => v.category).sum ≤ 8) {c' s' : Nat} (hc' : cells + R'.cells = c') (hs' : slots + R'.slots = s') (kk : J M R Q c' s' h2 pc' ls (r :: st)) : J M R Q cells slots h pc ls (.ref key :: st) :=
  j_callV (As := []) hd hp I L hk hci rfl rm hW8 S (fun v h' q => by obtain ⟨q1, q2⟩ := q; subst hc'; subst hs'; rw [q1, q2]; exact kk)
theorem j_s0 {idx : Nat} {M' : hM} {R' : Room} {r : Value} {h2 : hH} (hd : fnd (h_tab M) pc = some (.invokestatic idx, 3)) (hp : pc + 3 = pc') (I : h_MI M' 0) (L : h_LS (h_own M) idx (h_y M')) (S : SpD M' R' [] h (some r) h2) (rm : h_rm R R' (h_nL M') cells slots) (hW8 : (st.map fun v => v.category).sum ≤ 8) {c' s' : Nat} (hc' : cells + R'.cells = c') (hs' : slots + R'.slots = s') (kk : J M R Q c' s' h2 pc' ls (r :: st)) : J M R Q cells slots h pc ls (st) :=
  j_callS (As := []) hd hp I L rfl rm hW8 S (fun v h' q => by obtain ⟨q1, q2⟩ := q; subst hc'; subst hs'; rw [q1, q2]; exact kk)
theorem j_vw0 {idx ci key : Nat} {M' : hM} {R' : Room} {fs : List Value} {h2 : hH} (hd : fnd (h_tab M) pc = some (.invokevirtual idx, 3)) (hp : pc + 3 = pc') (I : h_MI M' 0) (L : h_LV (h_own M) idx (h_y M')) (hk : h key = some (.inr (ci, fs))) (hci : (vwCl[ci]?).map (fun q => q.1) = some (h_y M').cls) (S : SpD M' R' (.ref key :: []) h none h2) (rm : h_rm R R' (h_nL M') cells slots) (hW8 : (st.map fun v => v.category).sum ≤ 8) {c' s' : Nat} (hc' : cells + R'.cells = c') (hs' : slots + R'.slots = s') (kk : J M R Q c' s' h2 pc' ls st) : J M R Q cells slots h pc ls (.ref key :: st) :=
  j_callV (As := []) hd hp I L hk hci rfl rm hW8 S (fun v h' q => by obtain ⟨q1, q2⟩ := q; subst hc'; subst hs'; rw [q1, q2]; exact kk)
theorem j_sw0 {idx : Nat} {M' : hM} {R' : Room} {h2 : hH} (hd : fnd (h_tab M) pc = some (.invokestatic idx, 3)) (hp : pc + 3 = pc') (I : h_MI M' 0) (L : h_LS (h_own M) idx (h_y M')) (S : SpD M' R' [] h none h2) (rm : h_rm R R' (h_nL M') cells slots) (hW8 : (st.map fun v => v.category).sum ≤ 8) {c' s' : Nat} (hc' : cells + R'.cells = c') (hs' : slots + R'.slots = s') (kk : J M R Q c' s' h2 pc' ls st) : J M R Q cells slots h pc ls (st) :=
  j_callS (As := []) hd hp I L rfl rm hW8 S (fun v h' q => by obtain ⟨q1, q2⟩ := q; subst hc'; subst hs'; rw [q1, q2]; exact kk)
theorem j_i0 {idx key : Nat} {M' : hM} {R' : Room} {h2 : hH} (hd : fnd (h_tab M) pc = some (.invokespecial idx, 3)) (hp : pc + 3 = pc') (I : h_MI M' 0) (hret : h_ret M' = none) (L : h_LI (h_own M) idx (h_y M')) (S : SpD M' R' (.ref key :: []) h none h2) (rm : h_rm R R' (h_nL M') cells slots) (hW8 : (st.map fun v => v.category).sum ≤ 8) {c' s' : Nat} (hc' : cells + R'.cells = c') (hs' : slots + R'.slots = s') (kk : J M R Q c' s' h2 pc' ls st) : J M R Q cells slots h pc ls (.ref key :: st) :=
  j_callI (As := []) hd hp I hret L rfl rm hW8 S (fun v h' q => by obtain ⟨q1, q2⟩ := q; subst hc'; subst hs'; rw [q1, q2]; exact kk)
theorem j_in0 {idx key : Nat} {host : String} {M' : hM} {R' : Room} {h2 : hH} (hd : fnd (h_tab M) pc = some (.invokespecial idx, 3)) (hp : pc + 3 = pc') (I : h_MI M' 0) (hret : h_ret M' = none) (L : h_LIN (h_own M) idx (h_y M') host) (S : SpD M' R' (.ref key :: []) h none h2) (rm : h_rm R R' (h_nL M') cells slots) (hW8 : (st.map fun v => v.category).sum ≤ 8) {c' s' : Nat} (hc' : cells + R'.cells = c') (hs' : slots + R'.slots = s') (kk : J M R Q c' s' h2 pc' ls st) : J M R Q cells slots h pc ls (.ref key :: st) :=
  j_callIN (As := []) hd hp I hret L rfl rm hW8 S (fun v h' q => by obtain ⟨q1, q2⟩ := q; subst hc'; subst hs'; rw [q1, q2]; exact kk)
theorem j_v1 {idx ci key : Nat} {M' : hM} {R' : Room} {a0 : Value} {fs : List Value} {r : Value} {h2 : hH} (hd : fnd (h_tab M) pc = some (.invokevirtual idx, 3)) (hp : pc + 3 = pc') (I : h_MI M' 1) (L : h_LV (h_own M) idx (h_y M')) (hk : h key = some (.inr (ci, fs))) (hci : (vwCl[ci]?).map (fun q => q.1) = some (h_y M').cls) (S : SpD M' R' (.ref key :: [a0]) h (some r) h2) (rm : h_rm R R' (h_nL M') cells slots) (hW8 : (st.map fun v => v.category).sum ≤ 8) {c' s' : Nat} (hc' : cells + R'.cells = c') (hs' : slots + R'.slots = s') (kk : J M R Q c' s' h2 pc' ls (r :: st)) : J M R Q cells slots h pc ls (a0 :: .ref key :: st) :=
  j_callV (As := [a0]) hd hp I L hk hci rfl rm hW8 S (fun v h' q => by obtain ⟨q1, q2⟩ := q; subst hc'; subst hs'; rw [q1, q2]; exact kk)
theorem j_s1 {idx : Nat} {M' : hM} {R' : Room} {a0 : Value} {r : Value} {h2 : hH} (hd : fnd (h_tab M) pc = some (.invokestatic idx, 3)) (hp : pc + 3 = pc') (I : h_MI M' 1) (L : h_LS (h_own M) idx (h_y M')) (S : SpD M' R' [a0] h (some r) h2) (rm : h_rm R R' (h_nL M') cells slots) (hW8 : (st.map fun v => v.category).sum ≤ 8) {c' s' : Nat} (hc' : cells + R'.cells = c') (hs' : slots + R'.slots = s') (kk : J M R Q c' s' h2 pc' ls (r :: st)) : J M R Q cells slots h pc ls (a0 :: st) :=
  j_callS (As := [a0]) hd hp I L rfl rm hW8 S (fun v h' q => by obtain ⟨q1, q2⟩ := q; subst hc'; subst hs'; rw [q1, q2]; exact kk)
theorem j_sn1 {idx : Nat} {host : String} {M' : hM} {R' : Room} {a0 : Value} {r : Value} {h2 : hH} (hd : fnd (h_tab M) pc = some (.invokestatic idx, 3)) (hp : pc + 3 = pc') (I : h_MI M' 1) (L : h_LSN (h_own M) idx (h_y M') host) (S : SpD M' R' [a0] h (some r) h2) (rm : h_rm R R' (h_nL M') cells slots) (hW8 : (st.map fun v => v.category).sum ≤ 8) {c' s' : Nat} (hc' : cells + R'.cells = c') (hs' : slots + R'.slots = s') (kk : J M R Q c' s' h2 pc' ls (r :: st)) : J M R Q cells slots h pc ls (a0 :: st) :=
  j_callSN (As := [a0]) hd hp I L rfl rm hW8 S (fun v h' q => by obtain ⟨q1, q2⟩ := q; subst hc'; subst hs'; rw [q1, q2]; exact kk)
theorem j_vw1 {idx ci key : Nat} {M' : hM} {R' : Room} {a0 : Value} {fs : List Value} {h2 : hH} (hd : fnd (h_tab M) pc = some (.invokevirtual idx, 3)) (hp : pc + 3 = pc') (I : h_MI M' 1) (L : h_LV (h_own M) idx (h_y M')) (hk : h key = some (.inr (ci, fs))) (hci : (vwCl[ci]?).map (fun q => q.1) = some (h_y M').cls) (S : SpD M' R' (.ref key :: [a0]) h none h2) (rm : h_rm R R' (h_nL M') cells slots) (hW8 : (st.map fun v => v.category).sum ≤ 8) {c' s' : Nat} (hc' : cells + R'.cells = c') (hs' : slots + R'.slots = s') (kk : J M R Q c' s' h2 pc' ls st) : J M R Q cells slots h pc ls (a0 :: .ref key :: st) :=
  j_callV (As := [a0]) hd hp I L hk hci rfl rm hW8 S (fun v h' q => by obtain ⟨q1, q2⟩ := q; subst hc'; subst hs'; rw [q1, q2]; exact kk)
theorem j_sw1 {idx : Nat} {M' : hM} {R' : Room} {a0 : Value} {h2 : hH} (hd : fnd (h_tab M) pc = some (.invokestatic idx, 3)) (hp : pc + 3 = pc') (I : h_MI M' 1) (L : h_LS (h_own M) idx (h_y M')) (S : SpD M' R' [a0] h none h2) (rm : h_rm R R' (h_nL M') cells slots) (hW8 : (st.map fun v => v.category).sum ≤ 8) {c' s' : Nat} (hc' : cells + R'.cells = c') (hs' : slots + R'.slots = s') (kk : J M R Q c' s' h2 pc' ls st) : J M R Q cells slots h pc ls (a0 :: st) :=
  j_callS (As := [a0]) hd hp I L rfl rm hW8 S (fun v h' q => by obtain ⟨q1, q2⟩ := q; subst hc'; subst hs'; rw [q1, q2]; exact kk)
theorem j_i1 {idx key : Nat} {M' : hM} {R' : Room} {a0 : Value} {h2 : hH} (hd : fnd (h_tab M) pc = some (.invokespecial idx, 3)) (hp : pc + 3 = pc') (I : h_MI M' 1) (hret : h_ret M' = none) (L : h_LI (h_own M) idx (h_y M')) (S : SpD M' R' (.ref key :: [a0]) h none h2) (rm : h_rm R R' (h_nL M') cells slots) (hW8 : (st.map fun v => v.category).sum ≤ 8) {c' s' : Nat} (hc' : cells + R'.cells = c') (hs' : slots + R'.slots = s') (kk : J M R Q c' s' h2 pc' ls st) : J M R Q cells slots h pc ls (a0 :: .ref key :: st) :=
  j_callI (As := [a0]) hd hp I hret L rfl rm hW8 S (fun v h' q => by obtain ⟨q1, q2⟩ := q; subst hc'; subst hs'; rw [q1, q2]; exact kk)
theorem j_v2 {idx ci key : Nat} {M' : hM} {R' : Room} {a0 a1 : Value} {fs : List Value} {r : Value} {h2 : hH} (hd : fnd (h_tab M) pc = some (.invokevirtual idx, 3)) (hp : pc + 3 = pc') (I : h_MI M' 2) (L : h_LV (h_own M) idx (h_y M')) (hk : h key = some (.inr (ci, fs))) (hci : (vwCl[ci]?).map (fun q => q.1) = some (h_y M').cls) (S : SpD M' R' (.ref key :: [a0, a1]) h (some r) h2) (rm : h_rm R R' (h_nL M') cells slots) (hW8 : (st.map fun v => v.category).sum ≤ 8) {c' s' : Nat} (hc' : cells + R'.cells = c') (hs' : slots + R'.slots = s') (kk : J M R Q c' s' h2 pc' ls (r :: st)) : J M R Q cells slots h pc ls (a1 :: a0 :: .ref key :: st) :=
  j_callV (As := [a0, a1]) hd hp I L hk hci rfl rm hW8 S (fun v h' q => by obtain ⟨q1, q2⟩ := q; subst hc'; subst hs'; rw [q1, q2]; exact kk)
theorem j_s2 {idx : Nat} {M' : hM} {R' : Room} {a0 a1 : Value} {r : Value} {h2 : hH} (hd : fnd (h_tab M) pc = some (.invokestatic idx, 3)) (hp : pc + 3 = pc') (I : h_MI M' 2) (L : h_LS (h_own M) idx (h_y M')) (S : SpD M' R' [a0, a1] h (some r) h2) (rm : h_rm R R' (h_nL M') cells slots) (hW8 : (st.map fun v => v.category).sum ≤ 8) {c' s' : Nat} (hc' : cells + R'.cells = c') (hs' : slots + R'.slots = s') (kk : J M R Q c' s' h2 pc' ls (r :: st)) : J M R Q cells slots h pc ls (a1 :: a0 :: st) :=
  j_callS (As := [a0, a1]) hd hp I L rfl rm hW8 S (fun v h' q => by obtain ⟨q1, q2⟩ := q; subst hc'; subst hs'; rw [q1, q2]; exact kk)
theorem j_vw2 {idx ci key : Nat} {M' : hM} {R' : Room} {a0 a1 : Value} {fs : List Value} {h2 : hH} (hd : fnd (h_tab M) pc = some (.invokevirtual idx, 3)) (hp : pc + 3 = pc') (I : h_MI M' 2) (L : h_LV (h_own M) idx (h_y M')) (hk : h key = some (.inr (ci, fs))) (hci : (vwCl[ci]?).map (fun q => q.1) = some (h_y M').cls) (S : SpD M' R' (.ref key :: [a0, a1]) h none h2) (rm : h_rm R R' (h_nL M') cells slots) (hW8 : (st.map fun v => v.category).sum ≤ 8) {c' s' : Nat} (hc' : cells + R'.cells = c') (hs' : slots + R'.slots = s') (kk : J M R Q c' s' h2 pc' ls st) : J M R Q cells slots h pc ls (a1 :: a0 :: .ref key :: st) :=
  j_callV (As := [a0, a1]) hd hp I L hk hci rfl rm hW8 S (fun v h' q => by obtain ⟨q1, q2⟩ := q; subst hc'; subst hs'; rw [q1, q2]; exact kk)
theorem j_sw2 {idx : Nat} {M' : hM} {R' : Room} {a0 a1 : Value} {h2 : hH} (hd : fnd (h_tab M) pc = some (.invokestatic idx, 3)) (hp : pc + 3 = pc') (I : h_MI M' 2) (L : h_LS (h_own M) idx (h_y M')) (S : SpD M' R' [a0, a1] h none h2) (rm : h_rm R R' (h_nL M') cells slots) (hW8 : (st.map fun v => v.category).sum ≤ 8) {c' s' : Nat} (hc' : cells + R'.cells = c') (hs' : slots + R'.slots = s') (kk : J M R Q c' s' h2 pc' ls st) : J M R Q cells slots h pc ls (a1 :: a0 :: st) :=
  j_callS (As := [a0, a1]) hd hp I L rfl rm hW8 S (fun v h' q => by obtain ⟨q1, q2⟩ := q; subst hc'; subst hs'; rw [q1, q2]; exact kk)
theorem j_i2 {idx key : Nat} {M' : hM} {R' : Room} {a0 a1 : Value} {h2 : hH} (hd : fnd (h_tab M) pc = some (.invokespecial idx, 3)) (hp : pc + 3 = pc') (I : h_MI M' 2) (hret : h_ret M' = none) (L : h_LI (h_own M) idx (h_y M')) (S : SpD M' R' (.ref key :: [a0, a1]) h none h2) (rm : h_rm R R' (h_nL M') cells slots) (hW8 : (st.map fun v => v.category).sum ≤ 8) {c' s' : Nat} (hc' : cells + R'.cells = c') (hs' : slots + R'.slots = s') (kk : J M R Q c' s' h2 pc' ls st) : J M R Q cells slots h pc ls (a1 :: a0 :: .ref key :: st) :=
  j_callI (As := [a0, a1]) hd hp I hret L rfl rm hW8 S (fun v h' q => by obtain ⟨q1, q2⟩ := q; subst hc'; subst hs'; rw [q1, q2]; exact kk)
theorem j_v3 {idx ci key : Nat} {M' : hM} {R' : Room} {a0 a1 a2 : Value} {fs : List Value} {r : Value} {h2 : hH} (hd : fnd (h_tab M) pc = some (.invokevirtual idx, 3)) (hp : pc + 3 = pc') (I : h_MI M' 3) (L : h_LV (h_own M) idx (h_y M')) (hk : h key = some (.inr (ci, fs))) (hci : (vwCl[ci]?).map (fun q => q.1) = some (h_y M').cls) (S : SpD M' R' (.ref key :: [a0, a1, a2]) h (some r) h2) (rm : h_rm R R' (h_nL M') cells slots) (hW8 : (st.map fun v => v.category).sum ≤ 8) {c' s' : Nat} (hc' : cells + R'.cells = c') (hs' : slots + R'.slots = s') (kk : J M R Q c' s' h2 pc' ls (r :: st)) : J M R Q cells slots h pc ls (a2 :: a1 :: a0 :: .ref key :: st) :=
  j_callV (As := [a0, a1, a2]) hd hp I L hk hci rfl rm hW8 S (fun v h' q => by obtain ⟨q1, q2⟩ := q; subst hc'; subst hs'; rw [q1, q2]; exact kk)
theorem j_s3 {idx : Nat} {M' : hM} {R' : Room} {a0 a1 a2 : Value} {r : Value} {h2 : hH} (hd : fnd (h_tab M) pc = some (.invokestatic idx, 3)) (hp : pc + 3 = pc') (I : h_MI M' 3) (L : h_LS (h_own M) idx (h_y M')) (S : SpD M' R' [a0, a1, a2] h (some r) h2) (rm : h_rm R R' (h_nL M') cells slots) (hW8 : (st.map fun v => v.category).sum ≤ 8) {c' s' : Nat} (hc' : cells + R'.cells = c') (hs' : slots + R'.slots = s') (kk : J M R Q c' s' h2 pc' ls (r :: st)) : J M R Q cells slots h pc ls (a2 :: a1 :: a0 :: st) :=
  j_callS (As := [a0, a1, a2]) hd hp I L rfl rm hW8 S (fun v h' q => by obtain ⟨q1, q2⟩ := q; subst hc'; subst hs'; rw [q1, q2]; exact kk)
theorem j_sn3 {idx : Nat} {host : String} {M' : hM} {R' : Room} {a0 a1 a2 : Value} {r : Value} {h2 : hH} (hd : fnd (h_tab M) pc = some (.invokestatic idx, 3)) (hp : pc + 3 = pc') (I : h_MI M' 3) (L : h_LSN (h_own M) idx (h_y M') host) (S : SpD M' R' [a0, a1, a2] h (some r) h2) (rm : h_rm R R' (h_nL M') cells slots) (hW8 : (st.map fun v => v.category).sum ≤ 8) {c' s' : Nat} (hc' : cells + R'.cells = c') (hs' : slots + R'.slots = s') (kk : J M R Q c' s' h2 pc' ls (r :: st)) : J M R Q cells slots h pc ls (a2 :: a1 :: a0 :: st) :=
  j_callSN (As := [a0, a1, a2]) hd hp I L rfl rm hW8 S (fun v h' q => by obtain ⟨q1, q2⟩ := q; subst hc'; subst hs'; rw [q1, q2]; exact kk)
theorem j_vw3 {idx ci key : Nat} {M' : hM} {R' : Room} {a0 a1 a2 : Value} {fs : List Value} {h2 : hH} (hd : fnd (h_tab M) pc = some (.invokevirtual idx, 3)) (hp : pc + 3 = pc') (I : h_MI M' 3) (L : h_LV (h_own M) idx (h_y M')) (hk : h key = some (.inr (ci, fs))) (hci : (vwCl[ci]?).map (fun q => q.1) = some (h_y M').cls) (S : SpD M' R' (.ref key :: [a0, a1, a2]) h none h2) (rm : h_rm R R' (h_nL M') cells slots) (hW8 : (st.map fun v => v.category).sum ≤ 8) {c' s' : Nat} (hc' : cells + R'.cells = c') (hs' : slots + R'.slots = s') (kk : J M R Q c' s' h2 pc' ls st) : J M R Q cells slots h pc ls (a2 :: a1 :: a0 :: .ref key :: st) :=
  j_callV (As := [a0, a1, a2]) hd hp I L hk hci rfl rm hW8 S (fun v h' q => by obtain ⟨q1, q2⟩ := q; subst hc'; subst hs'; rw [q1, q2]; exact kk)
theorem j_sw3 {idx : Nat} {M' : hM} {R' : Room} {a0 a1 a2 : Value} {h2 : hH} (hd : fnd (h_tab M) pc = some (.invokestatic idx, 3)) (hp : pc + 3 = pc') (I : h_MI M' 3) (L : h_LS (h_own M) idx (h_y M')) (S : SpD M' R' [a0, a1, a2] h none h2) (rm : h_rm R R' (h_nL M') cells slots) (hW8 : (st.map fun v => v.category).sum ≤ 8) {c' s' : Nat} (hc' : cells + R'.cells = c') (hs' : slots + R'.slots = s') (kk : J M R Q c' s' h2 pc' ls st) : J M R Q cells slots h pc ls (a2 :: a1 :: a0 :: st) :=
  j_callS (As := [a0, a1, a2]) hd hp I L rfl rm hW8 S (fun v h' q => by obtain ⟨q1, q2⟩ := q; subst hc'; subst hs'; rw [q1, q2]; exact kk)
theorem j_i3 {idx key : Nat} {M' : hM} {R' : Room} {a0 a1 a2 : Value} {h2 : hH} (hd : fnd (h_tab M) pc = some (.invokespecial idx, 3)) (hp : pc + 3 = pc') (I : h_MI M' 3) (hret : h_ret M' = none) (L : h_LI (h_own M) idx (h_y M')) (S : SpD M' R' (.ref key :: [a0, a1, a2]) h none h2) (rm : h_rm R R' (h_nL M') cells slots) (hW8 : (st.map fun v => v.category).sum ≤ 8) {c' s' : Nat} (hc' : cells + R'.cells = c') (hs' : slots + R'.slots = s') (kk : J M R Q c' s' h2 pc' ls st) : J M R Q cells slots h pc ls (a2 :: a1 :: a0 :: .ref key :: st) :=
  j_callI (As := [a0, a1, a2]) hd hp I hret L rfl rm hW8 S (fun v h' q => by obtain ⟨q1, q2⟩ := q; subst hc'; subst hs'; rw [q1, q2]; exact kk)
theorem j_v4 {idx ci key : Nat} {M' : hM} {R' : Room} {a0 a1 a2 a3 : Value} {fs : List Value} {r : Value} {h2 : hH} (hd : fnd (h_tab M) pc = some (.invokevirtual idx, 3)) (hp : pc + 3 = pc') (I : h_MI M' 4) (L : h_LV (h_own M) idx (h_y M')) (hk : h key = some (.inr (ci, fs))) (hci : (vwCl[ci]?).map (fun q => q.1) = some (h_y M').cls) (S : SpD M' R' (.ref key :: [a0, a1, a2, a3]) h (some r) h2) (rm : h_rm R R' (h_nL M') cells slots) (hW8 : (st.map fun v => v.category).sum ≤ 8) {c' s' : Nat} (hc' : cells + R'.cells = c') (hs' : slots + R'.slots = s') (kk : J M R Q c' s' h2 pc' ls (r :: st)) : J M R Q cells slots h pc ls (a3 :: a2 :: a1 :: a0 :: .ref key :: st) :=
  j_callV (As := [a0, a1, a2, a3]) hd hp I L hk hci rfl rm hW8 S (fun v h' q => by obtain ⟨q1, q2⟩ := q; subst hc'; subst hs'; rw [q1, q2]; exact kk)
theorem j_s4 {idx : Nat} {M' : hM} {R' : Room} {a0 a1 a2 a3 : Value} {r : Value} {h2 : hH} (hd : fnd (h_tab M) pc = some (.invokestatic idx, 3)) (hp : pc + 3 = pc') (I : h_MI M' 4) (L : h_LS (h_own M) idx (h_y M')) (S : SpD M' R' [a0, a1, a2, a3] h (some r) h2) (rm : h_rm R R' (h_nL M') cells slots) (hW8 : (st.map fun v => v.category).sum ≤ 8) {c' s' : Nat} (hc' : cells + R'.cells = c') (hs' : slots + R'.slots = s') (kk : J M R Q c' s' h2 pc' ls (r :: st)) : J M R Q cells slots h pc ls (a3 :: a2 :: a1 :: a0 :: st) :=
  j_callS (As := [a0, a1, a2, a3]) hd hp I L rfl rm hW8 S (fun v h' q => by obtain ⟨q1, q2⟩ := q; subst hc'; subst hs'; rw [q1, q2]; exact kk)
theorem j_vw4 {idx ci key : Nat} {M' : hM} {R' : Room} {a0 a1 a2 a3 : Value} {fs : List Value} {h2 : hH} (hd : fnd (h_tab M) pc = some (.invokevirtual idx, 3)) (hp : pc + 3 = pc') (I : h_MI M' 4) (L : h_LV (h_own M) idx (h_y M')) (hk : h key = some (.inr (ci, fs))) (hci : (vwCl[ci]?).map (fun q => q.1) = some (h_y M').cls) (S : SpD M' R' (.ref key :: [a0, a1, a2, a3]) h none h2) (rm : h_rm R R' (h_nL M') cells slots) (hW8 : (st.map fun v => v.category).sum ≤ 8) {c' s' : Nat} (hc' : cells + R'.cells = c') (hs' : slots + R'.slots = s') (kk : J M R Q c' s' h2 pc' ls st) : J M R Q cells slots h pc ls (a3 :: a2 :: a1 :: a0 :: .ref key :: st) :=
  j_callV (As := [a0, a1, a2, a3]) hd hp I L hk hci rfl rm hW8 S (fun v h' q => by obtain ⟨q1, q2⟩ := q; subst hc'; subst hs'; rw [q1, q2]; exact kk)
theorem j_sw4 {idx : Nat} {M' : hM} {R' : Room} {a0 a1 a2 a3 : Value} {h2 : hH} (hd : fnd (h_tab M) pc = some (.invokestatic idx, 3)) (hp : pc + 3 = pc') (I : h_MI M' 4) (L : h_LS (h_own M) idx (h_y M')) (S : SpD M' R' [a0, a1, a2, a3] h none h2) (rm : h_rm R R' (h_nL M') cells slots) (hW8 : (st.map fun v => v.category).sum ≤ 8) {c' s' : Nat} (hc' : cells + R'.cells = c') (hs' : slots + R'.slots = s') (kk : J M R Q c' s' h2 pc' ls st) : J M R Q cells slots h pc ls (a3 :: a2 :: a1 :: a0 :: st) :=
  j_callS (As := [a0, a1, a2, a3]) hd hp I L rfl rm hW8 S (fun v h' q => by obtain ⟨q1, q2⟩ := q; subst hc'; subst hs'; rw [q1, q2]; exact kk)
theorem j_i4 {idx key : Nat} {M' : hM} {R' : Room} {a0 a1 a2 a3 : Value} {h2 : hH} (hd : fnd (h_tab M) pc = some (.invokespecial idx, 3)) (hp : pc + 3 = pc') (I : h_MI M' 4) (hret : h_ret M' = none) (L : h_LI (h_own M) idx (h_y M')) (S : SpD M' R' (.ref key :: [a0, a1, a2, a3]) h none h2) (rm : h_rm R R' (h_nL M') cells slots) (hW8 : (st.map fun v => v.category).sum ≤ 8) {c' s' : Nat} (hc' : cells + R'.cells = c') (hs' : slots + R'.slots = s') (kk : J M R Q c' s' h2 pc' ls st) : J M R Q cells slots h pc ls (a3 :: a2 :: a1 :: a0 :: .ref key :: st) :=
  j_callI (As := [a0, a1, a2, a3]) hd hp I hret L rfl rm hW8 S (fun v h' q => by obtain ⟨q1, q2⟩ := q; subst hc'; subst hs'; rw [q1, q2]; exact kk)
theorem j_v5 {idx ci key : Nat} {M' : hM} {R' : Room} {a0 a1 a2 a3 a4 : Value} {fs : List Value} {r : Value} {h2 : hH} (hd : fnd (h_tab M) pc = some (.invokevirtual idx, 3)) (hp : pc + 3 = pc') (I : h_MI M' 5) (L : h_LV (h_own M) idx (h_y M')) (hk : h key = some (.inr (ci, fs))) (hci : (vwCl[ci]?).map (fun q => q.1) = some (h_y M').cls) (S : SpD M' R' (.ref key :: [a0, a1, a2, a3, a4]) h (some r) h2) (rm : h_rm R R' (h_nL M') cells slots) (hW8 : (st.map fun v => v.category).sum ≤ 8) {c' s' : Nat} (hc' : cells + R'.cells = c') (hs' : slots + R'.slots = s') (kk : J M R Q c' s' h2 pc' ls (r :: st)) : J M R Q cells slots h pc ls (a4 :: a3 :: a2 :: a1 :: a0 :: .ref key :: st) :=
  j_callV (As := [a0, a1, a2, a3, a4]) hd hp I L hk hci rfl rm hW8 S (fun v h' q => by obtain ⟨q1, q2⟩ := q; subst hc'; subst hs'; rw [q1, q2]; exact kk)
theorem j_s5 {idx : Nat} {M' : hM} {R' : Room} {a0 a1 a2 a3 a4 : Value} {r : Value} {h2 : hH} (hd : fnd (h_tab M) pc = some (.invokestatic idx, 3)) (hp : pc + 3 = pc') (I : h_MI M' 5) (L : h_LS (h_own M) idx (h_y M')) (S : SpD M' R' [a0, a1, a2, a3, a4] h (some r) h2) (rm : h_rm R R' (h_nL M') cells slots) (hW8 : (st.map fun v => v.category).sum ≤ 8) {c' s' : Nat} (hc' : cells + R'.cells = c') (hs' : slots + R'.slots = s') (kk : J M R Q c' s' h2 pc' ls (r :: st)) : J M R Q cells slots h pc ls (a4 :: a3 :: a2 :: a1 :: a0 :: st) :=
  j_callS (As := [a0, a1, a2, a3, a4]) hd hp I L rfl rm hW8 S (fun v h' q => by obtain ⟨q1, q2⟩ := q; subst hc'; subst hs'; rw [q1, q2]; exact kk)
theorem j_vw5 {idx ci key : Nat} {M' : hM} {R' : Room} {a0 a1 a2 a3 a4 : Value} {fs : List Value} {h2 : hH} (hd : fnd (h_tab M) pc = some (.invokevirtual idx, 3)) (hp : pc + 3 = pc') (I : h_MI M' 5) (L : h_LV (h_own M) idx (h_y M')) (hk : h key = some (.inr (ci, fs))) (hci : (vwCl[ci]?).map (fun q => q.1) = some (h_y M').cls) (S : SpD M' R' (.ref key :: [a0, a1, a2, a3, a4]) h none h2) (rm : h_rm R R' (h_nL M') cells slots) (hW8 : (st.map fun v => v.category).sum ≤ 8) {c' s' : Nat} (hc' : cells + R'.cells = c') (hs' : slots + R'.slots = s') (kk : J M R Q c' s' h2 pc' ls st) : J M R Q cells slots h pc ls (a4 :: a3 :: a2 :: a1 :: a0 :: .ref key :: st) :=
  j_callV (As := [a0, a1, a2, a3, a4]) hd hp I L hk hci rfl rm hW8 S (fun v h' q => by obtain ⟨q1, q2⟩ := q; subst hc'; subst hs'; rw [q1, q2]; exact kk)
theorem j_sw5 {idx : Nat} {M' : hM} {R' : Room} {a0 a1 a2 a3 a4 : Value} {h2 : hH} (hd : fnd (h_tab M) pc = some (.invokestatic idx, 3)) (hp : pc + 3 = pc') (I : h_MI M' 5) (L : h_LS (h_own M) idx (h_y M')) (S : SpD M' R' [a0, a1, a2, a3, a4] h none h2) (rm : h_rm R R' (h_nL M') cells slots) (hW8 : (st.map fun v => v.category).sum ≤ 8) {c' s' : Nat} (hc' : cells + R'.cells = c') (hs' : slots + R'.slots = s') (kk : J M R Q c' s' h2 pc' ls st) : J M R Q cells slots h pc ls (a4 :: a3 :: a2 :: a1 :: a0 :: st) :=
  j_callS (As := [a0, a1, a2, a3, a4]) hd hp I L rfl rm hW8 S (fun v h' q => by obtain ⟨q1, q2⟩ := q; subst hc'; subst hs'; rw [q1, q2]; exact kk)
theorem j_i5 {idx key : Nat} {M' : hM} {R' : Room} {a0 a1 a2 a3 a4 : Value} {h2 : hH} (hd : fnd (h_tab M) pc = some (.invokespecial idx, 3)) (hp : pc + 3 = pc') (I : h_MI M' 5) (hret : h_ret M' = none) (L : h_LI (h_own M) idx (h_y M')) (S : SpD M' R' (.ref key :: [a0, a1, a2, a3, a4]) h none h2) (rm : h_rm R R' (h_nL M') cells slots) (hW8 : (st.map fun v => v.category).sum ≤ 8) {c' s' : Nat} (hc' : cells + R'.cells = c') (hs' : slots + R'.slots = s') (kk : J M R Q c' s' h2 pc' ls st) : J M R Q cells slots h pc ls (a4 :: a3 :: a2 :: a1 :: a0 :: .ref key :: st) :=
  j_callI (As := [a0, a1, a2, a3, a4]) hd hp I hret L rfl rm hW8 S (fun v h' q => by obtain ⟨q1, q2⟩ := q; subst hc'; subst hs'; rw [q1, q2]; exact kk)
theorem j_v6 {idx ci key : Nat} {M' : hM} {R' : Room} {a0 a1 a2 a3 a4 a5 : Value} {fs : List Value} {r : Value} {h2 : hH} (hd : fnd (h_tab M) pc = some (.invokevirtual idx, 3)) (hp : pc + 3 = pc') (I : h_MI M' 6) (L : h_LV (h_own M) idx (h_y M')) (hk : h key = some (.inr (ci, fs))) (hci : (vwCl[ci]?).map (fun q => q.1) = some (h_y M').cls) (S : SpD M' R' (.ref key :: [a0, a1, a2, a3, a4, a5]) h (some r) h2) (rm : h_rm R R' (h_nL M') cells slots) (hW8 : (st.map fun v => v.category).sum ≤ 8) {c' s' : Nat} (hc' : cells + R'.cells = c') (hs' : slots + R'.slots = s') (kk : J M R Q c' s' h2 pc' ls (r :: st)) : J M R Q cells slots h pc ls (a5 :: a4 :: a3 :: a2 :: a1 :: a0 :: .ref key :: st) :=
  j_callV (As := [a0, a1, a2, a3, a4, a5]) hd hp I L hk hci rfl rm hW8 S (fun v h' q => by obtain ⟨q1, q2⟩ := q; subst hc'; subst hs'; rw [q1, q2]; exact kk)
theorem j_s6 {idx : Nat} {M' : hM} {R' : Room} {a0 a1 a2 a3 a4 a5 : Value} {r : Value} {h2 : hH} (hd : fnd (h_tab M) pc = some (.invokestatic idx, 3)) (hp : pc + 3 = pc') (I : h_MI M' 6) (L : h_LS (h_own M) idx (h_y M')) (S : SpD M' R' [a0, a1, a2, a3, a4, a5] h (some r) h2) (rm : h_rm R R' (h_nL M') cells slots) (hW8 : (st.map fun v => v.category).sum ≤ 8) {c' s' : Nat} (hc' : cells + R'.cells = c') (hs' : slots + R'.slots = s') (kk : J M R Q c' s' h2 pc' ls (r :: st)) : J M R Q cells slots h pc ls (a5 :: a4 :: a3 :: a2 :: a1 :: a0 :: st) :=
  j_callS (As := [a0, a1, a2, a3, a4, a5]) hd hp I L rfl rm hW8 S (fun v h' q => by obtain ⟨q1, q2⟩ := q; subst hc'; subst hs'; rw [q1, q2]; exact kk)
theorem j_vw6 {idx ci key : Nat} {M' : hM} {R' : Room} {a0 a1 a2 a3 a4 a5 : Value} {fs : List Value} {h2 : hH} (hd : fnd (h_tab M) pc = some (.invokevirtual idx, 3)) (hp : pc + 3 = pc') (I : h_MI M' 6) (L : h_LV (h_own M) idx (h_y M')) (hk : h key = some (.inr (ci, fs))) (hci : (vwCl[ci]?).map (fun q => q.1) = some (h_y M').cls) (S : SpD M' R' (.ref key :: [a0, a1, a2, a3, a4, a5]) h none h2) (rm : h_rm R R' (h_nL M') cells slots) (hW8 : (st.map fun v => v.category).sum ≤ 8) {c' s' : Nat} (hc' : cells + R'.cells = c') (hs' : slots + R'.slots = s') (kk : J M R Q c' s' h2 pc' ls st) : J M R Q cells slots h pc ls (a5 :: a4 :: a3 :: a2 :: a1 :: a0 :: .ref key :: st) :=
  j_callV (As := [a0, a1, a2, a3, a4, a5]) hd hp I L hk hci rfl rm hW8 S (fun v h' q => by obtain ⟨q1, q2⟩ := q; subst hc'; subst hs'; rw [q1, q2]; exact kk)
theorem j_sw6 {idx : Nat} {M' : hM} {R' : Room} {a0 a1 a2 a3 a4 a5 : Value} {h2 : hH} (hd : fnd (h_tab M) pc = some (.invokestatic idx, 3)) (hp : pc + 3 = pc') (I : h_MI M' 6) (L : h_LS (h_own M) idx (h_y M')) (S : SpD M' R' [a0, a1, a2, a3, a4, a5] h none h2) (rm : h_rm R R' (h_nL M') cells slots) (hW8 : (st.map fun v => v.category).sum ≤ 8) {c' s' : Nat} (hc' : cells + R'.cells = c') (hs' : slots + R'.slots = s') (kk : J M R Q c' s' h2 pc' ls st) : J M R Q cells slots h pc ls (a5 :: a4 :: a3 :: a2 :: a1 :: a0 :: st) :=
  j_callS (As := [a0, a1, a2, a3, a4, a5]) hd hp I L rfl rm hW8 S (fun v h' q => by obtain ⟨q1, q2⟩ := q; subst hc'; subst hs'; rw [q1, q2]; exact kk)
theorem j_i6 {idx key : Nat} {M' : hM} {R' : Room} {a0 a1 a2 a3 a4 a5 : Value} {h2 : hH} (hd : fnd (h_tab M) pc = some (.invokespecial idx, 3)) (hp : pc + 3 = pc') (I : h_MI M' 6) (hret : h_ret M' = none) (L : h_LI (h_own M) idx (h_y M')) (S : SpD M' R' (.ref key :: [a0, a1, a2, a3, a4, a5]) h none h2) (rm : h_rm R R' (h_nL M') cells slots) (hW8 : (st.map fun v => v.category).sum ≤ 8) {c' s' : Nat} (hc' : cells + R'.cells = c') (hs' : slots + R'.slots = s') (kk : J M R Q c' s' h2 pc' ls st) : J M R Q cells slots h pc ls (a5 :: a4 :: a3 :: a2 :: a1 :: a0 :: .ref key :: st) :=
  j_callI (As := [a0, a1, a2, a3, a4, a5]) hd hp I hret L rfl rm hW8 S (fun v h' q => by obtain ⟨q1, q2⟩ := q; subst hc'; subst hs'; rw [q1, q2]; exact kk)
theorem j_v7 {idx ci key : Nat} {M' : hM} {R' : Room} {a0 a1 a2 a3 a4 a5 a6 : Value} {fs : List Value} {r : Value} {h2 : hH} (hd : fnd (h_tab M) pc = some (.invokevirtual idx, 3)) (hp : pc + 3 = pc') (I : h_MI M' 7) (L : h_LV (h_own M) idx (h_y M')) (hk : h key = some (.inr (ci, fs))) (hci : (vwCl[ci]?).map (fun q => q.1) = some (h_y M').cls) (S : SpD M' R' (.ref key :: [a0, a1, a2, a3, a4, a5, a6]) h (some r) h2) (rm : h_rm R R' (h_nL M') cells slots) (hW8 : (st.map fun v => v.category).sum ≤ 8) {c' s' : Nat} (hc' : cells + R'.cells = c') (hs' : slots + R'.slots = s') (kk : J M R Q c' s' h2 pc' ls (r :: st)) : J M R Q cells slots h pc ls (a6 :: a5 :: a4 :: a3 :: a2 :: a1 :: a0 :: .ref key :: st) :=
  j_callV (As := [a0, a1, a2, a3, a4, a5, a6]) hd hp I L hk hci rfl rm hW8 S (fun v h' q => by obtain ⟨q1, q2⟩ := q; subst hc'; subst hs'; rw [q1, q2]; exact kk)
theorem j_s7 {idx : Nat} {M' : hM} {R' : Room} {a0 a1 a2 a3 a4 a5 a6 : Value} {r : Value} {h2 : hH} (hd : fnd (h_tab M) pc = some (.invokestatic idx, 3)) (hp : pc + 3 = pc') (I : h_MI M' 7) (L : h_LS (h_own M) idx (h_y M')) (S : SpD M' R' [a0, a1, a2, a3, a4, a5, a6] h (some r) h2) (rm : h_rm R R' (h_nL M') cells slots) (hW8 : (st.map fun v => v.category).sum ≤ 8) {c' s' : Nat} (hc' : cells + R'.cells = c') (hs' : slots + R'.slots = s') (kk : J M R Q c' s' h2 pc' ls (r :: st)) : J M R Q cells slots h pc ls (a6 :: a5 :: a4 :: a3 :: a2 :: a1 :: a0 :: st) :=
  j_callS (As := [a0, a1, a2, a3, a4, a5, a6]) hd hp I L rfl rm hW8 S (fun v h' q => by obtain ⟨q1, q2⟩ := q; subst hc'; subst hs'; rw [q1, q2]; exact kk)
theorem j_vw7 {idx ci key : Nat} {M' : hM} {R' : Room} {a0 a1 a2 a3 a4 a5 a6 : Value} {fs : List Value} {h2 : hH} (hd : fnd (h_tab M) pc = some (.invokevirtual idx, 3)) (hp : pc + 3 = pc') (I : h_MI M' 7) (L : h_LV (h_own M) idx (h_y M')) (hk : h key = some (.inr (ci, fs))) (hci : (vwCl[ci]?).map (fun q => q.1) = some (h_y M').cls) (S : SpD M' R' (.ref key :: [a0, a1, a2, a3, a4, a5, a6]) h none h2) (rm : h_rm R R' (h_nL M') cells slots) (hW8 : (st.map fun v => v.category).sum ≤ 8) {c' s' : Nat} (hc' : cells + R'.cells = c') (hs' : slots + R'.slots = s') (kk : J M R Q c' s' h2 pc' ls st) : J M R Q cells slots h pc ls (a6 :: a5 :: a4 :: a3 :: a2 :: a1 :: a0 :: .ref key :: st) :=
  j_callV (As := [a0, a1, a2, a3, a4, a5, a6]) hd hp I L hk hci rfl rm hW8 S (fun v h' q => by obtain ⟨q1, q2⟩ := q; subst hc'; subst hs'; rw [q1, q2]; exact kk)
theorem j_sw7 {idx : Nat} {M' : hM} {R' : Room} {a0 a1 a2 a3 a4 a5 a6 : Value} {h2 : hH} (hd : fnd (h_tab M) pc = some (.invokestatic idx, 3)) (hp : pc + 3 = pc') (I : h_MI M' 7) (L : h_LS (h_own M) idx (h_y M')) (S : SpD M' R' [a0, a1, a2, a3, a4, a5, a6] h none h2) (rm : h_rm R R' (h_nL M') cells slots) (hW8 : (st.map fun v => v.category).sum ≤ 8) {c' s' : Nat} (hc' : cells + R'.cells = c') (hs' : slots + R'.slots = s') (kk : J M R Q c' s' h2 pc' ls st) : J M R Q cells slots h pc ls (a6 :: a5 :: a4 :: a3 :: a2 :: a1 :: a0 :: st) :=
  j_callS (As := [a0, a1, a2, a3, a4, a5, a6]) hd hp I L rfl rm hW8 S (fun v h' q => by obtain ⟨q1, q2⟩ := q; subst hc'; subst hs'; rw [q1, q2]; exact kk)
theorem j_i7 {idx key : Nat} {M' : hM} {R' : Room} {a0 a1 a2 a3 a4 a5 a6 : Value} {h2 : hH} (hd : fnd (h_tab M) pc = some (.invokespecial idx, 3)) (hp : pc + 3 = pc') (I : h_MI M' 7) (hret : h_ret M' = none) (L : h_LI (h_own M) idx (h_y M')) (S : SpD M' R' (.ref key :: [a0, a1, a2, a3, a4, a5, a6]) h none h2) (rm : h_rm R R' (h_nL M') cells slots) (hW8 : (st.map fun v => v.category).sum ≤ 8) {c' s' : Nat} (hc' : cells + R'.cells = c') (hs' : slots + R'.slots = s') (kk : J M R Q c' s' h2 pc' ls st) : J M R Q cells slots h pc ls (a6 :: a5 :: a4 :: a3 :: a2 :: a1 :: a0 :: .ref key :: st) :=
  j_callI (As := [a0, a1, a2, a3, a4, a5, a6]) hd hp I hret L rfl rm hW8 S (fun v h' q => by obtain ⟨q1, q2⟩ := q; subst hc'; subst hs'; rw [q1, q2]; exact kk)
theorem o_chk {β : Type} {c : Bool} {t : Option β} {r : β} (hf : (bif c then t else none) = some r) : c = true ∧ t = some r := by
  cases c with
  | true => exact ⟨rfl, hf⟩
  | false => cases hf
theorem o_nz {β : Type} {c : Prop} {i : Decidable c} {t : Option β} {r : β} (hf : (if c then none else t) = some r) : ¬ c ∧ t = some r := by
  by_cases q : c
  · rw [if_pos q] at hf; cases hf
  · rw [if_neg q] at hf; exact ⟨q, hf⟩
/-- an index within; a boolean -/
def vin (i : Int32) (n : Nat) : Bool := decide (¬ (i < 0 ∨ n ≤ i.toNatClampNeg))
theorem vin_ok {i : Int32} {n : Nat} (q : vin i n = true) : vp_in i n := (of_decide_eq_true q : ¬ (i < 0 ∨ n ≤ i.toNatClampNeg))
def zb (v : Int32) : Bool := decide (v = 0 ∨ v = 1)
theorem zb_ok {v : Int32} (q : zb v = true) : narrow .boolean (.int v) = .int v := by
  rcases (of_decide_eq_true q : v = 0 ∨ v = 1) with rfl | rfl
  · decide
  · decide
theorem o_bind {β γ : Type} {o : Option β} {k : β → Option γ} {r : γ} (hf : o.bind k = some r) : ∃ a : β, o = some a ∧ k a = some r := by
  cases o with
  | none => cases hf
  | some a => exact ⟨a, rfl, hf⟩
def letm {β γ : Type} (a : β) (k : β → Option γ) : Option γ := k a
theorem o_let {β γ : Type} {a : β} {k : β → Option γ} {r : γ} (hf : letm a k = some r) : ∃ b : β, a = b ∧ k b = some r := ⟨a, rfl, hf⟩
theorem sw_out {x : Int32} {n : Nat} (hn : n < 1000) (q : ∀ v : Nat, v ≤ n → x ≠ Int32.ofNat v) : x.toInt < 0 ∨ (n : Int) < x.toInt := by
  by_cases h0 : x.toInt < 0
  · exact Or.inl h0
  · by_cases h1 : (n : Int) < x.toInt
    · exact Or.inr h1
    · exact absurd (show x = Int32.ofNat x.toInt.toNat by
        apply Int32.toInt_inj.mp
        rw [Int32.toInt_ofNat_of_lt (by omega)]
        omega) (q x.toInt.toNat (by omega))
end HCALLS
end
section
/-! THE REFERENCE'S STATE: columns of ints and longs; key 5000 the object, 5001 + k the array of field k -/
section MSTATE
abbrev mS : Type := (Nat → Nat → Int32) × (Nat → Nat → Int64)
def seti (μ : mS) (k : Nat) (f : Nat → Int32) : mS := (va_up μ.1 k f, μ.2)
def setl (μ : mS) (k : Nat) (f : Nat → Int64) : mS := (μ.1, va_up μ.2 k f)
def nth {β : Type} : List (Option β) → Nat → Option β
  | [], _ => none
  | a :: _, 0 => a
  | _ :: l, n + 1 => nth l n
theorem nth_set {β : Type} : ∀ (l : List (Option β)) (j : Nat) (e : Option β) (i : Nat), j < l.length → nth (l.set j e) i = if i = j then e else nth l i
  | [], j, e, i, h => absurd h (Nat.not_lt_zero _)
  | a :: l, 0, e, 0, _ => rfl
  | a :: l, 0, e, i + 1, _ => rfl
  | a :: l, j + 1, e, 0, _ => rfl
  | a :: l, j + 1, e, i + 1, h => by
    show nth (l.set j e) i = if i + 1 = j + 1 then e else nth l i
    rw [nth_set l j e i (Nat.lt_of_succ_lt_succ h)]
    by_cases q : i = j
    · rw [if_pos q, if_pos (by omega)]
    · rw [if_neg q, if_neg (by omega)]
def mF (μ : mS) : List Value := [.int (μ.1 0 0), .int (μ.1 1 0), .ref 5003, .ref 5004, .ref 5005, .ref 5006, .int (μ.1 6 0), .int (μ.1 7 0), .ref 5009, .ref 5010, .ref 5011, .ref 5012, .ref 5013, .ref 5014, .ref 5015, .ref 5016, .ref 5017, .ref 5018, .ref 5019, .ref 5020, .int (μ.1 20 0), .int (μ.1 21 0), .ref 5023, .ref 5024, .ref 5025, .ref 5026, .int (μ.1 26 0), .int (μ.1 27 0), .ref 5029, .int (μ.1 29 0), .ref 5031, .ref 5032, .ref 5033, .ref 5034, .ref 5035, .ref 5036, .ref 5037, .ref 5038, .ref 5039, .ref 5040, .ref 5041, .long (μ.2 41 0), .ref 5043, .ref 5044, .ref 5045, .ref 5046, .ref 5047, .ref 5048, .ref 5049]
def mL (μ : mS) : List (Option hE) := [some (.inr (7, mF μ)), none, none, some (.inl (.int, 8, .inl (μ.1 2))), some (.inl (.int, 8, .inl (μ.1 3))), some (.inl (.int, 8, .inl (μ.1 4))), some (.inl (.int, 8, .inl (μ.1 5))), none, none, some (.inl (.int, 30, .inl (μ.1 8))), some (.inl (.int, 30, .inl (μ.1 9))), some (.inl (.int, 30, .inl (μ.1 10))), some (.inl (.int, 30, .inl (μ.1 11))), some (.inl (.int, 30, .inl (μ.1 12))), some (.inl (.int, 30, .inl (μ.1 13))), some (.inl (.int, 30, .inl (μ.1 14))), some (.inl (.int, 30, .inl (μ.1 15))), some (.inl (.boolean, 30, .inl (μ.1 16))), some (.inl (.boolean, 30, .inl (μ.1 17))), some (.inl (.boolean, 30, .inl (μ.1 18))), some (.inl (.byte, 160, .inl (μ.1 19))), none, none, some (.inl (.int, 80, .inl (μ.1 22))), some (.inl (.int, 80, .inl (μ.1 23))), some (.inl (.int, 80, .inl (μ.1 24))), some (.inl (.int, 60, .inl (μ.1 25))), none, none, some (.inl (.long, 6, .inr (.inl (μ.2 28)))), none, some (.inl (.int, 30, .inl (μ.1 30))), some (.inl (.int, 30, .inl (μ.1 31))), some (.inl (.int, 18, .inl (μ.1 32))), some (.inl (.long, 3, .inr (.inl (μ.2 33)))), some (.inl (.long, 3, .inr (.inl (μ.2 34)))), some (.inl (.boolean, 3, .inl (μ.1 35))), some (.inl (.long, 3, .inr (.inl (μ.2 36)))), some (.inl (.long, 3, .inr (.inl (μ.2 37)))), some (.inl (.int, 3, .inl (μ.1 38))), some (.inl (.int, 3, .inl (μ.1 39))), some (.inl (.int, 3, .inl (μ.1 40))), none, some (.inl (.int, 3, .inl (μ.1 42))), some (.inl (.int, 6, .inl (μ.1 43))), some (.inl (.int, 18, .inl (μ.1 44))), some (.inl (.int, 3, .inl (μ.1 45))), some (.inl (.int, 6, .inl (μ.1 46))), some (.inl (.int, 9, .inl (μ.1 47))), some (.inl (.int, 9, .inl (μ.1 48)))]
def gm (g : hH) (μ : mS) : hH := fun key => if 5000 ≤ key ∧ key ≤ 5049 then nth (mL μ) (key - 5000) else g key
theorem mL_len (μ : mS) : (mL μ).length = 50 := rfl
theorem gm_up (g : hH) (μ μ' : mS) (j : Nat) (e : hE) (hj : j < 50) (hL : mL μ' = (mL μ).set j (some e)) : hup (gm g μ) (5000 + j) e = gm g μ' := by
  funext i
  unfold hup gm
  rw [hL]
  by_cases hi : i = 5000 + j
  · rw [if_pos hi, if_pos (by omega), nth_set _ _ _ _ (by rw [mL_len]; exact hj), if_pos (by omega)]
  · rw [if_neg hi]
    by_cases hb : 5000 ≤ i ∧ i ≤ 5049
    · rw [if_pos hb, if_pos hb, nth_set _ _ _ _ (by rw [mL_len]; exact hj), if_neg (by omega)]
    · rw [if_neg hb, if_neg hb]
theorem gm_o (g : hH) (μ : mS) : gm g μ 5000 = some (.inr (7, mF μ)) := (if_pos ⟨Nat.le_of_ble_eq_true rfl, Nat.le_of_ble_eq_true rfl⟩).trans rfl
theorem gm_g {g : hH} {μ : mS} {k : Nat} (h : k < 5000 ∨ 5049 < k) : gm g μ k = g k := by
  unfold gm
  rw [if_neg (by omega)]
theorem mF_0 (μ : mS) : (mF μ)[0]? = some (.int (μ.1 0 0)) := rfl
theorem gs_0 (g : hH) (μ : mS) (x : Int32) : hup (gm g μ) 5000 (.inr (7, (mF μ).set 0 (.int x))) = gm g (seti μ 0 (fun _ => x)) := gm_up g μ (seti μ 0 (fun _ => x)) 0 _ (by decide) rfl
theorem mF_1 (μ : mS) : (mF μ)[1]? = some (.int (μ.1 1 0)) := rfl
theorem gs_1 (g : hH) (μ : mS) (x : Int32) : hup (gm g μ) 5000 (.inr (7, (mF μ).set 1 (.int x))) = gm g (seti μ 1 (fun _ => x)) := gm_up g μ (seti μ 1 (fun _ => x)) 0 _ (by decide) rfl
theorem mF_2 (μ : mS) : (mF μ)[2]? = some (.ref 5003) := rfl
theorem gm_2 (g : hH) (μ : mS) : gm g μ 5003 = some (.inl (.int, 8, .inl (μ.1 2))) := (if_pos ⟨Nat.le_of_ble_eq_true rfl, Nat.le_of_ble_eq_true rfl⟩).trans rfl
theorem gs_2 (g : hH) (μ : mS) (f : Nat → Int32) : hup (gm g μ) 5003 (.inl (.int, 8, .inl f)) = gm g (seti μ 2 f) := gm_up g μ (seti μ 2 f) 3 _ (by decide) rfl
theorem mF_3 (μ : mS) : (mF μ)[3]? = some (.ref 5004) := rfl
theorem gm_3 (g : hH) (μ : mS) : gm g μ 5004 = some (.inl (.int, 8, .inl (μ.1 3))) := (if_pos ⟨Nat.le_of_ble_eq_true rfl, Nat.le_of_ble_eq_true rfl⟩).trans rfl
theorem gs_3 (g : hH) (μ : mS) (f : Nat → Int32) : hup (gm g μ) 5004 (.inl (.int, 8, .inl f)) = gm g (seti μ 3 f) := gm_up g μ (seti μ 3 f) 4 _ (by decide) rfl
theorem mF_4 (μ : mS) : (mF μ)[4]? = some (.ref 5005) := rfl
theorem gm_4 (g : hH) (μ : mS) : gm g μ 5005 = some (.inl (.int, 8, .inl (μ.1 4))) := (if_pos ⟨Nat.le_of_ble_eq_true rfl, Nat.le_of_ble_eq_true rfl⟩).trans rfl
theorem gs_4 (g : hH) (μ : mS) (f : Nat → Int32) : hup (gm g μ) 5005 (.inl (.int, 8, .inl f)) = gm g (seti μ 4 f) := gm_up g μ (seti μ 4 f) 5 _ (by decide) rfl
theorem mF_5 (μ : mS) : (mF μ)[5]? = some (.ref 5006) := rfl
theorem gm_5 (g : hH) (μ : mS) : gm g μ 5006 = some (.inl (.int, 8, .inl (μ.1 5))) := (if_pos ⟨Nat.le_of_ble_eq_true rfl, Nat.le_of_ble_eq_true rfl⟩).trans rfl
theorem gs_5 (g : hH) (μ : mS) (f : Nat → Int32) : hup (gm g μ) 5006 (.inl (.int, 8, .inl f)) = gm g (seti μ 5 f) := gm_up g μ (seti μ 5 f) 6 _ (by decide) rfl
theorem mF_6 (μ : mS) : (mF μ)[6]? = some (.int (μ.1 6 0)) := rfl
theorem gs_6 (g : hH) (μ : mS) (x : Int32) : hup (gm g μ) 5000 (.inr (7, (mF μ).set 6 (.int x))) = gm g (seti μ 6 (fun _ => x)) := gm_up g μ (seti μ 6 (fun _ => x)) 0 _ (by decide) rfl
theorem mF_7 (μ : mS) : (mF μ)[7]? = some (.int (μ.1 7 0)) := rfl
theorem gs_7 (g : hH) (μ : mS) (x : Int32) : hup (gm g μ) 5000 (.inr (7, (mF μ).set 7 (.int x))) = gm g (seti μ 7 (fun _ => x)) := gm_up g μ (seti μ 7 (fun _ => x)) 0 _ (by decide) rfl
theorem mF_8 (μ : mS) : (mF μ)[8]? = some (.ref 5009) := rfl
theorem gm_8 (g : hH) (μ : mS) : gm g μ 5009 = some (.inl (.int, 30, .inl (μ.1 8))) := (if_pos ⟨Nat.le_of_ble_eq_true rfl, Nat.le_of_ble_eq_true rfl⟩).trans rfl
theorem gs_8 (g : hH) (μ : mS) (f : Nat → Int32) : hup (gm g μ) 5009 (.inl (.int, 30, .inl f)) = gm g (seti μ 8 f) := gm_up g μ (seti μ 8 f) 9 _ (by decide) rfl
theorem mF_9 (μ : mS) : (mF μ)[9]? = some (.ref 5010) := rfl
theorem gm_9 (g : hH) (μ : mS) : gm g μ 5010 = some (.inl (.int, 30, .inl (μ.1 9))) := (if_pos ⟨Nat.le_of_ble_eq_true rfl, Nat.le_of_ble_eq_true rfl⟩).trans rfl
theorem gs_9 (g : hH) (μ : mS) (f : Nat → Int32) : hup (gm g μ) 5010 (.inl (.int, 30, .inl f)) = gm g (seti μ 9 f) := gm_up g μ (seti μ 9 f) 10 _ (by decide) rfl
theorem mF_10 (μ : mS) : (mF μ)[10]? = some (.ref 5011) := rfl
theorem gm_10 (g : hH) (μ : mS) : gm g μ 5011 = some (.inl (.int, 30, .inl (μ.1 10))) := (if_pos ⟨Nat.le_of_ble_eq_true rfl, Nat.le_of_ble_eq_true rfl⟩).trans rfl
theorem gs_10 (g : hH) (μ : mS) (f : Nat → Int32) : hup (gm g μ) 5011 (.inl (.int, 30, .inl f)) = gm g (seti μ 10 f) := gm_up g μ (seti μ 10 f) 11 _ (by decide) rfl
theorem mF_11 (μ : mS) : (mF μ)[11]? = some (.ref 5012) := rfl
theorem gm_11 (g : hH) (μ : mS) : gm g μ 5012 = some (.inl (.int, 30, .inl (μ.1 11))) := (if_pos ⟨Nat.le_of_ble_eq_true rfl, Nat.le_of_ble_eq_true rfl⟩).trans rfl
theorem gs_11 (g : hH) (μ : mS) (f : Nat → Int32) : hup (gm g μ) 5012 (.inl (.int, 30, .inl f)) = gm g (seti μ 11 f) := gm_up g μ (seti μ 11 f) 12 _ (by decide) rfl
theorem mF_12 (μ : mS) : (mF μ)[12]? = some (.ref 5013) := rfl
theorem gm_12 (g : hH) (μ : mS) : gm g μ 5013 = some (.inl (.int, 30, .inl (μ.1 12))) := (if_pos ⟨Nat.le_of_ble_eq_true rfl, Nat.le_of_ble_eq_true rfl⟩).trans rfl
theorem gs_12 (g : hH) (μ : mS) (f : Nat → Int32) : hup (gm g μ) 5013 (.inl (.int, 30, .inl f)) = gm g (seti μ 12 f) := gm_up g μ (seti μ 12 f) 13 _ (by decide) rfl
theorem mF_13 (μ : mS) : (mF μ)[13]? = some (.ref 5014) := rfl
theorem gm_13 (g : hH) (μ : mS) : gm g μ 5014 = some (.inl (.int, 30, .inl (μ.1 13))) := (if_pos ⟨Nat.le_of_ble_eq_true rfl, Nat.le_of_ble_eq_true rfl⟩).trans rfl
theorem gs_13 (g : hH) (μ : mS) (f : Nat → Int32) : hup (gm g μ) 5014 (.inl (.int, 30, .inl f)) = gm g (seti μ 13 f) := gm_up g μ (seti μ 13 f) 14 _ (by decide) rfl
theorem mF_14 (μ : mS) : (mF μ)[14]? = some (.ref 5015) := rfl
theorem gm_14 (g : hH) (μ : mS) : gm g μ 5015 = some (.inl (.int, 30, .inl (μ.1 14))) := (if_pos ⟨Nat.le_of_ble_eq_true rfl, Nat.le_of_ble_eq_true rfl⟩).trans rfl
theorem gs_14 (g : hH) (μ : mS) (f : Nat → Int32) : hup (gm g μ) 5015 (.inl (.int, 30, .inl f)) = gm g (seti μ 14 f) := gm_up g μ (seti μ 14 f) 15 _ (by decide) rfl
theorem mF_15 (μ : mS) : (mF μ)[15]? = some (.ref 5016) := rfl
theorem gm_15 (g : hH) (μ : mS) : gm g μ 5016 = some (.inl (.int, 30, .inl (μ.1 15))) := (if_pos ⟨Nat.le_of_ble_eq_true rfl, Nat.le_of_ble_eq_true rfl⟩).trans rfl
theorem gs_15 (g : hH) (μ : mS) (f : Nat → Int32) : hup (gm g μ) 5016 (.inl (.int, 30, .inl f)) = gm g (seti μ 15 f) := gm_up g μ (seti μ 15 f) 16 _ (by decide) rfl
theorem mF_16 (μ : mS) : (mF μ)[16]? = some (.ref 5017) := rfl
theorem gm_16 (g : hH) (μ : mS) : gm g μ 5017 = some (.inl (.boolean, 30, .inl (μ.1 16))) := (if_pos ⟨Nat.le_of_ble_eq_true rfl, Nat.le_of_ble_eq_true rfl⟩).trans rfl
theorem gs_16 (g : hH) (μ : mS) (f : Nat → Int32) : hup (gm g μ) 5017 (.inl (.boolean, 30, .inl f)) = gm g (seti μ 16 f) := gm_up g μ (seti μ 16 f) 17 _ (by decide) rfl
theorem mF_17 (μ : mS) : (mF μ)[17]? = some (.ref 5018) := rfl
theorem gm_17 (g : hH) (μ : mS) : gm g μ 5018 = some (.inl (.boolean, 30, .inl (μ.1 17))) := (if_pos ⟨Nat.le_of_ble_eq_true rfl, Nat.le_of_ble_eq_true rfl⟩).trans rfl
theorem gs_17 (g : hH) (μ : mS) (f : Nat → Int32) : hup (gm g μ) 5018 (.inl (.boolean, 30, .inl f)) = gm g (seti μ 17 f) := gm_up g μ (seti μ 17 f) 18 _ (by decide) rfl
theorem mF_18 (μ : mS) : (mF μ)[18]? = some (.ref 5019) := rfl
theorem gm_18 (g : hH) (μ : mS) : gm g μ 5019 = some (.inl (.boolean, 30, .inl (μ.1 18))) := (if_pos ⟨Nat.le_of_ble_eq_true rfl, Nat.le_of_ble_eq_true rfl⟩).trans rfl
theorem gs_18 (g : hH) (μ : mS) (f : Nat → Int32) : hup (gm g μ) 5019 (.inl (.boolean, 30, .inl f)) = gm g (seti μ 18 f) := gm_up g μ (seti μ 18 f) 19 _ (by decide) rfl
theorem mF_19 (μ : mS) : (mF μ)[19]? = some (.ref 5020) := rfl
theorem gm_19 (g : hH) (μ : mS) : gm g μ 5020 = some (.inl (.byte, 160, .inl (μ.1 19))) := (if_pos ⟨Nat.le_of_ble_eq_true rfl, Nat.le_of_ble_eq_true rfl⟩).trans rfl
theorem gs_19 (g : hH) (μ : mS) (f : Nat → Int32) : hup (gm g μ) 5020 (.inl (.byte, 160, .inl f)) = gm g (seti μ 19 f) := gm_up g μ (seti μ 19 f) 20 _ (by decide) rfl
theorem mF_20 (μ : mS) : (mF μ)[20]? = some (.int (μ.1 20 0)) := rfl
theorem gs_20 (g : hH) (μ : mS) (x : Int32) : hup (gm g μ) 5000 (.inr (7, (mF μ).set 20 (.int x))) = gm g (seti μ 20 (fun _ => x)) := gm_up g μ (seti μ 20 (fun _ => x)) 0 _ (by decide) rfl
theorem mF_21 (μ : mS) : (mF μ)[21]? = some (.int (μ.1 21 0)) := rfl
theorem gs_21 (g : hH) (μ : mS) (x : Int32) : hup (gm g μ) 5000 (.inr (7, (mF μ).set 21 (.int x))) = gm g (seti μ 21 (fun _ => x)) := gm_up g μ (seti μ 21 (fun _ => x)) 0 _ (by decide) rfl
theorem mF_22 (μ : mS) : (mF μ)[22]? = some (.ref 5023) := rfl
theorem gm_22 (g : hH) (μ : mS) : gm g μ 5023 = some (.inl (.int, 80, .inl (μ.1 22))) := (if_pos ⟨Nat.le_of_ble_eq_true rfl, Nat.le_of_ble_eq_true rfl⟩).trans rfl
theorem gs_22 (g : hH) (μ : mS) (f : Nat → Int32) : hup (gm g μ) 5023 (.inl (.int, 80, .inl f)) = gm g (seti μ 22 f) := gm_up g μ (seti μ 22 f) 23 _ (by decide) rfl
theorem mF_23 (μ : mS) : (mF μ)[23]? = some (.ref 5024) := rfl
theorem gm_23 (g : hH) (μ : mS) : gm g μ 5024 = some (.inl (.int, 80, .inl (μ.1 23))) := (if_pos ⟨Nat.le_of_ble_eq_true rfl, Nat.le_of_ble_eq_true rfl⟩).trans rfl
theorem gs_23 (g : hH) (μ : mS) (f : Nat → Int32) : hup (gm g μ) 5024 (.inl (.int, 80, .inl f)) = gm g (seti μ 23 f) := gm_up g μ (seti μ 23 f) 24 _ (by decide) rfl
theorem mF_24 (μ : mS) : (mF μ)[24]? = some (.ref 5025) := rfl
theorem gm_24 (g : hH) (μ : mS) : gm g μ 5025 = some (.inl (.int, 80, .inl (μ.1 24))) := (if_pos ⟨Nat.le_of_ble_eq_true rfl, Nat.le_of_ble_eq_true rfl⟩).trans rfl
theorem gs_24 (g : hH) (μ : mS) (f : Nat → Int32) : hup (gm g μ) 5025 (.inl (.int, 80, .inl f)) = gm g (seti μ 24 f) := gm_up g μ (seti μ 24 f) 25 _ (by decide) rfl
theorem mF_25 (μ : mS) : (mF μ)[25]? = some (.ref 5026) := rfl
theorem gm_25 (g : hH) (μ : mS) : gm g μ 5026 = some (.inl (.int, 60, .inl (μ.1 25))) := (if_pos ⟨Nat.le_of_ble_eq_true rfl, Nat.le_of_ble_eq_true rfl⟩).trans rfl
theorem gs_25 (g : hH) (μ : mS) (f : Nat → Int32) : hup (gm g μ) 5026 (.inl (.int, 60, .inl f)) = gm g (seti μ 25 f) := gm_up g μ (seti μ 25 f) 26 _ (by decide) rfl
theorem mF_26 (μ : mS) : (mF μ)[26]? = some (.int (μ.1 26 0)) := rfl
theorem gs_26 (g : hH) (μ : mS) (x : Int32) : hup (gm g μ) 5000 (.inr (7, (mF μ).set 26 (.int x))) = gm g (seti μ 26 (fun _ => x)) := gm_up g μ (seti μ 26 (fun _ => x)) 0 _ (by decide) rfl
theorem mF_27 (μ : mS) : (mF μ)[27]? = some (.int (μ.1 27 0)) := rfl
theorem gs_27 (g : hH) (μ : mS) (x : Int32) : hup (gm g μ) 5000 (.inr (7, (mF μ).set 27 (.int x))) = gm g (seti μ 27 (fun _ => x)) := gm_up g μ (seti μ 27 (fun _ => x)) 0 _ (by decide) rfl
theorem mF_28 (μ : mS) : (mF μ)[28]? = some (.ref 5029) := rfl
theorem gm_28 (g : hH) (μ : mS) : gm g μ 5029 = some (.inl (.long, 6, .inr (.inl (μ.2 28)))) := (if_pos ⟨Nat.le_of_ble_eq_true rfl, Nat.le_of_ble_eq_true rfl⟩).trans rfl
theorem gs_28 (g : hH) (μ : mS) (f : Nat → Int64) : hup (gm g μ) 5029 (.inl (.long, 6, .inr (.inl f))) = gm g (setl μ 28 f) := gm_up g μ (setl μ 28 f) 29 _ (by decide) rfl
theorem mF_29 (μ : mS) : (mF μ)[29]? = some (.int (μ.1 29 0)) := rfl
theorem gs_29 (g : hH) (μ : mS) (x : Int32) : hup (gm g μ) 5000 (.inr (7, (mF μ).set 29 (.int x))) = gm g (seti μ 29 (fun _ => x)) := gm_up g μ (seti μ 29 (fun _ => x)) 0 _ (by decide) rfl
theorem mF_30 (μ : mS) : (mF μ)[30]? = some (.ref 5031) := rfl
theorem gm_30 (g : hH) (μ : mS) : gm g μ 5031 = some (.inl (.int, 30, .inl (μ.1 30))) := (if_pos ⟨Nat.le_of_ble_eq_true rfl, Nat.le_of_ble_eq_true rfl⟩).trans rfl
theorem gs_30 (g : hH) (μ : mS) (f : Nat → Int32) : hup (gm g μ) 5031 (.inl (.int, 30, .inl f)) = gm g (seti μ 30 f) := gm_up g μ (seti μ 30 f) 31 _ (by decide) rfl
theorem mF_31 (μ : mS) : (mF μ)[31]? = some (.ref 5032) := rfl
theorem gm_31 (g : hH) (μ : mS) : gm g μ 5032 = some (.inl (.int, 30, .inl (μ.1 31))) := (if_pos ⟨Nat.le_of_ble_eq_true rfl, Nat.le_of_ble_eq_true rfl⟩).trans rfl
theorem gs_31 (g : hH) (μ : mS) (f : Nat → Int32) : hup (gm g μ) 5032 (.inl (.int, 30, .inl f)) = gm g (seti μ 31 f) := gm_up g μ (seti μ 31 f) 32 _ (by decide) rfl
theorem mF_32 (μ : mS) : (mF μ)[32]? = some (.ref 5033) := rfl
theorem gm_32 (g : hH) (μ : mS) : gm g μ 5033 = some (.inl (.int, 18, .inl (μ.1 32))) := (if_pos ⟨Nat.le_of_ble_eq_true rfl, Nat.le_of_ble_eq_true rfl⟩).trans rfl
theorem gs_32 (g : hH) (μ : mS) (f : Nat → Int32) : hup (gm g μ) 5033 (.inl (.int, 18, .inl f)) = gm g (seti μ 32 f) := gm_up g μ (seti μ 32 f) 33 _ (by decide) rfl
theorem mF_33 (μ : mS) : (mF μ)[33]? = some (.ref 5034) := rfl
theorem gm_33 (g : hH) (μ : mS) : gm g μ 5034 = some (.inl (.long, 3, .inr (.inl (μ.2 33)))) := (if_pos ⟨Nat.le_of_ble_eq_true rfl, Nat.le_of_ble_eq_true rfl⟩).trans rfl
theorem gs_33 (g : hH) (μ : mS) (f : Nat → Int64) : hup (gm g μ) 5034 (.inl (.long, 3, .inr (.inl f))) = gm g (setl μ 33 f) := gm_up g μ (setl μ 33 f) 34 _ (by decide) rfl
theorem mF_34 (μ : mS) : (mF μ)[34]? = some (.ref 5035) := rfl
theorem gm_34 (g : hH) (μ : mS) : gm g μ 5035 = some (.inl (.long, 3, .inr (.inl (μ.2 34)))) := (if_pos ⟨Nat.le_of_ble_eq_true rfl, Nat.le_of_ble_eq_true rfl⟩).trans rfl
theorem gs_34 (g : hH) (μ : mS) (f : Nat → Int64) : hup (gm g μ) 5035 (.inl (.long, 3, .inr (.inl f))) = gm g (setl μ 34 f) := gm_up g μ (setl μ 34 f) 35 _ (by decide) rfl
theorem mF_35 (μ : mS) : (mF μ)[35]? = some (.ref 5036) := rfl
theorem gm_35 (g : hH) (μ : mS) : gm g μ 5036 = some (.inl (.boolean, 3, .inl (μ.1 35))) := (if_pos ⟨Nat.le_of_ble_eq_true rfl, Nat.le_of_ble_eq_true rfl⟩).trans rfl
theorem gs_35 (g : hH) (μ : mS) (f : Nat → Int32) : hup (gm g μ) 5036 (.inl (.boolean, 3, .inl f)) = gm g (seti μ 35 f) := gm_up g μ (seti μ 35 f) 36 _ (by decide) rfl
theorem mF_36 (μ : mS) : (mF μ)[36]? = some (.ref 5037) := rfl
theorem gm_36 (g : hH) (μ : mS) : gm g μ 5037 = some (.inl (.long, 3, .inr (.inl (μ.2 36)))) := (if_pos ⟨Nat.le_of_ble_eq_true rfl, Nat.le_of_ble_eq_true rfl⟩).trans rfl
theorem gs_36 (g : hH) (μ : mS) (f : Nat → Int64) : hup (gm g μ) 5037 (.inl (.long, 3, .inr (.inl f))) = gm g (setl μ 36 f) := gm_up g μ (setl μ 36 f) 37 _ (by decide) rfl
theorem mF_37 (μ : mS) : (mF μ)[37]? = some (.ref 5038) := rfl
theorem gm_37 (g : hH) (μ : mS) : gm g μ 5038 = some (.inl (.long, 3, .inr (.inl (μ.2 37)))) := (if_pos ⟨Nat.le_of_ble_eq_true rfl, Nat.le_of_ble_eq_true rfl⟩).trans rfl
theorem gs_37 (g : hH) (μ : mS) (f : Nat → Int64) : hup (gm g μ) 5038 (.inl (.long, 3, .inr (.inl f))) = gm g (setl μ 37 f) := gm_up g μ (setl μ 37 f) 38 _ (by decide) rfl
theorem mF_38 (μ : mS) : (mF μ)[38]? = some (.ref 5039) := rfl
theorem gm_38 (g : hH) (μ : mS) : gm g μ 5039 = some (.inl (.int, 3, .inl (μ.1 38))) := (if_pos ⟨Nat.le_of_ble_eq_true rfl, Nat.le_of_ble_eq_true rfl⟩).trans rfl
theorem gs_38 (g : hH) (μ : mS) (f : Nat → Int32) : hup (gm g μ) 5039 (.inl (.int, 3, .inl f)) = gm g (seti μ 38 f) := gm_up g μ (seti μ 38 f) 39 _ (by decide) rfl
theorem mF_39 (μ : mS) : (mF μ)[39]? = some (.ref 5040) := rfl
theorem gm_39 (g : hH) (μ : mS) : gm g μ 5040 = some (.inl (.int, 3, .inl (μ.1 39))) := (if_pos ⟨Nat.le_of_ble_eq_true rfl, Nat.le_of_ble_eq_true rfl⟩).trans rfl
theorem gs_39 (g : hH) (μ : mS) (f : Nat → Int32) : hup (gm g μ) 5040 (.inl (.int, 3, .inl f)) = gm g (seti μ 39 f) := gm_up g μ (seti μ 39 f) 40 _ (by decide) rfl
theorem mF_40 (μ : mS) : (mF μ)[40]? = some (.ref 5041) := rfl
theorem gm_40 (g : hH) (μ : mS) : gm g μ 5041 = some (.inl (.int, 3, .inl (μ.1 40))) := (if_pos ⟨Nat.le_of_ble_eq_true rfl, Nat.le_of_ble_eq_true rfl⟩).trans rfl
theorem gs_40 (g : hH) (μ : mS) (f : Nat → Int32) : hup (gm g μ) 5041 (.inl (.int, 3, .inl f)) = gm g (seti μ 40 f) := gm_up g μ (seti μ 40 f) 41 _ (by decide) rfl
theorem mF_41 (μ : mS) : (mF μ)[41]? = some (.long (μ.2 41 0)) := rfl
theorem gs_41 (g : hH) (μ : mS) (x : Int64) : hup (gm g μ) 5000 (.inr (7, (mF μ).set 41 (.long x))) = gm g (setl μ 41 (fun _ => x)) := gm_up g μ (setl μ 41 (fun _ => x)) 0 _ (by decide) rfl
theorem mF_42 (μ : mS) : (mF μ)[42]? = some (.ref 5043) := rfl
theorem gm_42 (g : hH) (μ : mS) : gm g μ 5043 = some (.inl (.int, 3, .inl (μ.1 42))) := (if_pos ⟨Nat.le_of_ble_eq_true rfl, Nat.le_of_ble_eq_true rfl⟩).trans rfl
theorem gs_42 (g : hH) (μ : mS) (f : Nat → Int32) : hup (gm g μ) 5043 (.inl (.int, 3, .inl f)) = gm g (seti μ 42 f) := gm_up g μ (seti μ 42 f) 43 _ (by decide) rfl
theorem mF_43 (μ : mS) : (mF μ)[43]? = some (.ref 5044) := rfl
theorem gm_43 (g : hH) (μ : mS) : gm g μ 5044 = some (.inl (.int, 6, .inl (μ.1 43))) := (if_pos ⟨Nat.le_of_ble_eq_true rfl, Nat.le_of_ble_eq_true rfl⟩).trans rfl
theorem gs_43 (g : hH) (μ : mS) (f : Nat → Int32) : hup (gm g μ) 5044 (.inl (.int, 6, .inl f)) = gm g (seti μ 43 f) := gm_up g μ (seti μ 43 f) 44 _ (by decide) rfl
theorem mF_44 (μ : mS) : (mF μ)[44]? = some (.ref 5045) := rfl
theorem gm_44 (g : hH) (μ : mS) : gm g μ 5045 = some (.inl (.int, 18, .inl (μ.1 44))) := (if_pos ⟨Nat.le_of_ble_eq_true rfl, Nat.le_of_ble_eq_true rfl⟩).trans rfl
theorem gs_44 (g : hH) (μ : mS) (f : Nat → Int32) : hup (gm g μ) 5045 (.inl (.int, 18, .inl f)) = gm g (seti μ 44 f) := gm_up g μ (seti μ 44 f) 45 _ (by decide) rfl
theorem mF_45 (μ : mS) : (mF μ)[45]? = some (.ref 5046) := rfl
theorem gm_45 (g : hH) (μ : mS) : gm g μ 5046 = some (.inl (.int, 3, .inl (μ.1 45))) := (if_pos ⟨Nat.le_of_ble_eq_true rfl, Nat.le_of_ble_eq_true rfl⟩).trans rfl
theorem gs_45 (g : hH) (μ : mS) (f : Nat → Int32) : hup (gm g μ) 5046 (.inl (.int, 3, .inl f)) = gm g (seti μ 45 f) := gm_up g μ (seti μ 45 f) 46 _ (by decide) rfl
theorem mF_46 (μ : mS) : (mF μ)[46]? = some (.ref 5047) := rfl
theorem gm_46 (g : hH) (μ : mS) : gm g μ 5047 = some (.inl (.int, 6, .inl (μ.1 46))) := (if_pos ⟨Nat.le_of_ble_eq_true rfl, Nat.le_of_ble_eq_true rfl⟩).trans rfl
theorem gs_46 (g : hH) (μ : mS) (f : Nat → Int32) : hup (gm g μ) 5047 (.inl (.int, 6, .inl f)) = gm g (seti μ 46 f) := gm_up g μ (seti μ 46 f) 47 _ (by decide) rfl
theorem mF_47 (μ : mS) : (mF μ)[47]? = some (.ref 5048) := rfl
theorem gm_47 (g : hH) (μ : mS) : gm g μ 5048 = some (.inl (.int, 9, .inl (μ.1 47))) := (if_pos ⟨Nat.le_of_ble_eq_true rfl, Nat.le_of_ble_eq_true rfl⟩).trans rfl
theorem gs_47 (g : hH) (μ : mS) (f : Nat → Int32) : hup (gm g μ) 5048 (.inl (.int, 9, .inl f)) = gm g (seti μ 47 f) := gm_up g μ (seti μ 47 f) 48 _ (by decide) rfl
theorem mF_48 (μ : mS) : (mF μ)[48]? = some (.ref 5049) := rfl
theorem gm_48 (g : hH) (μ : mS) : gm g μ 5049 = some (.inl (.int, 9, .inl (μ.1 48))) := (if_pos ⟨Nat.le_of_ble_eq_true rfl, Nat.le_of_ble_eq_true rfl⟩).trans rfl
theorem gs_48 (g : hH) (μ : mS) (f : Nat → Int32) : hup (gm g μ) 5049 (.inl (.int, 9, .inl f)) = gm g (seti μ 48 f) := gm_up g μ (seti μ 48 f) 49 _ (by decide) rfl
end MSTATE
end
section
section MODEL0
def rX7_in : Room := { frames := 0, cells := 0, slots := 0, locals := 0 }
def f_X7_in (x0 : Int32) (x1 : Int32) (x2 : Int32) : Option Int32 := if x0 < x1 then some 0 else if x2 < x0 then some 0 else some 1
set_option maxHeartbeats 4000000 in
set_option maxRecDepth 100000 in
theorem s_X7_in (h : hH) (x0 : Int32) (x1 : Int32) (x2 : Int32) (r : Int32) (hf : f_X7_in x0 x1 x2 = some r) : SpD mX7_in rX7_in [.int x0, .int x1, .int x2] h (some (.int r)) h := by
  refine sp_of miX7_in (Nat.le_of_ble_eq_true rfl) ?_
  show J _ _ _ 0 0 _ 0 [(0, .int x0), (1, .int x1), (2, .int x2)] []
  unfold f_X7_in at hf
  refine j_iload_n (pc' := 1) rfl rfl rfl ?_
  refine j_iload_n (pc' := 2) rfl rfl rfl ?_
  refine j_icmp_lt (tgt := 14) (pc' := 5) rfl rfl rfl (fun c2 => ?_) (fun c2 => ?_)
  · rw [if_pos c2] at hf
    refine j_iconst (v := 0) (pc' := 15) rfl rfl (by decide) ?_
    have hf := Option.some.inj hf; subst hf
    exact j_zret rfl rfl (by decide) (Nat.zero_le _) (Nat.zero_le _) ⟨rfl, rfl⟩
  · rw [if_neg c2] at hf
    refine j_iload_n (pc' := 6) rfl rfl rfl ?_
    refine j_iload_n (pc' := 7) rfl rfl rfl ?_
    refine j_icmp_gt (tgt := 14) (pc' := 10) rfl rfl rfl (fun c7 => ?_) (fun c7 => ?_)
    · rw [if_pos c7] at hf
      refine j_iconst (v := 0) (pc' := 15) rfl rfl (by decide) ?_
      have hf := Option.some.inj hf; subst hf
      exact j_zret rfl rfl (by decide) (Nat.zero_le _) (Nat.zero_le _) ⟨rfl, rfl⟩
    · rw [if_neg c7] at hf
      refine j_iconst (v := 1) (pc' := 11) rfl rfl (by decide) ?_
      refine j_goto (tgt := 15) rfl rfl ?_
      have hf := Option.some.inj hf; subst hf
      exact j_zret rfl rfl (by decide) (Nat.zero_le _) (Nat.zero_le _) ⟨rfl, rfl⟩
def rX7_isSort : Room := { frames := 1, cells := 0, slots := 0, locals := 22 }
def f_X7_isSort (μ : mS) (x1 : Int32) : Option Int32 := (f_X7_in x1 0 ((μ.1 1 0) - 1)).bind fun r8 => bif zb r8 then some r8 else none
set_option maxHeartbeats 4000000 in
set_option maxRecDepth 100000 in
theorem s_X7_isSort (g : hH) (μ : mS) (x1 : Int32) (r : Int32) (hf : f_X7_isSort μ x1 = some r) : SpD mX7_isSort rX7_isSort [.ref 5000, .int x1] (gm g μ) (some (.int r)) (gm g μ) := by
  refine sp_of miX7_isSort (Nat.le_of_ble_eq_true rfl) ?_
  show J _ _ _ 0 0 _ 0 [(0, .ref 5000), (1, .int x1)] []
  unfold f_X7_isSort at hf
  refine j_iload_n (pc' := 1) rfl rfl rfl ?_
  refine j_iconst (v := 0) (pc' := 2) rfl rfl (by decide) ?_
  refine j_aload_n (pc' := 3) rfl rfl rfl ?_
  refine j_get (pc' := 6) rfl rfl flX7_135 (gm_o g μ) (mF_1 μ) ?_
  refine j_iconst (v := 1) (pc' := 7) rfl rfl (by decide) ?_
  refine j_isub (pc' := 8) rfl rfl ?_
  obtain ⟨r8, e8, hf⟩ := o_bind hf
  refine j_s3 (pc' := 11) rfl rfl miX7_in lnX7_138 (s_X7_in (gm g μ) x1 0 ((μ.1 1 0) - 1) _ e8) (h_rm_of rfl) (Nat.le_of_ble_eq_true rfl) (c' := 0) (s' := 0) rfl rfl ?_
  obtain ⟨c11, hf⟩ := o_chk hf
  have hf := Option.some.inj hf; subst hf
  exact j_zret rfl rfl (zb_ok c11) (Nat.zero_le _) (Nat.zero_le _) ⟨rfl, rfl⟩
def rX7_isLot : Room := { frames := 1, cells := 0, slots := 0, locals := 22 }
def f_X7_isLot (μ : mS) (x1 : Int32) : Option Int32 := (f_X7_in x1 0 ((μ.1 7 0) - 1)).bind fun r8 => bif zb r8 then some r8 else none
set_option maxHeartbeats 4000000 in
set_option maxRecDepth 100000 in
theorem s_X7_isLot (g : hH) (μ : mS) (x1 : Int32) (r : Int32) (hf : f_X7_isLot μ x1 = some r) : SpD mX7_isLot rX7_isLot [.ref 5000, .int x1] (gm g μ) (some (.int r)) (gm g μ) := by
  refine sp_of miX7_isLot (Nat.le_of_ble_eq_true rfl) ?_
  show J _ _ _ 0 0 _ 0 [(0, .ref 5000), (1, .int x1)] []
  unfold f_X7_isLot at hf
  refine j_iload_n (pc' := 1) rfl rfl rfl ?_
  refine j_iconst (v := 0) (pc' := 2) rfl rfl (by decide) ?_
  refine j_aload_n (pc' := 3) rfl rfl rfl ?_
  refine j_get (pc' := 6) rfl rfl flX7_142 (gm_o g μ) (mF_7 μ) ?_
  refine j_iconst (v := 1) (pc' := 7) rfl rfl (by decide) ?_
  refine j_isub (pc' := 8) rfl rfl ?_
  obtain ⟨r8, e8, hf⟩ := o_bind hf
  refine j_s3 (pc' := 11) rfl rfl miX7_in lnX7_138 (s_X7_in (gm g μ) x1 0 ((μ.1 7 0) - 1) _ e8) (h_rm_of rfl) (Nat.le_of_ble_eq_true rfl) (c' := 0) (s' := 0) rfl rfl ?_
  obtain ⟨c11, hf⟩ := o_chk hf
  have hf := Option.some.inj hf; subst hf
  exact j_zret rfl rfl (zb_ok c11) (Nat.zero_le _) (Nat.zero_le _) ⟨rfl, rfl⟩
def rX7_isTown : Room := { frames := 1, cells := 0, slots := 0, locals := 22 }
def f_X7_isTown (x0 : Int32) : Option Int32 := (f_X7_in x0 0 5).bind fun r3 => bif zb r3 then some r3 else none
set_option maxHeartbeats 4000000 in
set_option maxRecDepth 100000 in
theorem s_X7_isTown (h : hH) (x0 : Int32) (r : Int32) (hf : f_X7_isTown x0 = some r) : SpD mX7_isTown rX7_isTown [.int x0] h (some (.int r)) h := by
  refine sp_of miX7_isTown (Nat.le_of_ble_eq_true rfl) ?_
  show J _ _ _ 0 0 _ 0 [(0, .int x0)] []
  unfold f_X7_isTown at hf
  refine j_iload_n (pc' := 1) rfl rfl rfl ?_
  refine j_iconst (v := 0) (pc' := 2) rfl rfl (by decide) ?_
  refine j_iconst (v := 5) (pc' := 3) rfl rfl (by decide) ?_
  obtain ⟨r3, e3, hf⟩ := o_bind hf
  refine j_s3 (pc' := 6) rfl rfl miX7_in lnX7_138 (s_X7_in h x0 0 5 _ e3) (h_rm_of rfl) (Nat.le_of_ble_eq_true rfl) (c' := 0) (s' := 0) rfl rfl ?_
  obtain ⟨c6, hf⟩ := o_chk hf
  have hf := Option.some.inj hf; subst hf
  exact j_zret rfl rfl (zb_ok c6) (Nat.zero_le _) (Nat.zero_le _) ⟨rfl, rfl⟩
def rX7_isMint : Room := { frames := 1, cells := 0, slots := 0, locals := 22 }
def f_X7_isMint (x0 : Int32) : Option Int32 := (f_X7_in x0 0 2).bind fun r3 => bif zb r3 then some r3 else none
set_option maxHeartbeats 4000000 in
set_option maxRecDepth 100000 in
theorem s_X7_isMint (h : hH) (x0 : Int32) (r : Int32) (hf : f_X7_isMint x0 = some r) : SpD mX7_isMint rX7_isMint [.int x0] h (some (.int r)) h := by
  refine sp_of miX7_isMint (Nat.le_of_ble_eq_true rfl) ?_
  show J _ _ _ 0 0 _ 0 [(0, .int x0)] []
  unfold f_X7_isMint at hf
  refine j_iload_n (pc' := 1) rfl rfl rfl ?_
  refine j_iconst (v := 0) (pc' := 2) rfl rfl (by decide) ?_
  refine j_iconst (v := 2) (pc' := 3) rfl rfl (by decide) ?_
  obtain ⟨r3, e3, hf⟩ := o_bind hf
  refine j_s3 (pc' := 6) rfl rfl miX7_in lnX7_138 (s_X7_in h x0 0 2 _ e3) (h_rm_of rfl) (Nat.le_of_ble_eq_true rfl) (c' := 0) (s' := 0) rfl rfl ?_
  obtain ⟨c6, hf⟩ := o_chk hf
  have hf := Option.some.inj hf; subst hf
  exact j_zret rfl rfl (zb_ok c6) (Nat.zero_le _) (Nat.zero_le _) ⟨rfl, rfl⟩
def rX7_isOrder : Room := { frames := 1, cells := 0, slots := 0, locals := 22 }
def f_X7_isOrder (μ : mS) (x1 : Int32) : Option Int32 := (f_X7_in x1 0 ((μ.1 21 0) - 1)).bind fun r8 => bif zb r8 then some r8 else none
set_option maxHeartbeats 4000000 in
set_option maxRecDepth 100000 in
theorem s_X7_isOrder (g : hH) (μ : mS) (x1 : Int32) (r : Int32) (hf : f_X7_isOrder μ x1 = some r) : SpD mX7_isOrder rX7_isOrder [.ref 5000, .int x1] (gm g μ) (some (.int r)) (gm g μ) := by
  refine sp_of miX7_isOrder (Nat.le_of_ble_eq_true rfl) ?_
  show J _ _ _ 0 0 _ 0 [(0, .ref 5000), (1, .int x1)] []
  unfold f_X7_isOrder at hf
  refine j_iload_n (pc' := 1) rfl rfl rfl ?_
  refine j_iconst (v := 0) (pc' := 2) rfl rfl (by decide) ?_
  refine j_aload_n (pc' := 3) rfl rfl rfl ?_
  refine j_get (pc' := 6) rfl rfl flX7_205 (gm_o g μ) (mF_21 μ) ?_
  refine j_iconst (v := 1) (pc' := 7) rfl rfl (by decide) ?_
  refine j_isub (pc' := 8) rfl rfl ?_
  obtain ⟨r8, e8, hf⟩ := o_bind hf
  refine j_s3 (pc' := 11) rfl rfl miX7_in lnX7_138 (s_X7_in (gm g μ) x1 0 ((μ.1 21 0) - 1) _ e8) (h_rm_of rfl) (Nat.le_of_ble_eq_true rfl) (c' := 0) (s' := 0) rfl rfl ?_
  obtain ⟨c11, hf⟩ := o_chk hf
  have hf := Option.some.inj hf; subst hf
  exact j_zret rfl rfl (zb_ok c11) (Nat.zero_le _) (Nat.zero_le _) ⟨rfl, rfl⟩
def rX7_isWeight : Room := { frames := 1, cells := 0, slots := 0, locals := 22 }
def f_X7_isWeight (μ : mS) (x1 : Int32) (x2 : Int32) (x3 : Int32) (x4 : Int32) : Option Int32 := if x1 = 3 then if x3 = 0 then (f_X7_in x4 1 100000).bind fun r14 => if r14 = 0 then some 0 else some 1 else some 0 else (f_X7_in x3 1 1000).bind fun r31 => if r31 = 0 then some 0 else if x1 = 4 then bif vin x2 8 then if x4 = (x3 * (μ.1 3 (x2).toNatClampNeg)) then some 1 else some 0 else none else if x1 = 1 then bif vin x2 8 then (f_X7_in x4 x3 (x3 * (μ.1 3 (x2).toNatClampNeg))).bind fun r95 => bif zb r95 then some r95 else none else none else if x1 = 5 then bif vin x2 8 then (f_X7_in x4 x3 (x3 * (μ.1 3 (x2).toNatClampNeg))).bind fun r95 => bif zb r95 then some r95 else none else none else bif vin x2 8 then bif vin x2 8 then (f_X7_in x4 (x3 * (μ.1 2 (x2).toNatClampNeg)) (x3 * (μ.1 3 (x2).toNatClampNeg))).bind fun r95 => bif zb r95 then some r95 else none else none else none
set_option maxHeartbeats 4000000 in
set_option maxRecDepth 100000 in
theorem s_X7_isWeight (g : hH) (μ : mS) (x1 : Int32) (x2 : Int32) (x3 : Int32) (x4 : Int32) (r : Int32) (hf : f_X7_isWeight μ x1 x2 x3 x4 = some r) : SpD mX7_isWeight rX7_isWeight [.ref 5000, .int x1, .int x2, .int x3, .int x4] (gm g μ) (some (.int r)) (gm g μ) := by
  refine sp_of miX7_isWeight (Nat.le_of_ble_eq_true rfl) ?_
  show J _ _ _ 0 0 _ 0 [(0, .ref 5000), (1, .int x1), (2, .int x2), (3, .int x3), (4, .int x4)] []
  unfold f_X7_isWeight at hf
  refine j_iload_n (pc' := 1) rfl rfl rfl ?_
  refine j_iconst (v := 3) (pc' := 2) rfl rfl (by decide) ?_
  refine j_icmp_ne (tgt := 26) (pc' := 5) rfl rfl rfl (fun c2 => ?_) (fun c2 => ?_)
  · rw [if_neg c2] at hf
    refine j_iload_n (pc' := 27) rfl rfl rfl ?_
    refine j_iconst (v := 1) (pc' := 28) rfl rfl (by decide) ?_
    refine j_sipush (v := 1000) (pc' := 31) rfl rfl (by decide) ?_
    obtain ⟨r31, e31, hf⟩ := o_bind hf
    refine j_s3 (pc' := 34) rfl rfl miX7_in lnX7_138 (s_X7_in (gm g μ) x3 1 1000 _ e31) (h_rm_of rfl) (Nat.le_of_ble_eq_true rfl) (c' := 0) (s' := 0) rfl rfl ?_
    refine j_if_ne (tgt := 39) (pc' := 37) rfl rfl rfl (fun c34 => ?_) (fun c34 => ?_)
    · rw [if_neg c34] at hf
      refine j_iload_n (pc' := 40) rfl rfl rfl ?_
      refine j_iconst (v := 4) (pc' := 41) rfl rfl (by decide) ?_
      refine j_icmp_ne (tgt := 63) (pc' := 44) rfl rfl rfl (fun c41 => ?_) (fun c41 => ?_)
      · rw [if_neg c41] at hf
        refine j_iload (pc' := 65) rfl rfl rfl ?_
        refine j_iload_n (pc' := 66) rfl rfl rfl ?_
        refine j_iconst (v := 1) (pc' := 67) rfl rfl (by decide) ?_
        refine j_icmp_eq (tgt := 75) (pc' := 70) rfl rfl rfl (fun c67 => ?_) (fun c67 => ?_)
        · rw [if_pos c67] at hf
          refine j_iload_n (pc' := 76) rfl rfl rfl ?_
          refine j_goto (tgt := 87) rfl rfl ?_
          refine j_iload_n (pc' := 88) rfl rfl rfl ?_
          refine j_aload_n (pc' := 89) rfl rfl rfl ?_
          refine j_get (pc' := 92) rfl rfl flX7_13 (gm_o g μ) (mF_3 μ) ?_
          refine j_iload_n (pc' := 93) rfl rfl rfl ?_
          obtain ⟨c93, hf⟩ := o_chk hf
          refine j_iald (pc' := 94) rfl rfl (gm_3 g μ) (vin_ok c93) ?_
          refine j_imul (pc' := 95) rfl rfl ?_
          obtain ⟨r95, e95, hf⟩ := o_bind hf
          refine j_s3 (pc' := 98) rfl rfl miX7_in lnX7_138 (s_X7_in (gm g μ) x4 x3 (x3 * (μ.1 3 (x2).toNatClampNeg)) _ e95) (h_rm_of rfl) (Nat.le_of_ble_eq_true rfl) (c' := 0) (s' := 0) rfl rfl ?_
          obtain ⟨c98, hf⟩ := o_chk hf
          have hf := Option.some.inj hf; subst hf
          exact j_zret rfl rfl (zb_ok c98) (Nat.zero_le _) (Nat.zero_le _) ⟨rfl, rfl⟩
        · rw [if_neg c67] at hf
          refine j_iload_n (pc' := 71) rfl rfl rfl ?_
          refine j_iconst (v := 5) (pc' := 72) rfl rfl (by decide) ?_
          refine j_icmp_ne (tgt := 79) (pc' := 75) rfl rfl rfl (fun c72 => ?_) (fun c72 => ?_)
          · rw [if_neg c72] at hf
            refine j_iload_n (pc' := 80) rfl rfl rfl ?_
            refine j_aload_n (pc' := 81) rfl rfl rfl ?_
            refine j_get (pc' := 84) rfl rfl flX7_7 (gm_o g μ) (mF_2 μ) ?_
            refine j_iload_n (pc' := 85) rfl rfl rfl ?_
            obtain ⟨c85, hf⟩ := o_chk hf
            refine j_iald (pc' := 86) rfl rfl (gm_2 g μ) (vin_ok c85) ?_
            refine j_imul (pc' := 87) rfl rfl ?_
            refine j_iload_n (pc' := 88) rfl rfl rfl ?_
            refine j_aload_n (pc' := 89) rfl rfl rfl ?_
            refine j_get (pc' := 92) rfl rfl flX7_13 (gm_o g μ) (mF_3 μ) ?_
            refine j_iload_n (pc' := 93) rfl rfl rfl ?_
            obtain ⟨c93, hf⟩ := o_chk hf
            refine j_iald (pc' := 94) rfl rfl (gm_3 g μ) (vin_ok c93) ?_
            refine j_imul (pc' := 95) rfl rfl ?_
            obtain ⟨r95, e95, hf⟩ := o_bind hf
            refine j_s3 (pc' := 98) rfl rfl miX7_in lnX7_138 (s_X7_in (gm g μ) x4 (x3 * (μ.1 2 (x2).toNatClampNeg)) (x3 * (μ.1 3 (x2).toNatClampNeg)) _ e95) (h_rm_of rfl) (Nat.le_of_ble_eq_true rfl) (c' := 0) (s' := 0) rfl rfl ?_
            obtain ⟨c98, hf⟩ := o_chk hf
            have hf := Option.some.inj hf; subst hf
            exact j_zret rfl rfl (zb_ok c98) (Nat.zero_le _) (Nat.zero_le _) ⟨rfl, rfl⟩
          · rw [if_pos c72] at hf
            refine j_iload_n (pc' := 76) rfl rfl rfl ?_
            refine j_goto (tgt := 87) rfl rfl ?_
            refine j_iload_n (pc' := 88) rfl rfl rfl ?_
            refine j_aload_n (pc' := 89) rfl rfl rfl ?_
            refine j_get (pc' := 92) rfl rfl flX7_13 (gm_o g μ) (mF_3 μ) ?_
            refine j_iload_n (pc' := 93) rfl rfl rfl ?_
            obtain ⟨c93, hf⟩ := o_chk hf
            refine j_iald (pc' := 94) rfl rfl (gm_3 g μ) (vin_ok c93) ?_
            refine j_imul (pc' := 95) rfl rfl ?_
            obtain ⟨r95, e95, hf⟩ := o_bind hf
            refine j_s3 (pc' := 98) rfl rfl miX7_in lnX7_138 (s_X7_in (gm g μ) x4 x3 (x3 * (μ.1 3 (x2).toNatClampNeg)) _ e95) (h_rm_of rfl) (Nat.le_of_ble_eq_true rfl) (c' := 0) (s' := 0) rfl rfl ?_
            obtain ⟨c98, hf⟩ := o_chk hf
            have hf := Option.some.inj hf; subst hf
            exact j_zret rfl rfl (zb_ok c98) (Nat.zero_le _) (Nat.zero_le _) ⟨rfl, rfl⟩
      · rw [if_pos c41] at hf
        refine j_iload (pc' := 46) rfl rfl rfl ?_
        refine j_iload_n (pc' := 47) rfl rfl rfl ?_
        refine j_aload_n (pc' := 48) rfl rfl rfl ?_
        refine j_get (pc' := 51) rfl rfl flX7_13 (gm_o g μ) (mF_3 μ) ?_
        refine j_iload_n (pc' := 52) rfl rfl rfl ?_
        obtain ⟨c52, hf⟩ := o_chk hf
        refine j_iald (pc' := 53) rfl rfl (gm_3 g μ) (vin_ok c52) ?_
        refine j_imul (pc' := 54) rfl rfl ?_
        refine j_icmp_ne (tgt := 61) (pc' := 57) rfl rfl rfl (fun c54 => ?_) (fun c54 => ?_)
        · rw [if_neg c54] at hf
          refine j_iconst (v := 0) (pc' := 62) rfl rfl (by decide) ?_
          have hf := Option.some.inj hf; subst hf
          exact j_zret rfl rfl (by decide) (Nat.zero_le _) (Nat.zero_le _) ⟨rfl, rfl⟩
        · rw [if_pos c54] at hf
          refine j_iconst (v := 1) (pc' := 58) rfl rfl (by decide) ?_
          refine j_goto (tgt := 62) rfl rfl ?_
          have hf := Option.some.inj hf; subst hf
          exact j_zret rfl rfl (by decide) (Nat.zero_le _) (Nat.zero_le _) ⟨rfl, rfl⟩
    · rw [if_pos c34] at hf
      refine j_iconst (v := 0) (pc' := 38) rfl rfl (by decide) ?_
      have hf := Option.some.inj hf; subst hf
      exact j_zret rfl rfl (by decide) (Nat.zero_le _) (Nat.zero_le _) ⟨rfl, rfl⟩
  · rw [if_pos c2] at hf
    refine j_iload_n (pc' := 6) rfl rfl rfl ?_
    refine j_if_ne (tgt := 24) (pc' := 9) rfl rfl rfl (fun c6 => ?_) (fun c6 => ?_)
    · rw [if_neg c6] at hf
      refine j_iconst (v := 0) (pc' := 25) rfl rfl (by decide) ?_
      have hf := Option.some.inj hf; subst hf
      exact j_zret rfl rfl (by decide) (Nat.zero_le _) (Nat.zero_le _) ⟨rfl, rfl⟩
    · rw [if_pos c6] at hf
      refine j_iload (pc' := 11) rfl rfl rfl ?_
      refine j_iconst (v := 1) (pc' := 12) rfl rfl (by decide) ?_
      refine j_ldc (pc' := 14) rfl rfl kcX7_100 ?_
      obtain ⟨r14, e14, hf⟩ := o_bind hf
      refine j_s3 (pc' := 17) rfl rfl miX7_in lnX7_138 (s_X7_in (gm g μ) x4 1 100000 _ e14) (h_rm_of rfl) (Nat.le_of_ble_eq_true rfl) (c' := 0) (s' := 0) rfl rfl ?_
      refine j_if_eq (tgt := 24) (pc' := 20) rfl rfl rfl (fun c17 => ?_) (fun c17 => ?_)
      · rw [if_pos c17] at hf
        refine j_iconst (v := 0) (pc' := 25) rfl rfl (by decide) ?_
        have hf := Option.some.inj hf; subst hf
        exact j_zret rfl rfl (by decide) (Nat.zero_le _) (Nat.zero_le _) ⟨rfl, rfl⟩
      · rw [if_neg c17] at hf
        refine j_iconst (v := 1) (pc' := 21) rfl rfl (by decide) ?_
        refine j_goto (tgt := 25) rfl rfl ?_
        have hf := Option.some.inj hf; subst hf
        exact j_zret rfl rfl (by decide) (Nat.zero_le _) (Nat.zero_le _) ⟨rfl, rfl⟩
def rX7_newLot : Room := { frames := 0, cells := 0, slots := 0, locals := 0 }
def f_X7_newLot (μ : mS) (x1 : Int32) (x2 : Int32) (x3 : Int32) (x4 : Int32) (x5 : Int32) (x6 : Int32) (x7 : Int32) : Option (Int32 × mS) := bif vin (μ.1 7 0) 30 then letm (seti μ 8 (va_up (μ.1 8) ((μ.1 7 0)).toNatClampNeg x1)) fun μ9 => bif vin (μ9.1 7 0) 30 then letm (seti μ9 9 (va_up (μ9.1 9) ((μ9.1 7 0)).toNatClampNeg x2)) fun μ19 => bif vin (μ19.1 7 0) 30 then letm (seti μ19 10 (va_up (μ19.1 10) ((μ19.1 7 0)).toNatClampNeg x3)) fun μ29 => bif vin (μ29.1 7 0) 30 then letm (seti μ29 11 (va_up (μ29.1 11) ((μ29.1 7 0)).toNatClampNeg x4)) fun μ40 => bif vin (μ40.1 7 0) 30 then letm (seti μ40 12 (va_up (μ40.1 12) ((μ40.1 7 0)).toNatClampNeg x5)) fun μ51 => bif vin (μ51.1 7 0) 30 then letm (seti μ51 13 (va_up (μ51.1 13) ((μ51.1 7 0)).toNatClampNeg x6)) fun μ62 => bif vin (μ62.1 7 0) 30 then letm (seti μ62 14 (va_up (μ62.1 14) ((μ62.1 7 0)).toNatClampNeg x7)) fun μ73 => bif vin (μ73.1 7 0) 30 then letm (seti μ73 15 (va_up (μ73.1 15) ((μ73.1 7 0)).toNatClampNeg (-1))) fun μ83 => letm (seti μ83 7 (fun _ => ((μ83.1 7 0) + 1))) fun μ91 => some (((μ91.1 7 0) - 1), μ91) else none else none else none else none else none else none else none else none
set_option maxHeartbeats 4000000 in
set_option maxRecDepth 100000 in
theorem s_X7_newLot (g : hH) (μ : mS) (x1 : Int32) (x2 : Int32) (x3 : Int32) (x4 : Int32) (x5 : Int32) (x6 : Int32) (x7 : Int32) (r : (Int32 × mS)) (hf : f_X7_newLot μ x1 x2 x3 x4 x5 x6 x7 = some r) : SpD mX7_newLot rX7_newLot [.ref 5000, .int x1, .int x2, .int x3, .int x4, .int x5, .int x6, .int x7] (gm g μ) (some (.int r.1)) (gm g r.2) := by
  refine sp_of miX7_newLot (Nat.le_of_ble_eq_true rfl) ?_
  show J _ _ _ 0 0 _ 0 [(0, .ref 5000), (1, .int x1), (2, .int x2), (3, .int x3), (4, .int x4), (5, .int x5), (6, .int x6), (7, .int x7)] []
  unfold f_X7_newLot at hf
  refine j_aload_n (pc' := 1) rfl rfl rfl ?_
  refine j_get (pc' := 4) rfl rfl flX7_22 (gm_o g μ) (mF_8 μ) ?_
  refine j_aload_n (pc' := 5) rfl rfl rfl ?_
  refine j_get (pc' := 8) rfl rfl flX7_142 (gm_o g μ) (mF_7 μ) ?_
  refine j_iload_n (pc' := 9) rfl rfl rfl ?_
  obtain ⟨c9, hf⟩ := o_chk hf
  obtain ⟨μ9, e9, hf⟩ := o_let hf
  refine j_iast (pc' := 10) rfl rfl (gm_8 g μ) (by decide) (vin_ok c9) ?_
  rw [gs_8]; rw [e9]
  refine j_aload_n (pc' := 11) rfl rfl rfl ?_
  refine j_get (pc' := 14) rfl rfl flX7_25 (gm_o g μ9) (mF_9 μ9) ?_
  refine j_aload_n (pc' := 15) rfl rfl rfl ?_
  refine j_get (pc' := 18) rfl rfl flX7_142 (gm_o g μ9) (mF_7 μ9) ?_
  refine j_iload_n (pc' := 19) rfl rfl rfl ?_
  obtain ⟨c19, hf⟩ := o_chk hf
  obtain ⟨μ19, e19, hf⟩ := o_let hf
  refine j_iast (pc' := 20) rfl rfl (gm_9 g μ9) (by decide) (vin_ok c19) ?_
  rw [gs_9]; rw [e19]
  refine j_aload_n (pc' := 21) rfl rfl rfl ?_
  refine j_get (pc' := 24) rfl rfl flX7_28 (gm_o g μ19) (mF_10 μ19) ?_
  refine j_aload_n (pc' := 25) rfl rfl rfl ?_
  refine j_get (pc' := 28) rfl rfl flX7_142 (gm_o g μ19) (mF_7 μ19) ?_
  refine j_iload_n (pc' := 29) rfl rfl rfl ?_
  obtain ⟨c29, hf⟩ := o_chk hf
  obtain ⟨μ29, e29, hf⟩ := o_let hf
  refine j_iast (pc' := 30) rfl rfl (gm_10 g μ19) (by decide) (vin_ok c29) ?_
  rw [gs_10]; rw [e29]
  refine j_aload_n (pc' := 31) rfl rfl rfl ?_
  refine j_get (pc' := 34) rfl rfl flX7_31 (gm_o g μ29) (mF_11 μ29) ?_
  refine j_aload_n (pc' := 35) rfl rfl rfl ?_
  refine j_get (pc' := 38) rfl rfl flX7_142 (gm_o g μ29) (mF_7 μ29) ?_
  refine j_iload (pc' := 40) rfl rfl rfl ?_
  obtain ⟨c40, hf⟩ := o_chk hf
  obtain ⟨μ40, e40, hf⟩ := o_let hf
  refine j_iast (pc' := 41) rfl rfl (gm_11 g μ29) (by decide) (vin_ok c40) ?_
  rw [gs_11]; rw [e40]
  refine j_aload_n (pc' := 42) rfl rfl rfl ?_
  refine j_get (pc' := 45) rfl rfl flX7_34 (gm_o g μ40) (mF_12 μ40) ?_
  refine j_aload_n (pc' := 46) rfl rfl rfl ?_
  refine j_get (pc' := 49) rfl rfl flX7_142 (gm_o g μ40) (mF_7 μ40) ?_
  refine j_iload (pc' := 51) rfl rfl rfl ?_
  obtain ⟨c51, hf⟩ := o_chk hf
  obtain ⟨μ51, e51, hf⟩ := o_let hf
  refine j_iast (pc' := 52) rfl rfl (gm_12 g μ40) (by decide) (vin_ok c51) ?_
  rw [gs_12]; rw [e51]
  refine j_aload_n (pc' := 53) rfl rfl rfl ?_
  refine j_get (pc' := 56) rfl rfl flX7_37 (gm_o g μ51) (mF_13 μ51) ?_
  refine j_aload_n (pc' := 57) rfl rfl rfl ?_
  refine j_get (pc' := 60) rfl rfl flX7_142 (gm_o g μ51) (mF_7 μ51) ?_
  refine j_iload (pc' := 62) rfl rfl rfl ?_
  obtain ⟨c62, hf⟩ := o_chk hf
  obtain ⟨μ62, e62, hf⟩ := o_let hf
  refine j_iast (pc' := 63) rfl rfl (gm_13 g μ51) (by decide) (vin_ok c62) ?_
  rw [gs_13]; rw [e62]
  refine j_aload_n (pc' := 64) rfl rfl rfl ?_
  refine j_get (pc' := 67) rfl rfl flX7_40 (gm_o g μ62) (mF_14 μ62) ?_
  refine j_aload_n (pc' := 68) rfl rfl rfl ?_
  refine j_get (pc' := 71) rfl rfl flX7_142 (gm_o g μ62) (mF_7 μ62) ?_
  refine j_iload (pc' := 73) rfl rfl rfl ?_
  obtain ⟨c73, hf⟩ := o_chk hf
  obtain ⟨μ73, e73, hf⟩ := o_let hf
  refine j_iast (pc' := 74) rfl rfl (gm_14 g μ62) (by decide) (vin_ok c73) ?_
  rw [gs_14]; rw [e73]
  refine j_aload_n (pc' := 75) rfl rfl rfl ?_
  refine j_get (pc' := 78) rfl rfl flX7_43 (gm_o g μ73) (mF_15 μ73) ?_
  refine j_aload_n (pc' := 79) rfl rfl rfl ?_
  refine j_get (pc' := 82) rfl rfl flX7_142 (gm_o g μ73) (mF_7 μ73) ?_
  refine j_iconst (v := (-1)) (pc' := 83) rfl rfl (by decide) ?_
  obtain ⟨c83, hf⟩ := o_chk hf
  obtain ⟨μ83, e83, hf⟩ := o_let hf
  refine j_iast (pc' := 84) rfl rfl (gm_15 g μ73) (by decide) (vin_ok c83) ?_
  rw [gs_15]; rw [e83]
  refine j_aload_n (pc' := 85) rfl rfl rfl ?_
  refine j_dup (pc' := 86) rfl rfl rfl ?_
  refine j_get (pc' := 89) rfl rfl flX7_142 (gm_o g μ83) (mF_7 μ83) ?_
  refine j_iconst (v := 1) (pc' := 90) rfl rfl (by decide) ?_
  refine j_iadd (pc' := 91) rfl rfl ?_
  obtain ⟨μ91, e91, hf⟩ := o_let hf
  refine j_put (pc' := 94) rfl rfl flX7_142 (gm_o g μ83) (by decide) (Nat.le_of_ble_eq_true rfl) rfl rfl ?_
  rw [gs_7]; rw [e91]
  refine j_aload_n (pc' := 95) rfl rfl rfl ?_
  refine j_get (pc' := 98) rfl rfl flX7_142 (gm_o g μ91) (mF_7 μ91) ?_
  refine j_iconst (v := 1) (pc' := 99) rfl rfl (by decide) ?_
  refine j_isub (pc' := 100) rfl rfl ?_
  have hf := Option.some.inj hf; subst hf
  exact j_iret rfl rfl (Nat.zero_le _) (Nat.zero_le _) ⟨rfl, rfl⟩
def rX7_fine : Room := { frames := 0, cells := 0, slots := 0, locals := 0 }
def f_X7_fine (μ : mS) (x1 : Int32) : Option Int32 := bif vin x1 30 then if (μ.1 8 (x1).toNatClampNeg) = 3 then bif vin x1 30 then some (μ.1 12 (x1).toNatClampNeg) else none else bif vin x1 30 then if (μ.1 8 (x1).toNatClampNeg) = 5 then bif vin x1 30 then some (μ.1 12 (x1).toNatClampNeg) else none else bif vin x1 30 then bif vin (μ.1 9 (x1).toNatClampNeg) 8 then some (μ.1 4 ((μ.1 9 (x1).toNatClampNeg)).toNatClampNeg) else none else none else none else none
set_option maxHeartbeats 4000000 in
set_option maxRecDepth 100000 in
theorem s_X7_fine (g : hH) (μ : mS) (x1 : Int32) (r : Int32) (hf : f_X7_fine μ x1 = some r) : SpD mX7_fine rX7_fine [.ref 5000, .int x1] (gm g μ) (some (.int r)) (gm g μ) := by
  refine sp_of miX7_fine (Nat.le_of_ble_eq_true rfl) ?_
  show J _ _ _ 0 0 _ 0 [(0, .ref 5000), (1, .int x1)] []
  unfold f_X7_fine at hf
  refine j_aload_n (pc' := 1) rfl rfl rfl ?_
  refine j_get (pc' := 4) rfl rfl flX7_22 (gm_o g μ) (mF_8 μ) ?_
  refine j_iload_n (pc' := 5) rfl rfl rfl ?_
  obtain ⟨c5, hf⟩ := o_chk hf
  refine j_iald (pc' := 6) rfl rfl (gm_8 g μ) (vin_ok c5) ?_
  refine j_iconst (v := 3) (pc' := 7) rfl rfl (by decide) ?_
  refine j_icmp_eq (tgt := 20) (pc' := 10) rfl rfl rfl (fun c7 => ?_) (fun c7 => ?_)
  · rw [if_pos c7] at hf
    refine j_aload_n (pc' := 21) rfl rfl rfl ?_
    refine j_get (pc' := 24) rfl rfl flX7_34 (gm_o g μ) (mF_12 μ) ?_
    refine j_iload_n (pc' := 25) rfl rfl rfl ?_
    obtain ⟨c25, hf⟩ := o_chk hf
    refine j_iald (pc' := 26) rfl rfl (gm_12 g μ) (vin_ok c25) ?_
    refine j_goto (tgt := 40) rfl rfl ?_
    have hf := Option.some.inj hf; subst hf
    exact j_iret rfl rfl (Nat.zero_le _) (Nat.zero_le _) ⟨rfl, rfl⟩
  · rw [if_neg c7] at hf
    refine j_aload_n (pc' := 11) rfl rfl rfl ?_
    refine j_get (pc' := 14) rfl rfl flX7_22 (gm_o g μ) (mF_8 μ) ?_
    refine j_iload_n (pc' := 15) rfl rfl rfl ?_
    obtain ⟨c15, hf⟩ := o_chk hf
    refine j_iald (pc' := 16) rfl rfl (gm_8 g μ) (vin_ok c15) ?_
    refine j_iconst (v := 5) (pc' := 17) rfl rfl (by decide) ?_
    refine j_icmp_ne (tgt := 29) (pc' := 20) rfl rfl rfl (fun c17 => ?_) (fun c17 => ?_)
    · rw [if_neg c17] at hf
      refine j_aload_n (pc' := 30) rfl rfl rfl ?_
      refine j_get (pc' := 33) rfl rfl flX7_16 (gm_o g μ) (mF_4 μ) ?_
      refine j_aload_n (pc' := 34) rfl rfl rfl ?_
      refine j_get (pc' := 37) rfl rfl flX7_25 (gm_o g μ) (mF_9 μ) ?_
      refine j_iload_n (pc' := 38) rfl rfl rfl ?_
      obtain ⟨c38, hf⟩ := o_chk hf
      refine j_iald (pc' := 39) rfl rfl (gm_9 g μ) (vin_ok c38) ?_
      obtain ⟨c39, hf⟩ := o_chk hf
      refine j_iald (pc' := 40) rfl rfl (gm_4 g μ) (vin_ok c39) ?_
      have hf := Option.some.inj hf; subst hf
      exact j_iret rfl rfl (Nat.zero_le _) (Nat.zero_le _) ⟨rfl, rfl⟩
    · rw [if_pos c17] at hf
      refine j_aload_n (pc' := 21) rfl rfl rfl ?_
      refine j_get (pc' := 24) rfl rfl flX7_34 (gm_o g μ) (mF_12 μ) ?_
      refine j_iload_n (pc' := 25) rfl rfl rfl ?_
      obtain ⟨c25, hf⟩ := o_chk hf
      refine j_iald (pc' := 26) rfl rfl (gm_12 g μ) (vin_ok c25) ?_
      refine j_goto (tgt := 40) rfl rfl ?_
      have hf := Option.some.inj hf; subst hf
      exact j_iret rfl rfl (Nat.zero_le _) (Nat.zero_le _) ⟨rfl, rfl⟩
def rX7_silverOf : Room := { frames := 1, cells := 0, slots := 0, locals := 21 }
def f_X7_silverOf (μ : mS) (x1 : Int32) : Option Int64 := bif vin x1 30 then (f_X7_fine μ x1).bind fun r9 => some (((μ.1 11 (x1).toNatClampNeg)).toInt64 * (r9).toInt64) else none
set_option maxHeartbeats 4000000 in
set_option maxRecDepth 100000 in
theorem s_X7_silverOf (g : hH) (μ : mS) (x1 : Int32) (r : Int64) (hf : f_X7_silverOf μ x1 = some r) : SpD mX7_silverOf rX7_silverOf [.ref 5000, .int x1] (gm g μ) (some (.long r)) (gm g μ) := by
  refine sp_of miX7_silverOf (Nat.le_of_ble_eq_true rfl) ?_
  show J _ _ _ 0 0 _ 0 [(0, .ref 5000), (1, .int x1)] []
  unfold f_X7_silverOf at hf
  refine j_aload_n (pc' := 1) rfl rfl rfl ?_
  refine j_get (pc' := 4) rfl rfl flX7_31 (gm_o g μ) (mF_11 μ) ?_
  refine j_iload_n (pc' := 5) rfl rfl rfl ?_
  obtain ⟨c5, hf⟩ := o_chk hf
  refine j_iald (pc' := 6) rfl rfl (gm_11 g μ) (vin_ok c5) ?_
  refine j_i2l (pc' := 7) rfl rfl ?_
  refine j_aload_n (pc' := 8) rfl rfl rfl ?_
  refine j_iload_n (pc' := 9) rfl rfl rfl ?_
  obtain ⟨r9, e9, hf⟩ := o_bind hf
  refine j_v1 (pc' := 12) rfl rfl miX7_fine lnX7_163 (gm_o g μ) rfl (s_X7_fine g μ x1 _ e9) (h_rm_of rfl) (Nat.le_of_ble_eq_true rfl) (c' := 0) (s' := 0) rfl rfl ?_
  refine j_i2l (pc' := 13) rfl rfl ?_
  refine j_lmul (pc' := 14) rfl rfl ?_
  have hf := Option.some.inj hf; subst hf
  exact j_lret rfl rfl (Nat.zero_le _) (Nat.zero_le _) ⟨rfl, rfl⟩
def rX7_isUnderWay : Room := { frames := 0, cells := 0, slots := 0, locals := 0 }
def f_X7_isUnderWay (μ : mS) (x1 : Int32) : Option Int32 := bif vin x1 30 then if (μ.1 15 (x1).toNatClampNeg) ≤ (μ.1 6 0) then some 0 else some 1 else none
set_option maxHeartbeats 4000000 in
set_option maxRecDepth 100000 in
theorem s_X7_isUnderWay (g : hH) (μ : mS) (x1 : Int32) (r : Int32) (hf : f_X7_isUnderWay μ x1 = some r) : SpD mX7_isUnderWay rX7_isUnderWay [.ref 5000, .int x1] (gm g μ) (some (.int r)) (gm g μ) := by
  refine sp_of miX7_isUnderWay (Nat.le_of_ble_eq_true rfl) ?_
  show J _ _ _ 0 0 _ 0 [(0, .ref 5000), (1, .int x1)] []
  unfold f_X7_isUnderWay at hf
  refine j_aload_n (pc' := 1) rfl rfl rfl ?_
  refine j_get (pc' := 4) rfl rfl flX7_43 (gm_o g μ) (mF_15 μ) ?_
  refine j_iload_n (pc' := 5) rfl rfl rfl ?_
  obtain ⟨c5, hf⟩ := o_chk hf
  refine j_iald (pc' := 6) rfl rfl (gm_15 g μ) (vin_ok c5) ?_
  refine j_aload_n (pc' := 7) rfl rfl rfl ?_
  refine j_get (pc' := 10) rfl rfl flX7_167 (gm_o g μ) (mF_6 μ) ?_
  refine j_icmp_le (tgt := 17) (pc' := 13) rfl rfl rfl (fun c10 => ?_) (fun c10 => ?_)
  · rw [if_pos c10] at hf
    refine j_iconst (v := 0) (pc' := 18) rfl rfl (by decide) ?_
    have hf := Option.some.inj hf; subst hf
    exact j_zret rfl rfl (by decide) (Nat.zero_le _) (Nat.zero_le _) ⟨rfl, rfl⟩
  · rw [if_neg c10] at hf
    refine j_iconst (v := 1) (pc' := 14) rfl rfl (by decide) ?_
    refine j_goto (tgt := 18) rfl rfl ?_
    have hf := Option.some.inj hf; subst hf
    exact j_zret rfl rfl (by decide) (Nat.zero_le _) (Nat.zero_le _) ⟨rfl, rfl⟩
def rX7_takes : Room := { frames := 0, cells := 0, slots := 0, locals := 0 }
def f_X7_takes (μ : mS) (x1 : Int32) : Option (Int32 × mS) := if (μ.1 26 0) = (μ.1 20 0) then some (0, μ) else bif vin (μ.1 26 0) 160 then if (μ.1 19 ((μ.1 26 0)).toNatClampNeg) = x1 then letm (seti μ 26 (fun _ => ((μ.1 26 0) + 1))) fun μ33 => some (1, μ33) else some (0, μ) else none
set_option maxHeartbeats 4000000 in
set_option maxRecDepth 100000 in
theorem s_X7_takes (g : hH) (μ : mS) (x1 : Int32) (r : (Int32 × mS)) (hf : f_X7_takes μ x1 = some r) : SpD mX7_takes rX7_takes [.ref 5000, .int x1] (gm g μ) (some (.int r.1)) (gm g r.2) := by
  refine sp_of miX7_takes (Nat.le_of_ble_eq_true rfl) ?_
  show J _ _ _ 0 0 _ 0 [(0, .ref 5000), (1, .int x1)] []
  unfold f_X7_takes at hf
  refine j_aload_n (pc' := 1) rfl rfl rfl ?_
  refine j_get (pc' := 4) rfl rfl flX7_182 (gm_o g μ) (mF_26 μ) ?_
  refine j_aload_n (pc' := 5) rfl rfl rfl ?_
  refine j_get (pc' := 8) rfl rfl flX7_179 (gm_o g μ) (mF_20 μ) ?_
  refine j_icmp_eq (tgt := 24) (pc' := 11) rfl rfl rfl (fun c8 => ?_) (fun c8 => ?_)
  · rw [if_pos c8] at hf
    refine j_iconst (v := 0) (pc' := 25) rfl rfl (by decide) ?_
    have hf := Option.some.inj hf; subst hf
    exact j_zret rfl rfl (by decide) (Nat.zero_le _) (Nat.zero_le _) ⟨rfl, rfl⟩
  · rw [if_neg c8] at hf
    refine j_aload_n (pc' := 12) rfl rfl rfl ?_
    refine j_get (pc' := 15) rfl rfl flX7_56 (gm_o g μ) (mF_19 μ) ?_
    refine j_aload_n (pc' := 16) rfl rfl rfl ?_
    refine j_get (pc' := 19) rfl rfl flX7_182 (gm_o g μ) (mF_26 μ) ?_
    obtain ⟨c19, hf⟩ := o_chk hf
    refine j_bald (pc' := 20) rfl rfl (gm_19 g μ) (vin_ok c19) ?_
    refine j_iload_n (pc' := 21) rfl rfl rfl ?_
    refine j_icmp_eq (tgt := 26) (pc' := 24) rfl rfl rfl (fun c21 => ?_) (fun c21 => ?_)
    · rw [if_pos c21] at hf
      refine j_aload_n (pc' := 27) rfl rfl rfl ?_
      refine j_dup (pc' := 28) rfl rfl rfl ?_
      refine j_get (pc' := 31) rfl rfl flX7_182 (gm_o g μ) (mF_26 μ) ?_
      refine j_iconst (v := 1) (pc' := 32) rfl rfl (by decide) ?_
      refine j_iadd (pc' := 33) rfl rfl ?_
      obtain ⟨μ33, e33, hf⟩ := o_let hf
      refine j_put (pc' := 36) rfl rfl flX7_182 (gm_o g μ) (by decide) (Nat.le_of_ble_eq_true rfl) rfl rfl ?_
      rw [gs_26]; rw [e33]
      refine j_iconst (v := 1) (pc' := 37) rfl rfl (by decide) ?_
      have hf := Option.some.inj hf; subst hf
      exact j_zret rfl rfl (by decide) (Nat.zero_le _) (Nat.zero_le _) ⟨rfl, rfl⟩
    · rw [if_neg c21] at hf
      refine j_iconst (v := 0) (pc' := 25) rfl rfl (by decide) ?_
      have hf := Option.some.inj hf; subst hf
      exact j_zret rfl rfl (by decide) (Nat.zero_le _) (Nat.zero_le _) ⟨rfl, rfl⟩
def rX7_digitAt : Room := { frames := 0, cells := 0, slots := 0, locals := 0 }
def f_X7_digitAt (μ : mS) (x1 : Int32) : Option Int32 := if (μ.1 20 0) ≤ (μ.1 26 0) then some 0 else bif vin (μ.1 26 0) 160 then if (μ.1 19 ((μ.1 26 0)).toNatClampNeg) < x1 then some 0 else bif vin (μ.1 26 0) 160 then if 57 < (μ.1 19 ((μ.1 26 0)).toNatClampNeg) then some 0 else some 1 else none else none
set_option maxHeartbeats 4000000 in
set_option maxRecDepth 100000 in
theorem s_X7_digitAt (g : hH) (μ : mS) (x1 : Int32) (r : Int32) (hf : f_X7_digitAt μ x1 = some r) : SpD mX7_digitAt rX7_digitAt [.ref 5000, .int x1] (gm g μ) (some (.int r)) (gm g μ) := by
  refine sp_of miX7_digitAt (Nat.le_of_ble_eq_true rfl) ?_
  show J _ _ _ 0 0 _ 0 [(0, .ref 5000), (1, .int x1)] []
  unfold f_X7_digitAt at hf
  refine j_aload_n (pc' := 1) rfl rfl rfl ?_
  refine j_get (pc' := 4) rfl rfl flX7_182 (gm_o g μ) (mF_26 μ) ?_
  refine j_aload_n (pc' := 5) rfl rfl rfl ?_
  refine j_get (pc' := 8) rfl rfl flX7_179 (gm_o g μ) (mF_20 μ) ?_
  refine j_icmp_ge (tgt := 42) (pc' := 11) rfl rfl rfl (fun c8 => ?_) (fun c8 => ?_)
  · rw [if_pos c8] at hf
    refine j_iconst (v := 0) (pc' := 43) rfl rfl (by decide) ?_
    have hf := Option.some.inj hf; subst hf
    exact j_zret rfl rfl (by decide) (Nat.zero_le _) (Nat.zero_le _) ⟨rfl, rfl⟩
  · rw [if_neg c8] at hf
    refine j_aload_n (pc' := 12) rfl rfl rfl ?_
    refine j_get (pc' := 15) rfl rfl flX7_56 (gm_o g μ) (mF_19 μ) ?_
    refine j_aload_n (pc' := 16) rfl rfl rfl ?_
    refine j_get (pc' := 19) rfl rfl flX7_182 (gm_o g μ) (mF_26 μ) ?_
    obtain ⟨c19, hf⟩ := o_chk hf
    refine j_bald (pc' := 20) rfl rfl (gm_19 g μ) (vin_ok c19) ?_
    refine j_iload_n (pc' := 21) rfl rfl rfl ?_
    refine j_icmp_lt (tgt := 42) (pc' := 24) rfl rfl rfl (fun c21 => ?_) (fun c21 => ?_)
    · rw [if_pos c21] at hf
      refine j_iconst (v := 0) (pc' := 43) rfl rfl (by decide) ?_
      have hf := Option.some.inj hf; subst hf
      exact j_zret rfl rfl (by decide) (Nat.zero_le _) (Nat.zero_le _) ⟨rfl, rfl⟩
    · rw [if_neg c21] at hf
      refine j_aload_n (pc' := 25) rfl rfl rfl ?_
      refine j_get (pc' := 28) rfl rfl flX7_56 (gm_o g μ) (mF_19 μ) ?_
      refine j_aload_n (pc' := 29) rfl rfl rfl ?_
      refine j_get (pc' := 32) rfl rfl flX7_182 (gm_o g μ) (mF_26 μ) ?_
      obtain ⟨c32, hf⟩ := o_chk hf
      refine j_bald (pc' := 33) rfl rfl (gm_19 g μ) (vin_ok c32) ?_
      refine j_bipush (v := 57) (pc' := 35) rfl rfl (by decide) ?_
      refine j_icmp_gt (tgt := 42) (pc' := 38) rfl rfl rfl (fun c35 => ?_) (fun c35 => ?_)
      · rw [if_pos c35] at hf
        refine j_iconst (v := 0) (pc' := 43) rfl rfl (by decide) ?_
        have hf := Option.some.inj hf; subst hf
        exact j_zret rfl rfl (by decide) (Nat.zero_le _) (Nat.zero_le _) ⟨rfl, rfl⟩
      · rw [if_neg c35] at hf
        refine j_iconst (v := 1) (pc' := 39) rfl rfl (by decide) ?_
        refine j_goto (tgt := 43) rfl rfl ?_
        have hf := Option.some.inj hf; subst hf
        exact j_zret rfl rfl (by decide) (Nat.zero_le _) (Nat.zero_le _) ⟨rfl, rfl⟩
def rX7_takesNumber : Room := { frames := 1, cells := 0, slots := 0, locals := 21 }
def f_X7_takesNumber_L17 : Nat → mS → Int32 → Int32 → Option (mS)
  | 0, _, _, _ => none
  | n + 1, μ, x1, x3 => if x1 ≤ x3 then some (μ) else (f_X7_digitAt μ 48).bind fun r25 => if r25 = 0 then some (μ) else bif vin (μ.1 26 0) 160 then letm (seti μ 27 (fun _ => (((10 * (μ.1 27 0)) + (μ.1 19 ((μ.1 26 0)).toNatClampNeg)) - 48))) fun μ52 => letm (seti μ52 26 (fun _ => ((μ52.1 26 0) + 1))) fun μ62 => f_X7_takesNumber_L17 n μ62 x1 (x3 + 1) else none
set_option maxHeartbeats 4000000 in
set_option maxRecDepth 100000 in
theorem s_X7_takesNumber_L17 {Q : Option Value → hH → Prop} (g : hH) : ∀ (n : Nat) (μ : mS) (x1 : Int32) (x3 : Int32) (r : mS), f_X7_takesNumber_L17 n μ x1 x3 = some r → (J mX7_takesNumber rX7_takesNumber Q 0 0 (gm g r) 71 [] []) → J mX7_takesNumber rX7_takesNumber Q 0 0 (gm g μ) 17 [(0, .ref 5000), (1, .int x1), (3, .int x3)] [] := by
  intro n
  induction n with
  | zero =>
    intro μ x1 x3 r hf
    cases hf
  | succ n ih =>
    intro μ x1 x3 r hf k0
    rw [f_X7_takesNumber_L17] at hf
    refine j_iload_n (pc' := 18) rfl rfl rfl ?_
    refine j_iload_n (pc' := 19) rfl rfl rfl ?_
    refine j_icmp_ge (tgt := 71) (pc' := 22) rfl rfl rfl (fun c19 => ?_) (fun c19 => ?_)
    · rw [if_pos c19] at hf
      have hf := Option.some.inj hf; subst hf
      exact j_sub (ls' := []) trivial (k0)
    · rw [if_neg c19] at hf
      refine j_aload_n (pc' := 23) rfl rfl rfl ?_
      refine j_bipush (v := 48) (pc' := 25) rfl rfl (by decide) ?_
      obtain ⟨r25, e25, hf⟩ := o_bind hf
      refine j_v1 (pc' := 28) rfl rfl miX7_digitAt lnX7_185 (gm_o g μ) rfl (s_X7_digitAt g μ 48 _ e25) (h_rm_of rfl) (Nat.le_of_ble_eq_true rfl) (c' := 0) (s' := 0) rfl rfl ?_
      refine j_if_eq (tgt := 71) (pc' := 31) rfl rfl rfl (fun c28 => ?_) (fun c28 => ?_)
      · rw [if_pos c28] at hf
        have hf := Option.some.inj hf; subst hf
        exact j_sub (ls' := []) trivial (k0)
      · rw [if_neg c28] at hf
        refine j_aload_n (pc' := 32) rfl rfl rfl ?_
        refine j_bipush (v := 10) (pc' := 34) rfl rfl (by decide) ?_
        refine j_aload_n (pc' := 35) rfl rfl rfl ?_
        refine j_get (pc' := 38) rfl rfl flX7_188 (gm_o g μ) (mF_27 μ) ?_
        refine j_imul (pc' := 39) rfl rfl ?_
        refine j_aload_n (pc' := 40) rfl rfl rfl ?_
        refine j_get (pc' := 43) rfl rfl flX7_56 (gm_o g μ) (mF_19 μ) ?_
        refine j_aload_n (pc' := 44) rfl rfl rfl ?_
        refine j_get (pc' := 47) rfl rfl flX7_182 (gm_o g μ) (mF_26 μ) ?_
        obtain ⟨c47, hf⟩ := o_chk hf
        refine j_bald (pc' := 48) rfl rfl (gm_19 g μ) (vin_ok c47) ?_
        refine j_iadd (pc' := 49) rfl rfl ?_
        refine j_bipush (v := 48) (pc' := 51) rfl rfl (by decide) ?_
        refine j_isub (pc' := 52) rfl rfl ?_
        obtain ⟨μ52, e52, hf⟩ := o_let hf
        refine j_put (pc' := 55) rfl rfl flX7_188 (gm_o g μ) (by decide) (Nat.le_of_ble_eq_true rfl) rfl rfl ?_
        rw [gs_27]; rw [e52]
        refine j_aload_n (pc' := 56) rfl rfl rfl ?_
        refine j_dup (pc' := 57) rfl rfl rfl ?_
        refine j_get (pc' := 60) rfl rfl flX7_182 (gm_o g μ52) (mF_26 μ52) ?_
        refine j_iconst (v := 1) (pc' := 61) rfl rfl (by decide) ?_
        refine j_iadd (pc' := 62) rfl rfl ?_
        obtain ⟨μ62, e62, hf⟩ := o_let hf
        refine j_put (pc' := 65) rfl rfl flX7_182 (gm_o g μ52) (by decide) (Nat.le_of_ble_eq_true rfl) rfl rfl ?_
        rw [gs_26]; rw [e62]
        refine j_iinc (pc' := 68) (d := 1) (ls' := [(3, _), (0, _), (1, _)]) rfl rfl rfl (by decide) (Nat.le_of_ble_eq_true rfl) rfl ?_
        refine j_goto (tgt := 17) rfl rfl ?_
        refine j_sub (ls' := [(0, .ref 5000), (1, .int _), (3, .int _)]) ⟨rfl, rfl, rfl, trivial⟩ ?_
        exact ih _ _ _ _ hf k0
def f_X7_takesNumber (μ : mS) (x1 : Int32) (x2 : Int32) : Option (Int32 × mS) := (f_X7_digitAt μ x2).bind fun r2 => if r2 = 0 then some (0, μ) else letm (seti μ 27 (fun _ => 0)) fun μ12 => (f_X7_takesNumber_L17 4000 μ12 x1 0).bind fun r17 => some (1, r17)
set_option maxHeartbeats 4000000 in
set_option maxRecDepth 100000 in
theorem s_X7_takesNumber (g : hH) (μ : mS) (x1 : Int32) (x2 : Int32) (r : (Int32 × mS)) (hf : f_X7_takesNumber μ x1 x2 = some r) : SpD mX7_takesNumber rX7_takesNumber [.ref 5000, .int x1, .int x2] (gm g μ) (some (.int r.1)) (gm g r.2) := by
  refine sp_of miX7_takesNumber (Nat.le_of_ble_eq_true rfl) ?_
  show J _ _ _ 0 0 _ 0 [(0, .ref 5000), (1, .int x1), (2, .int x2)] []
  unfold f_X7_takesNumber at hf
  refine j_aload_n (pc' := 1) rfl rfl rfl ?_
  refine j_iload_n (pc' := 2) rfl rfl rfl ?_
  obtain ⟨r2, e2, hf⟩ := o_bind hf
  refine j_v1 (pc' := 5) rfl rfl miX7_digitAt lnX7_185 (gm_o g μ) rfl (s_X7_digitAt g μ x2 _ e2) (h_rm_of rfl) (Nat.le_of_ble_eq_true rfl) (c' := 0) (s' := 0) rfl rfl ?_
  refine j_if_ne (tgt := 10) (pc' := 8) rfl rfl rfl (fun c5 => ?_) (fun c5 => ?_)
  · rw [if_neg c5] at hf
    refine j_aload_n (pc' := 11) rfl rfl rfl ?_
    refine j_iconst (v := 0) (pc' := 12) rfl rfl (by decide) ?_
    obtain ⟨μ12, e12, hf⟩ := o_let hf
    refine j_put (pc' := 15) rfl rfl flX7_188 (gm_o g μ) (by decide) (Nat.le_of_ble_eq_true rfl) rfl rfl ?_
    rw [gs_27]; rw [e12]
    refine j_iconst (v := 0) (pc' := 16) rfl rfl (by decide) ?_
    refine j_istore_n (pc' := 17) (ls' := [(3, _), (0, _), (1, _), (2, _)]) rfl rfl (Nat.le_of_ble_eq_true rfl) rfl ?_
    obtain ⟨r17, e17, hf⟩ := o_bind hf
    refine j_sub (ls' := [(0, .ref 5000), (1, .int x1), (3, .int 0)]) ⟨rfl, rfl, rfl, trivial⟩ ?_
    refine s_X7_takesNumber_L17 g _ _ _ _ _ e17 ?_
    refine j_iconst (v := 1) (pc' := 72) rfl rfl (by decide) ?_
    have hf := Option.some.inj hf; subst hf
    exact j_zret rfl rfl (by decide) (Nat.zero_le _) (Nat.zero_le _) ⟨rfl, rfl⟩
  · rw [if_pos c5] at hf
    refine j_iconst (v := 0) (pc' := 9) rfl rfl (by decide) ?_
    have hf := Option.some.inj hf; subst hf
    exact j_zret rfl rfl (by decide) (Nat.zero_le _) (Nat.zero_le _) ⟨rfl, rfl⟩
def rX7_takesIs : Room := { frames := 1, cells := 0, slots := 0, locals := 21 }
def f_X7_takesIs (μ : mS) : Option (Int32 × mS) := (f_X7_takes μ 32).bind fun r3 => if r3.1 = 0 then some (0, r3.2) else (f_X7_takes r3.2 105).bind fun r12 => if r12.1 = 0 then some (0, r12.2) else (f_X7_takes r12.2 115).bind fun r21 => if r21.1 = 0 then some (0, r21.2) else (f_X7_takes r21.2 32).bind fun r30 => if r30.1 = 0 then some (0, r30.2) else some (1, r30.2)
set_option maxHeartbeats 4000000 in
set_option maxRecDepth 100000 in
theorem s_X7_takesIs (g : hH) (μ : mS) (r : (Int32 × mS)) (hf : f_X7_takesIs μ = some r) : SpD mX7_takesIs rX7_takesIs [.ref 5000] (gm g μ) (some (.int r.1)) (gm g r.2) := by
  refine sp_of miX7_takesIs (Nat.le_of_ble_eq_true rfl) ?_
  show J _ _ _ 0 0 _ 0 [(0, .ref 5000)] []
  unfold f_X7_takesIs at hf
  refine j_aload_n (pc' := 1) rfl rfl rfl ?_
  refine j_bipush (v := 32) (pc' := 3) rfl rfl (by decide) ?_
  obtain ⟨r3, e3, hf⟩ := o_bind hf
  refine j_v1 (pc' := 6) rfl rfl miX7_takes lnX7_191 (gm_o g μ) rfl (s_X7_takes g μ 32 _ e3) (h_rm_of rfl) (Nat.le_of_ble_eq_true rfl) (c' := 0) (s' := 0) rfl rfl ?_
  refine j_if_eq (tgt := 40) (pc' := 9) rfl rfl rfl (fun c6 => ?_) (fun c6 => ?_)
  · rw [if_pos c6] at hf
    refine j_iconst (v := 0) (pc' := 41) rfl rfl (by decide) ?_
    have hf := Option.some.inj hf; subst hf
    exact j_zret rfl rfl (by decide) (Nat.zero_le _) (Nat.zero_le _) ⟨rfl, rfl⟩
  · rw [if_neg c6] at hf
    refine j_aload_n (pc' := 10) rfl rfl rfl ?_
    refine j_bipush (v := 105) (pc' := 12) rfl rfl (by decide) ?_
    obtain ⟨r12, e12, hf⟩ := o_bind hf
    refine j_v1 (pc' := 15) rfl rfl miX7_takes lnX7_191 (gm_o g r3.2) rfl (s_X7_takes g r3.2 105 _ e12) (h_rm_of rfl) (Nat.le_of_ble_eq_true rfl) (c' := 0) (s' := 0) rfl rfl ?_
    refine j_if_eq (tgt := 40) (pc' := 18) rfl rfl rfl (fun c15 => ?_) (fun c15 => ?_)
    · rw [if_pos c15] at hf
      refine j_iconst (v := 0) (pc' := 41) rfl rfl (by decide) ?_
      have hf := Option.some.inj hf; subst hf
      exact j_zret rfl rfl (by decide) (Nat.zero_le _) (Nat.zero_le _) ⟨rfl, rfl⟩
    · rw [if_neg c15] at hf
      refine j_aload_n (pc' := 19) rfl rfl rfl ?_
      refine j_bipush (v := 115) (pc' := 21) rfl rfl (by decide) ?_
      obtain ⟨r21, e21, hf⟩ := o_bind hf
      refine j_v1 (pc' := 24) rfl rfl miX7_takes lnX7_191 (gm_o g r12.2) rfl (s_X7_takes g r12.2 115 _ e21) (h_rm_of rfl) (Nat.le_of_ble_eq_true rfl) (c' := 0) (s' := 0) rfl rfl ?_
      refine j_if_eq (tgt := 40) (pc' := 27) rfl rfl rfl (fun c24 => ?_) (fun c24 => ?_)
      · rw [if_pos c24] at hf
        refine j_iconst (v := 0) (pc' := 41) rfl rfl (by decide) ?_
        have hf := Option.some.inj hf; subst hf
        exact j_zret rfl rfl (by decide) (Nat.zero_le _) (Nat.zero_le _) ⟨rfl, rfl⟩
      · rw [if_neg c24] at hf
        refine j_aload_n (pc' := 28) rfl rfl rfl ?_
        refine j_bipush (v := 32) (pc' := 30) rfl rfl (by decide) ?_
        obtain ⟨r30, e30, hf⟩ := o_bind hf
        refine j_v1 (pc' := 33) rfl rfl miX7_takes lnX7_191 (gm_o g r21.2) rfl (s_X7_takes g r21.2 32 _ e30) (h_rm_of rfl) (Nat.le_of_ble_eq_true rfl) (c' := 0) (s' := 0) rfl rfl ?_
        refine j_if_eq (tgt := 40) (pc' := 36) rfl rfl rfl (fun c33 => ?_) (fun c33 => ?_)
        · rw [if_pos c33] at hf
          refine j_iconst (v := 0) (pc' := 41) rfl rfl (by decide) ?_
          have hf := Option.some.inj hf; subst hf
          exact j_zret rfl rfl (by decide) (Nat.zero_le _) (Nat.zero_le _) ⟨rfl, rfl⟩
        · rw [if_neg c33] at hf
          refine j_iconst (v := 1) (pc' := 37) rfl rfl (by decide) ?_
          refine j_goto (tgt := 41) rfl rfl ?_
          have hf := Option.some.inj hf; subst hf
          exact j_zret rfl rfl (by decide) (Nat.zero_le _) (Nat.zero_le _) ⟨rfl, rfl⟩
def rX7_takesWeight : Room := { frames := 1, cells := 0, slots := 0, locals := 21 }
def f_X7_takesWeight (μ : mS) : Option (Int32 × mS) := (f_X7_takes μ 32).bind fun r3 => if r3.1 = 0 then some (0, r3.2) else (f_X7_takes r3.2 98).bind fun r12 => if r12.1 = 0 then some (0, r12.2) else (f_X7_takes r12.2 121).bind fun r21 => if r21.1 = 0 then some (0, r21.2) else (f_X7_takes r21.2 32).bind fun r30 => if r30.1 = 0 then some (0, r30.2) else (f_X7_takes r30.2 119).bind fun r39 => if r39.1 = 0 then some (0, r39.2) else (f_X7_takes r39.2 101).bind fun r48 => if r48.1 = 0 then some (0, r48.2) else (f_X7_takes r48.2 105).bind fun r57 => if r57.1 = 0 then some (0, r57.2) else (f_X7_takes r57.2 103).bind fun r66 => if r66.1 = 0 then some (0, r66.2) else (f_X7_takes r66.2 104).bind fun r75 => if r75.1 = 0 then some (0, r75.2) else (f_X7_takes r75.2 116).bind fun r84 => if r84.1 = 0 then some (0, r84.2) else (f_X7_takes r84.2 32).bind fun r93 => if r93.1 = 0 then some (0, r93.2) else some (1, r93.2)
set_option maxHeartbeats 4000000 in
set_option maxRecDepth 100000 in
theorem s_X7_takesWeight (g : hH) (μ : mS) (r : (Int32 × mS)) (hf : f_X7_takesWeight μ = some r) : SpD mX7_takesWeight rX7_takesWeight [.ref 5000] (gm g μ) (some (.int r.1)) (gm g r.2) := by
  refine sp_of miX7_takesWeight (Nat.le_of_ble_eq_true rfl) ?_
  show J _ _ _ 0 0 _ 0 [(0, .ref 5000)] []
  unfold f_X7_takesWeight at hf
  refine j_aload_n (pc' := 1) rfl rfl rfl ?_
  refine j_bipush (v := 32) (pc' := 3) rfl rfl (by decide) ?_
  obtain ⟨r3, e3, hf⟩ := o_bind hf
  refine j_v1 (pc' := 6) rfl rfl miX7_takes lnX7_191 (gm_o g μ) rfl (s_X7_takes g μ 32 _ e3) (h_rm_of rfl) (Nat.le_of_ble_eq_true rfl) (c' := 0) (s' := 0) rfl rfl ?_
  refine j_if_eq (tgt := 103) (pc' := 9) rfl rfl rfl (fun c6 => ?_) (fun c6 => ?_)
  · rw [if_pos c6] at hf
    refine j_iconst (v := 0) (pc' := 104) rfl rfl (by decide) ?_
    have hf := Option.some.inj hf; subst hf
    exact j_zret rfl rfl (by decide) (Nat.zero_le _) (Nat.zero_le _) ⟨rfl, rfl⟩
  · rw [if_neg c6] at hf
    refine j_aload_n (pc' := 10) rfl rfl rfl ?_
    refine j_bipush (v := 98) (pc' := 12) rfl rfl (by decide) ?_
    obtain ⟨r12, e12, hf⟩ := o_bind hf
    refine j_v1 (pc' := 15) rfl rfl miX7_takes lnX7_191 (gm_o g r3.2) rfl (s_X7_takes g r3.2 98 _ e12) (h_rm_of rfl) (Nat.le_of_ble_eq_true rfl) (c' := 0) (s' := 0) rfl rfl ?_
    refine j_if_eq (tgt := 103) (pc' := 18) rfl rfl rfl (fun c15 => ?_) (fun c15 => ?_)
    · rw [if_pos c15] at hf
      refine j_iconst (v := 0) (pc' := 104) rfl rfl (by decide) ?_
      have hf := Option.some.inj hf; subst hf
      exact j_zret rfl rfl (by decide) (Nat.zero_le _) (Nat.zero_le _) ⟨rfl, rfl⟩
    · rw [if_neg c15] at hf
      refine j_aload_n (pc' := 19) rfl rfl rfl ?_
      refine j_bipush (v := 121) (pc' := 21) rfl rfl (by decide) ?_
      obtain ⟨r21, e21, hf⟩ := o_bind hf
      refine j_v1 (pc' := 24) rfl rfl miX7_takes lnX7_191 (gm_o g r12.2) rfl (s_X7_takes g r12.2 121 _ e21) (h_rm_of rfl) (Nat.le_of_ble_eq_true rfl) (c' := 0) (s' := 0) rfl rfl ?_
      refine j_if_eq (tgt := 103) (pc' := 27) rfl rfl rfl (fun c24 => ?_) (fun c24 => ?_)
      · rw [if_pos c24] at hf
        refine j_iconst (v := 0) (pc' := 104) rfl rfl (by decide) ?_
        have hf := Option.some.inj hf; subst hf
        exact j_zret rfl rfl (by decide) (Nat.zero_le _) (Nat.zero_le _) ⟨rfl, rfl⟩
      · rw [if_neg c24] at hf
        refine j_aload_n (pc' := 28) rfl rfl rfl ?_
        refine j_bipush (v := 32) (pc' := 30) rfl rfl (by decide) ?_
        obtain ⟨r30, e30, hf⟩ := o_bind hf
        refine j_v1 (pc' := 33) rfl rfl miX7_takes lnX7_191 (gm_o g r21.2) rfl (s_X7_takes g r21.2 32 _ e30) (h_rm_of rfl) (Nat.le_of_ble_eq_true rfl) (c' := 0) (s' := 0) rfl rfl ?_
        refine j_if_eq (tgt := 103) (pc' := 36) rfl rfl rfl (fun c33 => ?_) (fun c33 => ?_)
        · rw [if_pos c33] at hf
          refine j_iconst (v := 0) (pc' := 104) rfl rfl (by decide) ?_
          have hf := Option.some.inj hf; subst hf
          exact j_zret rfl rfl (by decide) (Nat.zero_le _) (Nat.zero_le _) ⟨rfl, rfl⟩
        · rw [if_neg c33] at hf
          refine j_aload_n (pc' := 37) rfl rfl rfl ?_
          refine j_bipush (v := 119) (pc' := 39) rfl rfl (by decide) ?_
          obtain ⟨r39, e39, hf⟩ := o_bind hf
          refine j_v1 (pc' := 42) rfl rfl miX7_takes lnX7_191 (gm_o g r30.2) rfl (s_X7_takes g r30.2 119 _ e39) (h_rm_of rfl) (Nat.le_of_ble_eq_true rfl) (c' := 0) (s' := 0) rfl rfl ?_
          refine j_if_eq (tgt := 103) (pc' := 45) rfl rfl rfl (fun c42 => ?_) (fun c42 => ?_)
          · rw [if_pos c42] at hf
            refine j_iconst (v := 0) (pc' := 104) rfl rfl (by decide) ?_
            have hf := Option.some.inj hf; subst hf
            exact j_zret rfl rfl (by decide) (Nat.zero_le _) (Nat.zero_le _) ⟨rfl, rfl⟩
          · rw [if_neg c42] at hf
            refine j_aload_n (pc' := 46) rfl rfl rfl ?_
            refine j_bipush (v := 101) (pc' := 48) rfl rfl (by decide) ?_
            obtain ⟨r48, e48, hf⟩ := o_bind hf
            refine j_v1 (pc' := 51) rfl rfl miX7_takes lnX7_191 (gm_o g r39.2) rfl (s_X7_takes g r39.2 101 _ e48) (h_rm_of rfl) (Nat.le_of_ble_eq_true rfl) (c' := 0) (s' := 0) rfl rfl ?_
            refine j_if_eq (tgt := 103) (pc' := 54) rfl rfl rfl (fun c51 => ?_) (fun c51 => ?_)
            · rw [if_pos c51] at hf
              refine j_iconst (v := 0) (pc' := 104) rfl rfl (by decide) ?_
              have hf := Option.some.inj hf; subst hf
              exact j_zret rfl rfl (by decide) (Nat.zero_le _) (Nat.zero_le _) ⟨rfl, rfl⟩
            · rw [if_neg c51] at hf
              refine j_aload_n (pc' := 55) rfl rfl rfl ?_
              refine j_bipush (v := 105) (pc' := 57) rfl rfl (by decide) ?_
              obtain ⟨r57, e57, hf⟩ := o_bind hf
              refine j_v1 (pc' := 60) rfl rfl miX7_takes lnX7_191 (gm_o g r48.2) rfl (s_X7_takes g r48.2 105 _ e57) (h_rm_of rfl) (Nat.le_of_ble_eq_true rfl) (c' := 0) (s' := 0) rfl rfl ?_
              refine j_if_eq (tgt := 103) (pc' := 63) rfl rfl rfl (fun c60 => ?_) (fun c60 => ?_)
              · rw [if_pos c60] at hf
                refine j_iconst (v := 0) (pc' := 104) rfl rfl (by decide) ?_
                have hf := Option.some.inj hf; subst hf
                exact j_zret rfl rfl (by decide) (Nat.zero_le _) (Nat.zero_le _) ⟨rfl, rfl⟩
              · rw [if_neg c60] at hf
                refine j_aload_n (pc' := 64) rfl rfl rfl ?_
                refine j_bipush (v := 103) (pc' := 66) rfl rfl (by decide) ?_
                obtain ⟨r66, e66, hf⟩ := o_bind hf
                refine j_v1 (pc' := 69) rfl rfl miX7_takes lnX7_191 (gm_o g r57.2) rfl (s_X7_takes g r57.2 103 _ e66) (h_rm_of rfl) (Nat.le_of_ble_eq_true rfl) (c' := 0) (s' := 0) rfl rfl ?_
                refine j_if_eq (tgt := 103) (pc' := 72) rfl rfl rfl (fun c69 => ?_) (fun c69 => ?_)
                · rw [if_pos c69] at hf
                  refine j_iconst (v := 0) (pc' := 104) rfl rfl (by decide) ?_
                  have hf := Option.some.inj hf; subst hf
                  exact j_zret rfl rfl (by decide) (Nat.zero_le _) (Nat.zero_le _) ⟨rfl, rfl⟩
                · rw [if_neg c69] at hf
                  refine j_aload_n (pc' := 73) rfl rfl rfl ?_
                  refine j_bipush (v := 104) (pc' := 75) rfl rfl (by decide) ?_
                  obtain ⟨r75, e75, hf⟩ := o_bind hf
                  refine j_v1 (pc' := 78) rfl rfl miX7_takes lnX7_191 (gm_o g r66.2) rfl (s_X7_takes g r66.2 104 _ e75) (h_rm_of rfl) (Nat.le_of_ble_eq_true rfl) (c' := 0) (s' := 0) rfl rfl ?_
                  refine j_if_eq (tgt := 103) (pc' := 81) rfl rfl rfl (fun c78 => ?_) (fun c78 => ?_)
                  · rw [if_pos c78] at hf
                    refine j_iconst (v := 0) (pc' := 104) rfl rfl (by decide) ?_
                    have hf := Option.some.inj hf; subst hf
                    exact j_zret rfl rfl (by decide) (Nat.zero_le _) (Nat.zero_le _) ⟨rfl, rfl⟩
                  · rw [if_neg c78] at hf
                    refine j_aload_n (pc' := 82) rfl rfl rfl ?_
                    refine j_bipush (v := 116) (pc' := 84) rfl rfl (by decide) ?_
                    obtain ⟨r84, e84, hf⟩ := o_bind hf
                    refine j_v1 (pc' := 87) rfl rfl miX7_takes lnX7_191 (gm_o g r75.2) rfl (s_X7_takes g r75.2 116 _ e84) (h_rm_of rfl) (Nat.le_of_ble_eq_true rfl) (c' := 0) (s' := 0) rfl rfl ?_
                    refine j_if_eq (tgt := 103) (pc' := 90) rfl rfl rfl (fun c87 => ?_) (fun c87 => ?_)
                    · rw [if_pos c87] at hf
                      refine j_iconst (v := 0) (pc' := 104) rfl rfl (by decide) ?_
                      have hf := Option.some.inj hf; subst hf
                      exact j_zret rfl rfl (by decide) (Nat.zero_le _) (Nat.zero_le _) ⟨rfl, rfl⟩
                    · rw [if_neg c87] at hf
                      refine j_aload_n (pc' := 91) rfl rfl rfl ?_
                      refine j_bipush (v := 32) (pc' := 93) rfl rfl (by decide) ?_
                      obtain ⟨r93, e93, hf⟩ := o_bind hf
                      refine j_v1 (pc' := 96) rfl rfl miX7_takes lnX7_191 (gm_o g r84.2) rfl (s_X7_takes g r84.2 32 _ e93) (h_rm_of rfl) (Nat.le_of_ble_eq_true rfl) (c' := 0) (s' := 0) rfl rfl ?_
                      refine j_if_eq (tgt := 103) (pc' := 99) rfl rfl rfl (fun c96 => ?_) (fun c96 => ?_)
                      · rw [if_pos c96] at hf
                        refine j_iconst (v := 0) (pc' := 104) rfl rfl (by decide) ?_
                        have hf := Option.some.inj hf; subst hf
                        exact j_zret rfl rfl (by decide) (Nat.zero_le _) (Nat.zero_le _) ⟨rfl, rfl⟩
                      · rw [if_neg c96] at hf
                        refine j_iconst (v := 1) (pc' := 100) rfl rfl (by decide) ?_
                        refine j_goto (tgt := 104) rfl rfl ?_
                        have hf := Option.some.inj hf; subst hf
                        exact j_zret rfl rfl (by decide) (Nat.zero_le _) (Nat.zero_le _) ⟨rfl, rfl⟩
def rX7_clause : Room := { frames := 2, cells := 0, slots := 0, locals := 44 }
def f_X7_clause (μ : mS) (x1 : Int32) : Option (Int32 × mS) := if (μ.1 26 0) = (μ.1 20 0) then some (0, μ) else bif vin (μ.1 26 0) 160 then (f_X7_in (μ.1 19 ((μ.1 26 0)).toNatClampNeg) 48 55).bind fun r24 => if r24 = 0 then some (0, μ) else bif vin (μ.1 26 0) 160 then letm (((8 * x1) + (μ.1 19 ((μ.1 26 0)).toNatClampNeg)) - 48) fun y49 => bif vin y49 80 then if (μ.1 22 (y49).toNatClampNeg) = 0 then letm (seti μ 26 (fun _ => ((μ.1 26 0) + 1))) fun μ68 => (f_X7_takesIs μ68).bind fun r72 => if r72.1 = 0 then some (0, r72.2) else (f_X7_takes r72.2 111).bind fun r83 => if r83.1 = 0 then (f_X7_takesNumber r83.2 3 48).bind fun r124 => if r124.1 = 0 then some (0, r124.2) else bif vin y49 80 then letm (seti r124.2 22 (va_up (r124.2.1 22) (y49).toNatClampNeg 1)) fun μ138 => bif vin y49 80 then letm (seti μ138 23 (va_up (μ138.1 23) (y49).toNatClampNeg (μ138.1 27 0))) fun μ148 => if (μ148.1 26 0) = (μ148.1 20 0) then some (1, μ148) else bif vin (μ148.1 26 0) 160 then if (μ148.1 19 ((μ148.1 26 0)).toNatClampNeg) = 59 then some (1, μ148) else (f_X7_takesWeight μ148).bind fun r177 => if r177.1 = 0 then some (0, r177.2) else (f_X7_takesNumber r177.2 4 49).bind fun r187 => if r187.1 = 0 then some (0, r187.2) else bif vin y49 80 then letm (seti r187.2 22 (va_up (r187.2.1 22) (y49).toNatClampNeg 2)) fun μ201 => bif vin y49 80 then letm (seti μ201 24 (va_up (μ201.1 24) (y49).toNatClampNeg (μ201.1 27 0))) fun μ211 => some (1, μ211) else none else none else none else none else none else bif vin y49 80 then letm (seti r83.2 22 (va_up (r83.2.1 22) (y49).toNatClampNeg 3)) fun μ95 => (f_X7_takes μ95 117).bind fun r99 => if r99.1 = 0 then some (0, r99.2) else (f_X7_takes r99.2 116).bind fun r108 => if r108.1 = 0 then some (0, r108.2) else some (1, r108.2) else none else some (0, μ) else none else none else none
set_option maxHeartbeats 4000000 in
set_option maxRecDepth 100000 in
theorem s_X7_clause (g : hH) (μ : mS) (x1 : Int32) (r : (Int32 × mS)) (hf : f_X7_clause μ x1 = some r) : SpD mX7_clause rX7_clause [.ref 5000, .int x1] (gm g μ) (some (.int r.1)) (gm g r.2) := by
  refine sp_of miX7_clause (Nat.le_of_ble_eq_true rfl) ?_
  show J _ _ _ 0 0 _ 0 [(0, .ref 5000), (1, .int x1)] []
  unfold f_X7_clause at hf
  refine j_aload_n (pc' := 1) rfl rfl rfl ?_
  refine j_get (pc' := 4) rfl rfl flX7_182 (gm_o g μ) (mF_26 μ) ?_
  refine j_aload_n (pc' := 5) rfl rfl rfl ?_
  refine j_get (pc' := 8) rfl rfl flX7_179 (gm_o g μ) (mF_20 μ) ?_
  refine j_icmp_eq (tgt := 30) (pc' := 11) rfl rfl rfl (fun c8 => ?_) (fun c8 => ?_)
  · rw [if_pos c8] at hf
    refine j_iconst (v := 0) (pc' := 31) rfl rfl (by decide) ?_
    have hf := Option.some.inj hf; subst hf
    exact j_zret rfl rfl (by decide) (Nat.zero_le _) (Nat.zero_le _) ⟨rfl, rfl⟩
  · rw [if_neg c8] at hf
    refine j_aload_n (pc' := 12) rfl rfl rfl ?_
    refine j_get (pc' := 15) rfl rfl flX7_56 (gm_o g μ) (mF_19 μ) ?_
    refine j_aload_n (pc' := 16) rfl rfl rfl ?_
    refine j_get (pc' := 19) rfl rfl flX7_182 (gm_o g μ) (mF_26 μ) ?_
    obtain ⟨c19, hf⟩ := o_chk hf
    refine j_bald (pc' := 20) rfl rfl (gm_19 g μ) (vin_ok c19) ?_
    refine j_bipush (v := 48) (pc' := 22) rfl rfl (by decide) ?_
    refine j_bipush (v := 55) (pc' := 24) rfl rfl (by decide) ?_
    obtain ⟨r24, e24, hf⟩ := o_bind hf
    refine j_s3 (pc' := 27) rfl rfl miX7_in lnX7_138 (s_X7_in (gm g μ) (μ.1 19 ((μ.1 26 0)).toNatClampNeg) 48 55 _ e24) (h_rm_of rfl) (Nat.le_of_ble_eq_true rfl) (c' := 0) (s' := 0) rfl rfl ?_
    refine j_if_ne (tgt := 32) (pc' := 30) rfl rfl rfl (fun c27 => ?_) (fun c27 => ?_)
    · rw [if_neg c27] at hf
      refine j_bipush (v := 8) (pc' := 34) rfl rfl (by decide) ?_
      refine j_iload_n (pc' := 35) rfl rfl rfl ?_
      refine j_imul (pc' := 36) rfl rfl ?_
      refine j_aload_n (pc' := 37) rfl rfl rfl ?_
      refine j_get (pc' := 40) rfl rfl flX7_56 (gm_o g μ) (mF_19 μ) ?_
      refine j_aload_n (pc' := 41) rfl rfl rfl ?_
      refine j_get (pc' := 44) rfl rfl flX7_182 (gm_o g μ) (mF_26 μ) ?_
      obtain ⟨c44, hf⟩ := o_chk hf
      refine j_bald (pc' := 45) rfl rfl (gm_19 g μ) (vin_ok c44) ?_
      refine j_iadd (pc' := 46) rfl rfl ?_
      refine j_bipush (v := 48) (pc' := 48) rfl rfl (by decide) ?_
      refine j_isub (pc' := 49) rfl rfl ?_
      obtain ⟨y49, e49, hf⟩ := o_let hf
      rw [e49]
      refine j_istore_n (pc' := 50) (ls' := [(2, _), (0, _), (1, _)]) rfl rfl (Nat.le_of_ble_eq_true rfl) rfl ?_
      refine j_aload_n (pc' := 51) rfl rfl rfl ?_
      refine j_get (pc' := 54) rfl rfl flX7_60 (gm_o g μ) (mF_22 μ) ?_
      refine j_iload_n (pc' := 55) rfl rfl rfl ?_
      obtain ⟨c55, hf⟩ := o_chk hf
      refine j_iald (pc' := 56) rfl rfl (gm_22 g μ) (vin_ok c55) ?_
      refine j_if_eq (tgt := 61) (pc' := 59) rfl rfl rfl (fun c56 => ?_) (fun c56 => ?_)
      · rw [if_pos c56] at hf
        refine j_aload_n (pc' := 62) rfl rfl rfl ?_
        refine j_dup (pc' := 63) rfl rfl rfl ?_
        refine j_get (pc' := 66) rfl rfl flX7_182 (gm_o g μ) (mF_26 μ) ?_
        refine j_iconst (v := 1) (pc' := 67) rfl rfl (by decide) ?_
        refine j_iadd (pc' := 68) rfl rfl ?_
        obtain ⟨μ68, e68, hf⟩ := o_let hf
        refine j_put (pc' := 71) rfl rfl flX7_182 (gm_o g μ) (by decide) (Nat.le_of_ble_eq_true rfl) rfl rfl ?_
        rw [gs_26]; rw [e68]
        refine j_aload_n (pc' := 72) rfl rfl rfl ?_
        obtain ⟨r72, e72, hf⟩ := o_bind hf
        refine j_v0 (pc' := 75) rfl rfl miX7_takesIs lnX7_194 (gm_o g μ68) rfl (s_X7_takesIs g μ68 _ e72) (h_rm_of rfl) (Nat.le_of_ble_eq_true rfl) (c' := 0) (s' := 0) rfl rfl ?_
        refine j_if_ne (tgt := 80) (pc' := 78) rfl rfl rfl (fun c75 => ?_) (fun c75 => ?_)
        · rw [if_neg c75] at hf
          refine j_aload_n (pc' := 81) rfl rfl rfl ?_
          refine j_bipush (v := 111) (pc' := 83) rfl rfl (by decide) ?_
          obtain ⟨r83, e83, hf⟩ := o_bind hf
          refine j_v1 (pc' := 86) rfl rfl miX7_takes lnX7_191 (gm_o g r72.2) rfl (s_X7_takes g r72.2 111 _ e83) (h_rm_of rfl) (Nat.le_of_ble_eq_true rfl) (c' := 0) (s' := 0) rfl rfl ?_
          refine j_if_eq (tgt := 120) (pc' := 89) rfl rfl rfl (fun c86 => ?_) (fun c86 => ?_)
          · rw [if_pos c86] at hf
            refine j_aload_n (pc' := 121) rfl rfl rfl ?_
            refine j_iconst (v := 3) (pc' := 122) rfl rfl (by decide) ?_
            refine j_bipush (v := 48) (pc' := 124) rfl rfl (by decide) ?_
            obtain ⟨r124, e124, hf⟩ := o_bind hf
            refine j_v2 (pc' := 127) rfl rfl miX7_takesNumber lnX7_198 (gm_o g r83.2) rfl (s_X7_takesNumber g r83.2 3 48 _ e124) (h_rm_of rfl) (Nat.le_of_ble_eq_true rfl) (c' := 0) (s' := 0) rfl rfl ?_
            refine j_if_ne (tgt := 132) (pc' := 130) rfl rfl rfl (fun c127 => ?_) (fun c127 => ?_)
            · rw [if_neg c127] at hf
              refine j_aload_n (pc' := 133) rfl rfl rfl ?_
              refine j_get (pc' := 136) rfl rfl flX7_60 (gm_o g r124.2) (mF_22 r124.2) ?_
              refine j_iload_n (pc' := 137) rfl rfl rfl ?_
              refine j_iconst (v := 1) (pc' := 138) rfl rfl (by decide) ?_
              obtain ⟨c138, hf⟩ := o_chk hf
              obtain ⟨μ138, e138, hf⟩ := o_let hf
              refine j_iast (pc' := 139) rfl rfl (gm_22 g r124.2) (by decide) (vin_ok c138) ?_
              rw [gs_22]; rw [e138]
              refine j_aload_n (pc' := 140) rfl rfl rfl ?_
              refine j_get (pc' := 143) rfl rfl flX7_63 (gm_o g μ138) (mF_23 μ138) ?_
              refine j_iload_n (pc' := 144) rfl rfl rfl ?_
              refine j_aload_n (pc' := 145) rfl rfl rfl ?_
              refine j_get (pc' := 148) rfl rfl flX7_188 (gm_o g μ138) (mF_27 μ138) ?_
              obtain ⟨c148, hf⟩ := o_chk hf
              obtain ⟨μ148, e148, hf⟩ := o_let hf
              refine j_iast (pc' := 149) rfl rfl (gm_23 g μ138) (by decide) (vin_ok c148) ?_
              rw [gs_23]; rw [e148]
              refine j_aload_n (pc' := 150) rfl rfl rfl ?_
              refine j_get (pc' := 153) rfl rfl flX7_182 (gm_o g μ148) (mF_26 μ148) ?_
              refine j_aload_n (pc' := 154) rfl rfl rfl ?_
              refine j_get (pc' := 157) rfl rfl flX7_179 (gm_o g μ148) (mF_20 μ148) ?_
              refine j_icmp_eq (tgt := 174) (pc' := 160) rfl rfl rfl (fun c157 => ?_) (fun c157 => ?_)
              · rw [if_pos c157] at hf
                refine j_iconst (v := 1) (pc' := 175) rfl rfl (by decide) ?_
                have hf := Option.some.inj hf; subst hf
                exact j_zret rfl rfl (by decide) (Nat.zero_le _) (Nat.zero_le _) ⟨rfl, rfl⟩
              · rw [if_neg c157] at hf
                refine j_aload_n (pc' := 161) rfl rfl rfl ?_
                refine j_get (pc' := 164) rfl rfl flX7_56 (gm_o g μ148) (mF_19 μ148) ?_
                refine j_aload_n (pc' := 165) rfl rfl rfl ?_
                refine j_get (pc' := 168) rfl rfl flX7_182 (gm_o g μ148) (mF_26 μ148) ?_
                obtain ⟨c168, hf⟩ := o_chk hf
                refine j_bald (pc' := 169) rfl rfl (gm_19 g μ148) (vin_ok c168) ?_
                refine j_bipush (v := 59) (pc' := 171) rfl rfl (by decide) ?_
                refine j_icmp_ne (tgt := 176) (pc' := 174) rfl rfl rfl (fun c171 => ?_) (fun c171 => ?_)
                · rw [if_neg c171] at hf
                  refine j_aload_n (pc' := 177) rfl rfl rfl ?_
                  obtain ⟨r177, e177, hf⟩ := o_bind hf
                  refine j_v0 (pc' := 180) rfl rfl miX7_takesWeight lnX7_202 (gm_o g μ148) rfl (s_X7_takesWeight g μ148 _ e177) (h_rm_of rfl) (Nat.le_of_ble_eq_true rfl) (c' := 0) (s' := 0) rfl rfl ?_
                  refine j_if_eq (tgt := 193) (pc' := 183) rfl rfl rfl (fun c180 => ?_) (fun c180 => ?_)
                  · rw [if_pos c180] at hf
                    refine j_iconst (v := 0) (pc' := 194) rfl rfl (by decide) ?_
                    have hf := Option.some.inj hf; subst hf
                    exact j_zret rfl rfl (by decide) (Nat.zero_le _) (Nat.zero_le _) ⟨rfl, rfl⟩
                  · rw [if_neg c180] at hf
                    refine j_aload_n (pc' := 184) rfl rfl rfl ?_
                    refine j_iconst (v := 4) (pc' := 185) rfl rfl (by decide) ?_
                    refine j_bipush (v := 49) (pc' := 187) rfl rfl (by decide) ?_
                    obtain ⟨r187, e187, hf⟩ := o_bind hf
                    refine j_v2 (pc' := 190) rfl rfl miX7_takesNumber lnX7_198 (gm_o g r177.2) rfl (s_X7_takesNumber g r177.2 4 49 _ e187) (h_rm_of rfl) (Nat.le_of_ble_eq_true rfl) (c' := 0) (s' := 0) rfl rfl ?_
                    refine j_if_ne (tgt := 195) (pc' := 193) rfl rfl rfl (fun c190 => ?_) (fun c190 => ?_)
                    · rw [if_neg c190] at hf
                      refine j_aload_n (pc' := 196) rfl rfl rfl ?_
                      refine j_get (pc' := 199) rfl rfl flX7_60 (gm_o g r187.2) (mF_22 r187.2) ?_
                      refine j_iload_n (pc' := 200) rfl rfl rfl ?_
                      refine j_iconst (v := 2) (pc' := 201) rfl rfl (by decide) ?_
                      obtain ⟨c201, hf⟩ := o_chk hf
                      obtain ⟨μ201, e201, hf⟩ := o_let hf
                      refine j_iast (pc' := 202) rfl rfl (gm_22 g r187.2) (by decide) (vin_ok c201) ?_
                      rw [gs_22]; rw [e201]
                      refine j_aload_n (pc' := 203) rfl rfl rfl ?_
                      refine j_get (pc' := 206) rfl rfl flX7_66 (gm_o g μ201) (mF_24 μ201) ?_
                      refine j_iload_n (pc' := 207) rfl rfl rfl ?_
                      refine j_aload_n (pc' := 208) rfl rfl rfl ?_
                      refine j_get (pc' := 211) rfl rfl flX7_188 (gm_o g μ201) (mF_27 μ201) ?_
                      obtain ⟨c211, hf⟩ := o_chk hf
                      obtain ⟨μ211, e211, hf⟩ := o_let hf
                      refine j_iast (pc' := 212) rfl rfl (gm_24 g μ201) (by decide) (vin_ok c211) ?_
                      rw [gs_24]; rw [e211]
                      refine j_iconst (v := 1) (pc' := 213) rfl rfl (by decide) ?_
                      have hf := Option.some.inj hf; subst hf
                      exact j_zret rfl rfl (by decide) (Nat.zero_le _) (Nat.zero_le _) ⟨rfl, rfl⟩
                    · rw [if_pos c190] at hf
                      refine j_iconst (v := 0) (pc' := 194) rfl rfl (by decide) ?_
                      have hf := Option.some.inj hf; subst hf
                      exact j_zret rfl rfl (by decide) (Nat.zero_le _) (Nat.zero_le _) ⟨rfl, rfl⟩
                · rw [if_pos c171] at hf
                  refine j_iconst (v := 1) (pc' := 175) rfl rfl (by decide) ?_
                  have hf := Option.some.inj hf; subst hf
                  exact j_zret rfl rfl (by decide) (Nat.zero_le _) (Nat.zero_le _) ⟨rfl, rfl⟩
            · rw [if_pos c127] at hf
              refine j_iconst (v := 0) (pc' := 131) rfl rfl (by decide) ?_
              have hf := Option.some.inj hf; subst hf
              exact j_zret rfl rfl (by decide) (Nat.zero_le _) (Nat.zero_le _) ⟨rfl, rfl⟩
          · rw [if_neg c86] at hf
            refine j_aload_n (pc' := 90) rfl rfl rfl ?_
            refine j_get (pc' := 93) rfl rfl flX7_60 (gm_o g r83.2) (mF_22 r83.2) ?_
            refine j_iload_n (pc' := 94) rfl rfl rfl ?_
            refine j_iconst (v := 3) (pc' := 95) rfl rfl (by decide) ?_
            obtain ⟨c95, hf⟩ := o_chk hf
            obtain ⟨μ95, e95, hf⟩ := o_let hf
            refine j_iast (pc' := 96) rfl rfl (gm_22 g r83.2) (by decide) (vin_ok c95) ?_
            rw [gs_22]; rw [e95]
            refine j_aload_n (pc' := 97) rfl rfl rfl ?_
            refine j_bipush (v := 117) (pc' := 99) rfl rfl (by decide) ?_
            obtain ⟨r99, e99, hf⟩ := o_bind hf
            refine j_v1 (pc' := 102) rfl rfl miX7_takes lnX7_191 (gm_o g μ95) rfl (s_X7_takes g μ95 117 _ e99) (h_rm_of rfl) (Nat.le_of_ble_eq_true rfl) (c' := 0) (s' := 0) rfl rfl ?_
            refine j_if_eq (tgt := 118) (pc' := 105) rfl rfl rfl (fun c102 => ?_) (fun c102 => ?_)
            · rw [if_pos c102] at hf
              refine j_iconst (v := 0) (pc' := 119) rfl rfl (by decide) ?_
              have hf := Option.some.inj hf; subst hf
              exact j_zret rfl rfl (by decide) (Nat.zero_le _) (Nat.zero_le _) ⟨rfl, rfl⟩
            · rw [if_neg c102] at hf
              refine j_aload_n (pc' := 106) rfl rfl rfl ?_
              refine j_bipush (v := 116) (pc' := 108) rfl rfl (by decide) ?_
              obtain ⟨r108, e108, hf⟩ := o_bind hf
              refine j_v1 (pc' := 111) rfl rfl miX7_takes lnX7_191 (gm_o g r99.2) rfl (s_X7_takes g r99.2 116 _ e108) (h_rm_of rfl) (Nat.le_of_ble_eq_true rfl) (c' := 0) (s' := 0) rfl rfl ?_
              refine j_if_eq (tgt := 118) (pc' := 114) rfl rfl rfl (fun c111 => ?_) (fun c111 => ?_)
              · rw [if_pos c111] at hf
                refine j_iconst (v := 0) (pc' := 119) rfl rfl (by decide) ?_
                have hf := Option.some.inj hf; subst hf
                exact j_zret rfl rfl (by decide) (Nat.zero_le _) (Nat.zero_le _) ⟨rfl, rfl⟩
              · rw [if_neg c111] at hf
                refine j_iconst (v := 1) (pc' := 115) rfl rfl (by decide) ?_
                refine j_goto (tgt := 119) rfl rfl ?_
                have hf := Option.some.inj hf; subst hf
                exact j_zret rfl rfl (by decide) (Nat.zero_le _) (Nat.zero_le _) ⟨rfl, rfl⟩
        · rw [if_pos c75] at hf
          refine j_iconst (v := 0) (pc' := 79) rfl rfl (by decide) ?_
          have hf := Option.some.inj hf; subst hf
          exact j_zret rfl rfl (by decide) (Nat.zero_le _) (Nat.zero_le _) ⟨rfl, rfl⟩
      · rw [if_neg c56] at hf
        refine j_iconst (v := 0) (pc' := 60) rfl rfl (by decide) ?_
        have hf := Option.some.inj hf; subst hf
        exact j_zret rfl rfl (by decide) (Nat.zero_le _) (Nat.zero_le _) ⟨rfl, rfl⟩
    · rw [if_pos c27] at hf
      refine j_iconst (v := 0) (pc' := 31) rfl rfl (by decide) ?_
      have hf := Option.some.inj hf; subst hf
      exact j_zret rfl rfl (by decide) (Nat.zero_le _) (Nat.zero_le _) ⟨rfl, rfl⟩
end MODEL0
end
section
section MODEL1
def rX7_forceIn : Room := { frames := 0, cells := 0, slots := 0, locals := 0 }
def f_X7_forceIn_L5 : Nat → mS → Int32 → Int32 → Int32 → Int32 → Option (Int32)
  | 0, _, _, _, _, _ => none
  | n + 1, μ, x1, x2, x3, x4 => if (μ.1 21 0) ≤ x4 then some (x3) else bif vin ((6 * x4) + x1) 60 then letm (μ.1 25 (((6 * x4) + x1)).toNatClampNeg) fun y26 => if y26 ≤ 0 then f_X7_forceIn_L5 n μ x1 x2 x3 (x4 + 1) else if x2 < (y26 - 1) then f_X7_forceIn_L5 n μ x1 x2 x3 (x4 + 1) else if x3 < 0 then f_X7_forceIn_L5 n μ x1 x2 x4 (x4 + 1) else bif vin ((6 * x3) + x1) 60 then if y26 < (μ.1 25 (((6 * x3) + x1)).toNatClampNeg) then f_X7_forceIn_L5 n μ x1 x2 x3 (x4 + 1) else f_X7_forceIn_L5 n μ x1 x2 x4 (x4 + 1) else none else none
set_option maxHeartbeats 4000000 in
set_option maxRecDepth 100000 in
theorem s_X7_forceIn_L5 {Q : Option Value → hH → Prop} (g : hH) : ∀ (n : Nat) (μ : mS) (x1 : Int32) (x2 : Int32) (x3 : Int32) (x4 : Int32) (r : Int32), f_X7_forceIn_L5 n μ x1 x2 x3 x4 = some r → (J mX7_forceIn rX7_forceIn Q 0 0 (gm g μ) 70 [(3, .int r)] []) → J mX7_forceIn rX7_forceIn Q 0 0 (gm g μ) 5 [(0, .ref 5000), (1, .int x1), (2, .int x2), (3, .int x3), (4, .int x4)] [] := by
  intro n
  induction n with
  | zero =>
    intro μ x1 x2 x3 x4 r hf
    cases hf
  | succ n ih =>
    intro μ x1 x2 x3 x4 r hf k0
    rw [f_X7_forceIn_L5] at hf
    refine j_iload (pc' := 7) rfl rfl rfl ?_
    refine j_aload_n (pc' := 8) rfl rfl rfl ?_
    refine j_get (pc' := 11) rfl rfl flX7_205 (gm_o g μ) (mF_21 μ) ?_
    refine j_icmp_ge (tgt := 70) (pc' := 14) rfl rfl rfl (fun c11 => ?_) (fun c11 => ?_)
    · rw [if_pos c11] at hf
      have hf := Option.some.inj hf; subst hf
      exact j_sub (ls' := [(3, .int _)]) ⟨rfl, trivial⟩ (k0)
    · rw [if_neg c11] at hf
      refine j_aload_n (pc' := 15) rfl rfl rfl ?_
      refine j_get (pc' := 18) rfl rfl flX7_69 (gm_o g μ) (mF_25 μ) ?_
      refine j_bipush (v := 6) (pc' := 20) rfl rfl (by decide) ?_
      refine j_iload (pc' := 22) rfl rfl rfl ?_
      refine j_imul (pc' := 23) rfl rfl ?_
      refine j_iload_n (pc' := 24) rfl rfl rfl ?_
      refine j_iadd (pc' := 25) rfl rfl ?_
      obtain ⟨c25, hf⟩ := o_chk hf
      refine j_iald (pc' := 26) rfl rfl (gm_25 g μ) (vin_ok c25) ?_
      obtain ⟨y26, e26, hf⟩ := o_let hf
      rw [e26]
      refine j_istore (pc' := 28) (ls' := [(5, _), (0, _), (1, _), (2, _), (3, _), (4, _)]) rfl rfl (Nat.le_of_ble_eq_true rfl) rfl ?_
      refine j_iload (pc' := 30) rfl rfl rfl ?_
      refine j_if_le (tgt := 64) (pc' := 33) rfl rfl rfl (fun c30 => ?_) (fun c30 => ?_)
      · rw [if_pos c30] at hf
        refine j_iinc (pc' := 67) (d := 1) (ls' := [(4, _), (5, _), (0, _), (1, _), (2, _), (3, _)]) rfl rfl rfl (by decide) (Nat.le_of_ble_eq_true rfl) rfl ?_
        refine j_goto (tgt := 5) rfl rfl ?_
        refine j_sub (ls' := [(0, .ref 5000), (1, .int _), (2, .int _), (3, .int _), (4, .int _)]) ⟨rfl, rfl, rfl, rfl, rfl, trivial⟩ ?_
        exact ih _ _ _ _ _ _ hf k0
      · rw [if_neg c30] at hf
        refine j_iload (pc' := 35) rfl rfl rfl ?_
        refine j_iconst (v := 1) (pc' := 36) rfl rfl (by decide) ?_
        refine j_isub (pc' := 37) rfl rfl ?_
        refine j_iload_n (pc' := 38) rfl rfl rfl ?_
        refine j_icmp_gt (tgt := 64) (pc' := 41) rfl rfl rfl (fun c38 => ?_) (fun c38 => ?_)
        · rw [if_pos c38] at hf
          refine j_iinc (pc' := 67) (d := 1) (ls' := [(4, _), (5, _), (0, _), (1, _), (2, _), (3, _)]) rfl rfl rfl (by decide) (Nat.le_of_ble_eq_true rfl) rfl ?_
          refine j_goto (tgt := 5) rfl rfl ?_
          refine j_sub (ls' := [(0, .ref 5000), (1, .int _), (2, .int _), (3, .int _), (4, .int _)]) ⟨rfl, rfl, rfl, rfl, rfl, trivial⟩ ?_
          exact ih _ _ _ _ _ _ hf k0
        · rw [if_neg c38] at hf
          refine j_iload_n (pc' := 42) rfl rfl rfl ?_
          refine j_if_lt (tgt := 61) (pc' := 45) rfl rfl rfl (fun c42 => ?_) (fun c42 => ?_)
          · rw [if_pos c42] at hf
            refine j_iload (pc' := 63) rfl rfl rfl ?_
            refine j_istore_n (pc' := 64) (ls' := [(3, _), (5, _), (0, _), (1, _), (2, _), (4, _)]) rfl rfl (Nat.le_of_ble_eq_true rfl) rfl ?_
            refine j_iinc (pc' := 67) (d := 1) (ls' := [(4, _), (3, _), (5, _), (0, _), (1, _), (2, _)]) rfl rfl rfl (by decide) (Nat.le_of_ble_eq_true rfl) rfl ?_
            refine j_goto (tgt := 5) rfl rfl ?_
            refine j_sub (ls' := [(0, .ref 5000), (1, .int _), (2, .int _), (3, .int _), (4, .int _)]) ⟨rfl, rfl, rfl, rfl, rfl, trivial⟩ ?_
            exact ih _ _ _ _ _ _ hf k0
          · rw [if_neg c42] at hf
            refine j_iload (pc' := 47) rfl rfl rfl ?_
            refine j_aload_n (pc' := 48) rfl rfl rfl ?_
            refine j_get (pc' := 51) rfl rfl flX7_69 (gm_o g μ) (mF_25 μ) ?_
            refine j_bipush (v := 6) (pc' := 53) rfl rfl (by decide) ?_
            refine j_iload_n (pc' := 54) rfl rfl rfl ?_
            refine j_imul (pc' := 55) rfl rfl ?_
            refine j_iload_n (pc' := 56) rfl rfl rfl ?_
            refine j_iadd (pc' := 57) rfl rfl ?_
            obtain ⟨c57, hf⟩ := o_chk hf
            refine j_iald (pc' := 58) rfl rfl (gm_25 g μ) (vin_ok c57) ?_
            refine j_icmp_lt (tgt := 64) (pc' := 61) rfl rfl rfl (fun c58 => ?_) (fun c58 => ?_)
            · rw [if_pos c58] at hf
              refine j_iinc (pc' := 67) (d := 1) (ls' := [(4, _), (5, _), (0, _), (1, _), (2, _), (3, _)]) rfl rfl rfl (by decide) (Nat.le_of_ble_eq_true rfl) rfl ?_
              refine j_goto (tgt := 5) rfl rfl ?_
              refine j_sub (ls' := [(0, .ref 5000), (1, .int _), (2, .int _), (3, .int _), (4, .int _)]) ⟨rfl, rfl, rfl, rfl, rfl, trivial⟩ ?_
              exact ih _ _ _ _ _ _ hf k0
            · rw [if_neg c58] at hf
              refine j_iload (pc' := 63) rfl rfl rfl ?_
              refine j_istore_n (pc' := 64) (ls' := [(3, _), (5, _), (0, _), (1, _), (2, _), (4, _)]) rfl rfl (Nat.le_of_ble_eq_true rfl) rfl ?_
              refine j_iinc (pc' := 67) (d := 1) (ls' := [(4, _), (3, _), (5, _), (0, _), (1, _), (2, _)]) rfl rfl rfl (by decide) (Nat.le_of_ble_eq_true rfl) rfl ?_
              refine j_goto (tgt := 5) rfl rfl ?_
              refine j_sub (ls' := [(0, .ref 5000), (1, .int _), (2, .int _), (3, .int _), (4, .int _)]) ⟨rfl, rfl, rfl, rfl, rfl, trivial⟩ ?_
              exact ih _ _ _ _ _ _ hf k0
def f_X7_forceIn (μ : mS) (x1 : Int32) (x2 : Int32) : Option Int32 := (f_X7_forceIn_L5 4000 μ x1 x2 (-1) 0).bind fun r5 => some r5
set_option maxHeartbeats 4000000 in
set_option maxRecDepth 100000 in
theorem s_X7_forceIn (g : hH) (μ : mS) (x1 : Int32) (x2 : Int32) (r : Int32) (hf : f_X7_forceIn μ x1 x2 = some r) : SpD mX7_forceIn rX7_forceIn [.ref 5000, .int x1, .int x2] (gm g μ) (some (.int r)) (gm g μ) := by
  refine sp_of miX7_forceIn (Nat.le_of_ble_eq_true rfl) ?_
  show J _ _ _ 0 0 _ 0 [(0, .ref 5000), (1, .int x1), (2, .int x2)] []
  unfold f_X7_forceIn at hf
  refine j_iconst (v := (-1)) (pc' := 1) rfl rfl (by decide) ?_
  refine j_istore_n (pc' := 2) (ls' := [(3, _), (0, _), (1, _), (2, _)]) rfl rfl (Nat.le_of_ble_eq_true rfl) rfl ?_
  refine j_iconst (v := 0) (pc' := 3) rfl rfl (by decide) ?_
  refine j_istore (pc' := 5) (ls' := [(4, _), (3, _), (0, _), (1, _), (2, _)]) rfl rfl (Nat.le_of_ble_eq_true rfl) rfl ?_
  obtain ⟨r5, e5, hf⟩ := o_bind hf
  refine j_sub (ls' := [(0, .ref 5000), (1, .int x1), (2, .int x2), (3, .int (-1)), (4, .int 0)]) ⟨rfl, rfl, rfl, rfl, rfl, trivial⟩ ?_
  refine s_X7_forceIn_L5 g _ _ _ _ _ _ _ e5 ?_
  refine j_iload_n (pc' := 71) rfl rfl rfl ?_
  have hf := Option.some.inj hf; subst hf
  exact j_iret rfl rfl (Nat.zero_le _) (Nat.zero_le _) ⟨rfl, rfl⟩
def rX7_passes : Room := { frames := 1, cells := 0, slots := 0, locals := 25 }
def f_X7_passes (μ : mS) (x1 : Int32) (x2 : Int32) (x3 : Int32) : Option Int32 := bif vin x1 30 then if (μ.1 8 (x1).toNatClampNeg) = 3 then some 0 else bif vin x1 30 then if (μ.1 18 (x1).toNatClampNeg) = 0 then bif vin x1 30 then if (μ.1 17 (x1).toNatClampNeg) = 0 then (f_X7_forceIn μ x2 x3).bind fun r43 => bif vin x1 30 then letm ((8 * r43) + (μ.1 9 (x1).toNatClampNeg)) fun y60 => if r43 < 0 then bif vin x1 30 then bif vin (μ.1 9 (x1).toNatClampNeg) 8 then bif vin x1 30 then some ((μ.1 5 ((μ.1 9 (x1).toNatClampNeg)).toNatClampNeg) * (μ.1 10 (x1).toNatClampNeg)) else none else none else none else bif vin y60 80 then if (μ.1 22 (y60).toNatClampNeg) = 0 then bif vin x1 30 then bif vin (μ.1 9 (x1).toNatClampNeg) 8 then bif vin x1 30 then some ((μ.1 5 ((μ.1 9 (x1).toNatClampNeg)).toNatClampNeg) * (μ.1 10 (x1).toNatClampNeg)) else none else none else none else bif vin y60 80 then if (μ.1 22 (y60).toNatClampNeg) = 3 then some 0 else bif vin y60 80 then if (μ.1 22 (y60).toNatClampNeg) = 1 then bif vin y60 80 then bif vin x1 30 then some ((μ.1 23 (y60).toNatClampNeg) * (μ.1 10 (x1).toNatClampNeg)) else none else none else bif vin y60 80 then bif vin x1 30 then bif vin y60 80 then if ((μ.1 24 (y60).toNatClampNeg)).toInt64 = 0 then none else some ((((((μ.1 23 (y60).toNatClampNeg)).toInt64 * ((μ.1 11 (x1).toNatClampNeg)).toInt64) / ((μ.1 24 (y60).toNatClampNeg)).toInt64)).toInt32) else none else none else none else none else none else none else none else bif vin x1 30 then if (μ.1 13 (x1).toNatClampNeg) = x2 then some 0 else (f_X7_forceIn μ x2 x3).bind fun r43 => bif vin x1 30 then letm ((8 * r43) + (μ.1 9 (x1).toNatClampNeg)) fun y60 => if r43 < 0 then bif vin x1 30 then bif vin (μ.1 9 (x1).toNatClampNeg) 8 then bif vin x1 30 then some ((μ.1 5 ((μ.1 9 (x1).toNatClampNeg)).toNatClampNeg) * (μ.1 10 (x1).toNatClampNeg)) else none else none else none else bif vin y60 80 then if (μ.1 22 (y60).toNatClampNeg) = 0 then bif vin x1 30 then bif vin (μ.1 9 (x1).toNatClampNeg) 8 then bif vin x1 30 then some ((μ.1 5 ((μ.1 9 (x1).toNatClampNeg)).toNatClampNeg) * (μ.1 10 (x1).toNatClampNeg)) else none else none else none else bif vin y60 80 then if (μ.1 22 (y60).toNatClampNeg) = 3 then some 0 else bif vin y60 80 then if (μ.1 22 (y60).toNatClampNeg) = 1 then bif vin y60 80 then bif vin x1 30 then some ((μ.1 23 (y60).toNatClampNeg) * (μ.1 10 (x1).toNatClampNeg)) else none else none else bif vin y60 80 then bif vin x1 30 then bif vin y60 80 then if ((μ.1 24 (y60).toNatClampNeg)).toInt64 = 0 then none else some ((((((μ.1 23 (y60).toNatClampNeg)).toInt64 * ((μ.1 11 (x1).toNatClampNeg)).toInt64) / ((μ.1 24 (y60).toNatClampNeg)).toInt64)).toInt32) else none else none else none else none else none else none else none else none else none else some 0 else none else none
set_option maxHeartbeats 4000000 in
set_option maxRecDepth 100000 in
theorem s_X7_passes (g : hH) (μ : mS) (x1 : Int32) (x2 : Int32) (x3 : Int32) (r : Int32) (hf : f_X7_passes μ x1 x2 x3 = some r) : SpD mX7_passes rX7_passes [.ref 5000, .int x1, .int x2, .int x3] (gm g μ) (some (.int r)) (gm g μ) := by
  refine sp_of miX7_passes (Nat.le_of_ble_eq_true rfl) ?_
  show J _ _ _ 0 0 _ 0 [(0, .ref 5000), (1, .int x1), (2, .int x2), (3, .int x3)] []
  unfold f_X7_passes at hf
  refine j_aload_n (pc' := 1) rfl rfl rfl ?_
  refine j_get (pc' := 4) rfl rfl flX7_22 (gm_o g μ) (mF_8 μ) ?_
  refine j_iload_n (pc' := 5) rfl rfl rfl ?_
  obtain ⟨c5, hf⟩ := o_chk hf
  refine j_iald (pc' := 6) rfl rfl (gm_8 g μ) (vin_ok c5) ?_
  refine j_iconst (v := 3) (pc' := 7) rfl rfl (by decide) ?_
  refine j_icmp_eq (tgt := 38) (pc' := 10) rfl rfl rfl (fun c7 => ?_) (fun c7 => ?_)
  · rw [if_pos c7] at hf
    refine j_iconst (v := 0) (pc' := 39) rfl rfl (by decide) ?_
    have hf := Option.some.inj hf; subst hf
    exact j_iret rfl rfl (Nat.zero_le _) (Nat.zero_le _) ⟨rfl, rfl⟩
  · rw [if_neg c7] at hf
    refine j_aload_n (pc' := 11) rfl rfl rfl ?_
    refine j_get (pc' := 14) rfl rfl flX7_53 (gm_o g μ) (mF_18 μ) ?_
    refine j_iload_n (pc' := 15) rfl rfl rfl ?_
    obtain ⟨c15, hf⟩ := o_chk hf
    refine j_zald (pc' := 16) rfl rfl (gm_18 g μ) (vin_ok c15) ?_
    refine j_if_ne (tgt := 38) (pc' := 19) rfl rfl rfl (fun c16 => ?_) (fun c16 => ?_)
    · rw [if_neg c16] at hf
      refine j_iconst (v := 0) (pc' := 39) rfl rfl (by decide) ?_
      have hf := Option.some.inj hf; subst hf
      exact j_iret rfl rfl (Nat.zero_le _) (Nat.zero_le _) ⟨rfl, rfl⟩
    · rw [if_pos c16] at hf
      refine j_aload_n (pc' := 20) rfl rfl rfl ?_
      refine j_get (pc' := 23) rfl rfl flX7_50 (gm_o g μ) (mF_17 μ) ?_
      refine j_iload_n (pc' := 24) rfl rfl rfl ?_
      obtain ⟨c24, hf⟩ := o_chk hf
      refine j_zald (pc' := 25) rfl rfl (gm_17 g μ) (vin_ok c24) ?_
      refine j_if_eq (tgt := 40) (pc' := 28) rfl rfl rfl (fun c25 => ?_) (fun c25 => ?_)
      · rw [if_pos c25] at hf
        refine j_aload_n (pc' := 41) rfl rfl rfl ?_
        refine j_iload_n (pc' := 42) rfl rfl rfl ?_
        refine j_iload_n (pc' := 43) rfl rfl rfl ?_
        obtain ⟨r43, e43, hf⟩ := o_bind hf
        refine j_v2 (pc' := 46) rfl rfl miX7_forceIn lnX7_214 (gm_o g μ) rfl (s_X7_forceIn g μ x2 x3 _ e43) (h_rm_of rfl) (Nat.le_of_ble_eq_true rfl) (c' := 0) (s' := 0) rfl rfl ?_
        refine j_istore (pc' := 48) (ls' := [(4, _), (0, _), (1, _), (2, _), (3, _)]) rfl rfl (Nat.le_of_ble_eq_true rfl) rfl ?_
        refine j_bipush (v := 8) (pc' := 50) rfl rfl (by decide) ?_
        refine j_iload (pc' := 52) rfl rfl rfl ?_
        refine j_imul (pc' := 53) rfl rfl ?_
        refine j_aload_n (pc' := 54) rfl rfl rfl ?_
        refine j_get (pc' := 57) rfl rfl flX7_25 (gm_o g μ) (mF_9 μ) ?_
        refine j_iload_n (pc' := 58) rfl rfl rfl ?_
        obtain ⟨c58, hf⟩ := o_chk hf
        refine j_iald (pc' := 59) rfl rfl (gm_9 g μ) (vin_ok c58) ?_
        refine j_iadd (pc' := 60) rfl rfl ?_
        obtain ⟨y60, e60, hf⟩ := o_let hf
        rw [e60]
        refine j_istore (pc' := 62) (ls' := [(5, _), (4, _), (0, _), (1, _), (2, _), (3, _)]) rfl rfl (Nat.le_of_ble_eq_true rfl) rfl ?_
        refine j_iload (pc' := 64) rfl rfl rfl ?_
        refine j_if_lt (tgt := 77) (pc' := 67) rfl rfl rfl (fun c64 => ?_) (fun c64 => ?_)
        · rw [if_pos c64] at hf
          refine j_aload_n (pc' := 78) rfl rfl rfl ?_
          refine j_get (pc' := 81) rfl rfl flX7_19 (gm_o g μ) (mF_5 μ) ?_
          refine j_aload_n (pc' := 82) rfl rfl rfl ?_
          refine j_get (pc' := 85) rfl rfl flX7_25 (gm_o g μ) (mF_9 μ) ?_
          refine j_iload_n (pc' := 86) rfl rfl rfl ?_
          obtain ⟨c86, hf⟩ := o_chk hf
          refine j_iald (pc' := 87) rfl rfl (gm_9 g μ) (vin_ok c86) ?_
          obtain ⟨c87, hf⟩ := o_chk hf
          refine j_iald (pc' := 88) rfl rfl (gm_5 g μ) (vin_ok c87) ?_
          refine j_aload_n (pc' := 89) rfl rfl rfl ?_
          refine j_get (pc' := 92) rfl rfl flX7_28 (gm_o g μ) (mF_10 μ) ?_
          refine j_iload_n (pc' := 93) rfl rfl rfl ?_
          obtain ⟨c93, hf⟩ := o_chk hf
          refine j_iald (pc' := 94) rfl rfl (gm_10 g μ) (vin_ok c93) ?_
          refine j_imul (pc' := 95) rfl rfl ?_
          have hf := Option.some.inj hf; subst hf
          exact j_iret rfl rfl (Nat.zero_le _) (Nat.zero_le _) ⟨rfl, rfl⟩
        · rw [if_neg c64] at hf
          refine j_aload_n (pc' := 68) rfl rfl rfl ?_
          refine j_get (pc' := 71) rfl rfl flX7_60 (gm_o g μ) (mF_22 μ) ?_
          refine j_iload (pc' := 73) rfl rfl rfl ?_
          obtain ⟨c73, hf⟩ := o_chk hf
          refine j_iald (pc' := 74) rfl rfl (gm_22 g μ) (vin_ok c73) ?_
          refine j_if_ne (tgt := 96) (pc' := 77) rfl rfl rfl (fun c74 => ?_) (fun c74 => ?_)
          · rw [if_neg c74] at hf
            refine j_aload_n (pc' := 97) rfl rfl rfl ?_
            refine j_get (pc' := 100) rfl rfl flX7_60 (gm_o g μ) (mF_22 μ) ?_
            refine j_iload (pc' := 102) rfl rfl rfl ?_
            obtain ⟨c102, hf⟩ := o_chk hf
            refine j_iald (pc' := 103) rfl rfl (gm_22 g μ) (vin_ok c102) ?_
            refine j_iconst (v := 3) (pc' := 104) rfl rfl (by decide) ?_
            refine j_icmp_ne (tgt := 111) (pc' := 107) rfl rfl rfl (fun c104 => ?_) (fun c104 => ?_)
            · rw [if_neg c104] at hf
              refine j_aload_n (pc' := 112) rfl rfl rfl ?_
              refine j_get (pc' := 115) rfl rfl flX7_60 (gm_o g μ) (mF_22 μ) ?_
              refine j_iload (pc' := 117) rfl rfl rfl ?_
              obtain ⟨c117, hf⟩ := o_chk hf
              refine j_iald (pc' := 118) rfl rfl (gm_22 g μ) (vin_ok c117) ?_
              refine j_iconst (v := 1) (pc' := 119) rfl rfl (by decide) ?_
              refine j_icmp_ne (tgt := 139) (pc' := 122) rfl rfl rfl (fun c119 => ?_) (fun c119 => ?_)
              · rw [if_neg c119] at hf
                refine j_aload_n (pc' := 140) rfl rfl rfl ?_
                refine j_get (pc' := 143) rfl rfl flX7_63 (gm_o g μ) (mF_23 μ) ?_
                refine j_iload (pc' := 145) rfl rfl rfl ?_
                obtain ⟨c145, hf⟩ := o_chk hf
                refine j_iald (pc' := 146) rfl rfl (gm_23 g μ) (vin_ok c145) ?_
                refine j_i2l (pc' := 147) rfl rfl ?_
                refine j_aload_n (pc' := 148) rfl rfl rfl ?_
                refine j_get (pc' := 151) rfl rfl flX7_31 (gm_o g μ) (mF_11 μ) ?_
                refine j_iload_n (pc' := 152) rfl rfl rfl ?_
                obtain ⟨c152, hf⟩ := o_chk hf
                refine j_iald (pc' := 153) rfl rfl (gm_11 g μ) (vin_ok c152) ?_
                refine j_i2l (pc' := 154) rfl rfl ?_
                refine j_lmul (pc' := 155) rfl rfl ?_
                refine j_aload_n (pc' := 156) rfl rfl rfl ?_
                refine j_get (pc' := 159) rfl rfl flX7_66 (gm_o g μ) (mF_24 μ) ?_
                refine j_iload (pc' := 161) rfl rfl rfl ?_
                obtain ⟨c161, hf⟩ := o_chk hf
                refine j_iald (pc' := 162) rfl rfl (gm_24 g μ) (vin_ok c161) ?_
                refine j_i2l (pc' := 163) rfl rfl ?_
                obtain ⟨c163, hf⟩ := o_nz hf
                refine j_ldiv (pc' := 164) rfl rfl c163 ?_
                refine j_l2i (pc' := 165) rfl rfl ?_
                have hf := Option.some.inj hf; subst hf
                exact j_iret rfl rfl (Nat.zero_le _) (Nat.zero_le _) ⟨rfl, rfl⟩
              · rw [if_pos c119] at hf
                refine j_aload_n (pc' := 123) rfl rfl rfl ?_
                refine j_get (pc' := 126) rfl rfl flX7_63 (gm_o g μ) (mF_23 μ) ?_
                refine j_iload (pc' := 128) rfl rfl rfl ?_
                obtain ⟨c128, hf⟩ := o_chk hf
                refine j_iald (pc' := 129) rfl rfl (gm_23 g μ) (vin_ok c128) ?_
                refine j_aload_n (pc' := 130) rfl rfl rfl ?_
                refine j_get (pc' := 133) rfl rfl flX7_28 (gm_o g μ) (mF_10 μ) ?_
                refine j_iload_n (pc' := 134) rfl rfl rfl ?_
                obtain ⟨c134, hf⟩ := o_chk hf
                refine j_iald (pc' := 135) rfl rfl (gm_10 g μ) (vin_ok c134) ?_
                refine j_imul (pc' := 136) rfl rfl ?_
                refine j_goto (tgt := 165) rfl rfl ?_
                have hf := Option.some.inj hf; subst hf
                exact j_iret rfl rfl (Nat.zero_le _) (Nat.zero_le _) ⟨rfl, rfl⟩
            · rw [if_pos c104] at hf
              refine j_iconst (v := 0) (pc' := 108) rfl rfl (by decide) ?_
              refine j_goto (tgt := 165) rfl rfl ?_
              have hf := Option.some.inj hf; subst hf
              exact j_iret rfl rfl (Nat.zero_le _) (Nat.zero_le _) ⟨rfl, rfl⟩
          · rw [if_pos c74] at hf
            refine j_aload_n (pc' := 78) rfl rfl rfl ?_
            refine j_get (pc' := 81) rfl rfl flX7_19 (gm_o g μ) (mF_5 μ) ?_
            refine j_aload_n (pc' := 82) rfl rfl rfl ?_
            refine j_get (pc' := 85) rfl rfl flX7_25 (gm_o g μ) (mF_9 μ) ?_
            refine j_iload_n (pc' := 86) rfl rfl rfl ?_
            obtain ⟨c86, hf⟩ := o_chk hf
            refine j_iald (pc' := 87) rfl rfl (gm_9 g μ) (vin_ok c86) ?_
            obtain ⟨c87, hf⟩ := o_chk hf
            refine j_iald (pc' := 88) rfl rfl (gm_5 g μ) (vin_ok c87) ?_
            refine j_aload_n (pc' := 89) rfl rfl rfl ?_
            refine j_get (pc' := 92) rfl rfl flX7_28 (gm_o g μ) (mF_10 μ) ?_
            refine j_iload_n (pc' := 93) rfl rfl rfl ?_
            obtain ⟨c93, hf⟩ := o_chk hf
            refine j_iald (pc' := 94) rfl rfl (gm_10 g μ) (vin_ok c93) ?_
            refine j_imul (pc' := 95) rfl rfl ?_
            have hf := Option.some.inj hf; subst hf
            exact j_iret rfl rfl (Nat.zero_le _) (Nat.zero_le _) ⟨rfl, rfl⟩
      · rw [if_neg c25] at hf
        refine j_aload_n (pc' := 29) rfl rfl rfl ?_
        refine j_get (pc' := 32) rfl rfl flX7_37 (gm_o g μ) (mF_13 μ) ?_
        refine j_iload_n (pc' := 33) rfl rfl rfl ?_
        obtain ⟨c33, hf⟩ := o_chk hf
        refine j_iald (pc' := 34) rfl rfl (gm_13 g μ) (vin_ok c33) ?_
        refine j_iload_n (pc' := 35) rfl rfl rfl ?_
        refine j_icmp_ne (tgt := 40) (pc' := 38) rfl rfl rfl (fun c35 => ?_) (fun c35 => ?_)
        · rw [if_neg c35] at hf
          refine j_aload_n (pc' := 41) rfl rfl rfl ?_
          refine j_iload_n (pc' := 42) rfl rfl rfl ?_
          refine j_iload_n (pc' := 43) rfl rfl rfl ?_
          obtain ⟨r43, e43, hf⟩ := o_bind hf
          refine j_v2 (pc' := 46) rfl rfl miX7_forceIn lnX7_214 (gm_o g μ) rfl (s_X7_forceIn g μ x2 x3 _ e43) (h_rm_of rfl) (Nat.le_of_ble_eq_true rfl) (c' := 0) (s' := 0) rfl rfl ?_
          refine j_istore (pc' := 48) (ls' := [(4, _), (0, _), (1, _), (2, _), (3, _)]) rfl rfl (Nat.le_of_ble_eq_true rfl) rfl ?_
          refine j_bipush (v := 8) (pc' := 50) rfl rfl (by decide) ?_
          refine j_iload (pc' := 52) rfl rfl rfl ?_
          refine j_imul (pc' := 53) rfl rfl ?_
          refine j_aload_n (pc' := 54) rfl rfl rfl ?_
          refine j_get (pc' := 57) rfl rfl flX7_25 (gm_o g μ) (mF_9 μ) ?_
          refine j_iload_n (pc' := 58) rfl rfl rfl ?_
          obtain ⟨c58, hf⟩ := o_chk hf
          refine j_iald (pc' := 59) rfl rfl (gm_9 g μ) (vin_ok c58) ?_
          refine j_iadd (pc' := 60) rfl rfl ?_
          obtain ⟨y60, e60, hf⟩ := o_let hf
          rw [e60]
          refine j_istore (pc' := 62) (ls' := [(5, _), (4, _), (0, _), (1, _), (2, _), (3, _)]) rfl rfl (Nat.le_of_ble_eq_true rfl) rfl ?_
          refine j_iload (pc' := 64) rfl rfl rfl ?_
          refine j_if_lt (tgt := 77) (pc' := 67) rfl rfl rfl (fun c64 => ?_) (fun c64 => ?_)
          · rw [if_pos c64] at hf
            refine j_aload_n (pc' := 78) rfl rfl rfl ?_
            refine j_get (pc' := 81) rfl rfl flX7_19 (gm_o g μ) (mF_5 μ) ?_
            refine j_aload_n (pc' := 82) rfl rfl rfl ?_
            refine j_get (pc' := 85) rfl rfl flX7_25 (gm_o g μ) (mF_9 μ) ?_
            refine j_iload_n (pc' := 86) rfl rfl rfl ?_
            obtain ⟨c86, hf⟩ := o_chk hf
            refine j_iald (pc' := 87) rfl rfl (gm_9 g μ) (vin_ok c86) ?_
            obtain ⟨c87, hf⟩ := o_chk hf
            refine j_iald (pc' := 88) rfl rfl (gm_5 g μ) (vin_ok c87) ?_
            refine j_aload_n (pc' := 89) rfl rfl rfl ?_
            refine j_get (pc' := 92) rfl rfl flX7_28 (gm_o g μ) (mF_10 μ) ?_
            refine j_iload_n (pc' := 93) rfl rfl rfl ?_
            obtain ⟨c93, hf⟩ := o_chk hf
            refine j_iald (pc' := 94) rfl rfl (gm_10 g μ) (vin_ok c93) ?_
            refine j_imul (pc' := 95) rfl rfl ?_
            have hf := Option.some.inj hf; subst hf
            exact j_iret rfl rfl (Nat.zero_le _) (Nat.zero_le _) ⟨rfl, rfl⟩
          · rw [if_neg c64] at hf
            refine j_aload_n (pc' := 68) rfl rfl rfl ?_
            refine j_get (pc' := 71) rfl rfl flX7_60 (gm_o g μ) (mF_22 μ) ?_
            refine j_iload (pc' := 73) rfl rfl rfl ?_
            obtain ⟨c73, hf⟩ := o_chk hf
            refine j_iald (pc' := 74) rfl rfl (gm_22 g μ) (vin_ok c73) ?_
            refine j_if_ne (tgt := 96) (pc' := 77) rfl rfl rfl (fun c74 => ?_) (fun c74 => ?_)
            · rw [if_neg c74] at hf
              refine j_aload_n (pc' := 97) rfl rfl rfl ?_
              refine j_get (pc' := 100) rfl rfl flX7_60 (gm_o g μ) (mF_22 μ) ?_
              refine j_iload (pc' := 102) rfl rfl rfl ?_
              obtain ⟨c102, hf⟩ := o_chk hf
              refine j_iald (pc' := 103) rfl rfl (gm_22 g μ) (vin_ok c102) ?_
              refine j_iconst (v := 3) (pc' := 104) rfl rfl (by decide) ?_
              refine j_icmp_ne (tgt := 111) (pc' := 107) rfl rfl rfl (fun c104 => ?_) (fun c104 => ?_)
              · rw [if_neg c104] at hf
                refine j_aload_n (pc' := 112) rfl rfl rfl ?_
                refine j_get (pc' := 115) rfl rfl flX7_60 (gm_o g μ) (mF_22 μ) ?_
                refine j_iload (pc' := 117) rfl rfl rfl ?_
                obtain ⟨c117, hf⟩ := o_chk hf
                refine j_iald (pc' := 118) rfl rfl (gm_22 g μ) (vin_ok c117) ?_
                refine j_iconst (v := 1) (pc' := 119) rfl rfl (by decide) ?_
                refine j_icmp_ne (tgt := 139) (pc' := 122) rfl rfl rfl (fun c119 => ?_) (fun c119 => ?_)
                · rw [if_neg c119] at hf
                  refine j_aload_n (pc' := 140) rfl rfl rfl ?_
                  refine j_get (pc' := 143) rfl rfl flX7_63 (gm_o g μ) (mF_23 μ) ?_
                  refine j_iload (pc' := 145) rfl rfl rfl ?_
                  obtain ⟨c145, hf⟩ := o_chk hf
                  refine j_iald (pc' := 146) rfl rfl (gm_23 g μ) (vin_ok c145) ?_
                  refine j_i2l (pc' := 147) rfl rfl ?_
                  refine j_aload_n (pc' := 148) rfl rfl rfl ?_
                  refine j_get (pc' := 151) rfl rfl flX7_31 (gm_o g μ) (mF_11 μ) ?_
                  refine j_iload_n (pc' := 152) rfl rfl rfl ?_
                  obtain ⟨c152, hf⟩ := o_chk hf
                  refine j_iald (pc' := 153) rfl rfl (gm_11 g μ) (vin_ok c152) ?_
                  refine j_i2l (pc' := 154) rfl rfl ?_
                  refine j_lmul (pc' := 155) rfl rfl ?_
                  refine j_aload_n (pc' := 156) rfl rfl rfl ?_
                  refine j_get (pc' := 159) rfl rfl flX7_66 (gm_o g μ) (mF_24 μ) ?_
                  refine j_iload (pc' := 161) rfl rfl rfl ?_
                  obtain ⟨c161, hf⟩ := o_chk hf
                  refine j_iald (pc' := 162) rfl rfl (gm_24 g μ) (vin_ok c161) ?_
                  refine j_i2l (pc' := 163) rfl rfl ?_
                  obtain ⟨c163, hf⟩ := o_nz hf
                  refine j_ldiv (pc' := 164) rfl rfl c163 ?_
                  refine j_l2i (pc' := 165) rfl rfl ?_
                  have hf := Option.some.inj hf; subst hf
                  exact j_iret rfl rfl (Nat.zero_le _) (Nat.zero_le _) ⟨rfl, rfl⟩
                · rw [if_pos c119] at hf
                  refine j_aload_n (pc' := 123) rfl rfl rfl ?_
                  refine j_get (pc' := 126) rfl rfl flX7_63 (gm_o g μ) (mF_23 μ) ?_
                  refine j_iload (pc' := 128) rfl rfl rfl ?_
                  obtain ⟨c128, hf⟩ := o_chk hf
                  refine j_iald (pc' := 129) rfl rfl (gm_23 g μ) (vin_ok c128) ?_
                  refine j_aload_n (pc' := 130) rfl rfl rfl ?_
                  refine j_get (pc' := 133) rfl rfl flX7_28 (gm_o g μ) (mF_10 μ) ?_
                  refine j_iload_n (pc' := 134) rfl rfl rfl ?_
                  obtain ⟨c134, hf⟩ := o_chk hf
                  refine j_iald (pc' := 135) rfl rfl (gm_10 g μ) (vin_ok c134) ?_
                  refine j_imul (pc' := 136) rfl rfl ?_
                  refine j_goto (tgt := 165) rfl rfl ?_
                  have hf := Option.some.inj hf; subst hf
                  exact j_iret rfl rfl (Nat.zero_le _) (Nat.zero_le _) ⟨rfl, rfl⟩
              · rw [if_pos c104] at hf
                refine j_iconst (v := 0) (pc' := 108) rfl rfl (by decide) ?_
                refine j_goto (tgt := 165) rfl rfl ?_
                have hf := Option.some.inj hf; subst hf
                exact j_iret rfl rfl (Nat.zero_le _) (Nat.zero_le _) ⟨rfl, rfl⟩
            · rw [if_pos c74] at hf
              refine j_aload_n (pc' := 78) rfl rfl rfl ?_
              refine j_get (pc' := 81) rfl rfl flX7_19 (gm_o g μ) (mF_5 μ) ?_
              refine j_aload_n (pc' := 82) rfl rfl rfl ?_
              refine j_get (pc' := 85) rfl rfl flX7_25 (gm_o g μ) (mF_9 μ) ?_
              refine j_iload_n (pc' := 86) rfl rfl rfl ?_
              obtain ⟨c86, hf⟩ := o_chk hf
              refine j_iald (pc' := 87) rfl rfl (gm_9 g μ) (vin_ok c86) ?_
              obtain ⟨c87, hf⟩ := o_chk hf
              refine j_iald (pc' := 88) rfl rfl (gm_5 g μ) (vin_ok c87) ?_
              refine j_aload_n (pc' := 89) rfl rfl rfl ?_
              refine j_get (pc' := 92) rfl rfl flX7_28 (gm_o g μ) (mF_10 μ) ?_
              refine j_iload_n (pc' := 93) rfl rfl rfl ?_
              obtain ⟨c93, hf⟩ := o_chk hf
              refine j_iald (pc' := 94) rfl rfl (gm_10 g μ) (vin_ok c93) ?_
              refine j_imul (pc' := 95) rfl rfl ?_
              have hf := Option.some.inj hf; subst hf
              exact j_iret rfl rfl (Nat.zero_le _) (Nat.zero_le _) ⟨rfl, rfl⟩
        · rw [if_pos c35] at hf
          refine j_iconst (v := 0) (pc' := 39) rfl rfl (by decide) ?_
          have hf := Option.some.inj hf; subst hf
          exact j_iret rfl rfl (Nat.zero_le _) (Nat.zero_le _) ⟨rfl, rfl⟩
def rX7_lowest : Room := { frames := 0, cells := 0, slots := 0, locals := 0 }
def f_X7_lowest (μ : mS) (x1 : Int32) : Option Int32 := bif vin x1 30 then if (μ.1 8 (x1).toNatClampNeg) = 1 then some 1 else bif vin x1 30 then if (μ.1 8 (x1).toNatClampNeg) = 5 then some 1 else bif vin x1 30 then bif vin (μ.1 9 (x1).toNatClampNeg) 8 then some (μ.1 2 ((μ.1 9 (x1).toNatClampNeg)).toNatClampNeg) else none else none else none else none
set_option maxHeartbeats 4000000 in
set_option maxRecDepth 100000 in
theorem s_X7_lowest (g : hH) (μ : mS) (x1 : Int32) (r : Int32) (hf : f_X7_lowest μ x1 = some r) : SpD mX7_lowest rX7_lowest [.ref 5000, .int x1] (gm g μ) (some (.int r)) (gm g μ) := by
  refine sp_of miX7_lowest (Nat.le_of_ble_eq_true rfl) ?_
  show J _ _ _ 0 0 _ 0 [(0, .ref 5000), (1, .int x1)] []
  unfold f_X7_lowest at hf
  refine j_aload_n (pc' := 1) rfl rfl rfl ?_
  refine j_get (pc' := 4) rfl rfl flX7_22 (gm_o g μ) (mF_8 μ) ?_
  refine j_iload_n (pc' := 5) rfl rfl rfl ?_
  obtain ⟨c5, hf⟩ := o_chk hf
  refine j_iald (pc' := 6) rfl rfl (gm_8 g μ) (vin_ok c5) ?_
  refine j_iconst (v := 1) (pc' := 7) rfl rfl (by decide) ?_
  refine j_icmp_eq (tgt := 20) (pc' := 10) rfl rfl rfl (fun c7 => ?_) (fun c7 => ?_)
  · rw [if_pos c7] at hf
    refine j_iconst (v := 1) (pc' := 21) rfl rfl (by decide) ?_
    refine j_goto (tgt := 35) rfl rfl ?_
    have hf := Option.some.inj hf; subst hf
    exact j_iret rfl rfl (Nat.zero_le _) (Nat.zero_le _) ⟨rfl, rfl⟩
  · rw [if_neg c7] at hf
    refine j_aload_n (pc' := 11) rfl rfl rfl ?_
    refine j_get (pc' := 14) rfl rfl flX7_22 (gm_o g μ) (mF_8 μ) ?_
    refine j_iload_n (pc' := 15) rfl rfl rfl ?_
    obtain ⟨c15, hf⟩ := o_chk hf
    refine j_iald (pc' := 16) rfl rfl (gm_8 g μ) (vin_ok c15) ?_
    refine j_iconst (v := 5) (pc' := 17) rfl rfl (by decide) ?_
    refine j_icmp_ne (tgt := 24) (pc' := 20) rfl rfl rfl (fun c17 => ?_) (fun c17 => ?_)
    · rw [if_neg c17] at hf
      refine j_aload_n (pc' := 25) rfl rfl rfl ?_
      refine j_get (pc' := 28) rfl rfl flX7_7 (gm_o g μ) (mF_2 μ) ?_
      refine j_aload_n (pc' := 29) rfl rfl rfl ?_
      refine j_get (pc' := 32) rfl rfl flX7_25 (gm_o g μ) (mF_9 μ) ?_
      refine j_iload_n (pc' := 33) rfl rfl rfl ?_
      obtain ⟨c33, hf⟩ := o_chk hf
      refine j_iald (pc' := 34) rfl rfl (gm_9 g μ) (vin_ok c33) ?_
      obtain ⟨c34, hf⟩ := o_chk hf
      refine j_iald (pc' := 35) rfl rfl (gm_2 g μ) (vin_ok c34) ?_
      have hf := Option.some.inj hf; subst hf
      exact j_iret rfl rfl (Nat.zero_le _) (Nat.zero_le _) ⟨rfl, rfl⟩
    · rw [if_pos c17] at hf
      refine j_iconst (v := 1) (pc' := 21) rfl rfl (by decide) ?_
      refine j_goto (tgt := 35) rfl rfl ?_
      have hf := Option.some.inj hf; subst hf
      exact j_iret rfl rfl (Nat.zero_le _) (Nat.zero_le _) ⟨rfl, rfl⟩
def rX7_isDrawn : Room := { frames := 1, cells := 0, slots := 0, locals := 22 }
def f_X7_isDrawn (μ : mS) (x1 : Int32) (x2 : Int32) (x3 : Int32) : Option Int32 := bif vin x1 30 then if (μ.1 10 (x1).toNatClampNeg) ≤ 0 then some 0 else bif vin x1 30 then (f_X7_in x2 0 (μ.1 10 (x1).toNatClampNeg)).bind fun r17 => if r17 = 0 then some 0 else (f_X7_lowest μ x1).bind fun r27 => bif vin x1 30 then bif vin (μ.1 9 (x1).toNatClampNeg) 8 then (f_X7_in x3 (x2 * r27) (x2 * (μ.1 3 ((μ.1 9 (x1).toNatClampNeg)).toNatClampNeg))).bind fun r44 => if r44 = 0 then some 0 else some 1 else none else none else none else none
set_option maxHeartbeats 4000000 in
set_option maxRecDepth 100000 in
theorem s_X7_isDrawn (g : hH) (μ : mS) (x1 : Int32) (x2 : Int32) (x3 : Int32) (r : Int32) (hf : f_X7_isDrawn μ x1 x2 x3 = some r) : SpD mX7_isDrawn rX7_isDrawn [.ref 5000, .int x1, .int x2, .int x3] (gm g μ) (some (.int r)) (gm g μ) := by
  refine sp_of miX7_isDrawn (Nat.le_of_ble_eq_true rfl) ?_
  show J _ _ _ 0 0 _ 0 [(0, .ref 5000), (1, .int x1), (2, .int x2), (3, .int x3)] []
  unfold f_X7_isDrawn at hf
  refine j_aload_n (pc' := 1) rfl rfl rfl ?_
  refine j_get (pc' := 4) rfl rfl flX7_28 (gm_o g μ) (mF_10 μ) ?_
  refine j_iload_n (pc' := 5) rfl rfl rfl ?_
  obtain ⟨c5, hf⟩ := o_chk hf
  refine j_iald (pc' := 6) rfl rfl (gm_10 g μ) (vin_ok c5) ?_
  refine j_if_le (tgt := 54) (pc' := 9) rfl rfl rfl (fun c6 => ?_) (fun c6 => ?_)
  · rw [if_pos c6] at hf
    refine j_iconst (v := 0) (pc' := 55) rfl rfl (by decide) ?_
    have hf := Option.some.inj hf; subst hf
    exact j_zret rfl rfl (by decide) (Nat.zero_le _) (Nat.zero_le _) ⟨rfl, rfl⟩
  · rw [if_neg c6] at hf
    refine j_iload_n (pc' := 10) rfl rfl rfl ?_
    refine j_iconst (v := 0) (pc' := 11) rfl rfl (by decide) ?_
    refine j_aload_n (pc' := 12) rfl rfl rfl ?_
    refine j_get (pc' := 15) rfl rfl flX7_28 (gm_o g μ) (mF_10 μ) ?_
    refine j_iload_n (pc' := 16) rfl rfl rfl ?_
    obtain ⟨c16, hf⟩ := o_chk hf
    refine j_iald (pc' := 17) rfl rfl (gm_10 g μ) (vin_ok c16) ?_
    obtain ⟨r17, e17, hf⟩ := o_bind hf
    refine j_s3 (pc' := 20) rfl rfl miX7_in lnX7_138 (s_X7_in (gm g μ) x2 0 (μ.1 10 (x1).toNatClampNeg) _ e17) (h_rm_of rfl) (Nat.le_of_ble_eq_true rfl) (c' := 0) (s' := 0) rfl rfl ?_
    refine j_if_eq (tgt := 54) (pc' := 23) rfl rfl rfl (fun c20 => ?_) (fun c20 => ?_)
    · rw [if_pos c20] at hf
      refine j_iconst (v := 0) (pc' := 55) rfl rfl (by decide) ?_
      have hf := Option.some.inj hf; subst hf
      exact j_zret rfl rfl (by decide) (Nat.zero_le _) (Nat.zero_le _) ⟨rfl, rfl⟩
    · rw [if_neg c20] at hf
      refine j_iload_n (pc' := 24) rfl rfl rfl ?_
      refine j_iload_n (pc' := 25) rfl rfl rfl ?_
      refine j_aload_n (pc' := 26) rfl rfl rfl ?_
      refine j_iload_n (pc' := 27) rfl rfl rfl ?_
      obtain ⟨r27, e27, hf⟩ := o_bind hf
      refine j_v1 (pc' := 30) rfl rfl miX7_lowest lnX7_222 (gm_o g μ) rfl (s_X7_lowest g μ x1 _ e27) (h_rm_of rfl) (Nat.le_of_ble_eq_true rfl) (c' := 0) (s' := 0) rfl rfl ?_
      refine j_imul (pc' := 31) rfl rfl ?_
      refine j_iload_n (pc' := 32) rfl rfl rfl ?_
      refine j_aload_n (pc' := 33) rfl rfl rfl ?_
      refine j_get (pc' := 36) rfl rfl flX7_13 (gm_o g μ) (mF_3 μ) ?_
      refine j_aload_n (pc' := 37) rfl rfl rfl ?_
      refine j_get (pc' := 40) rfl rfl flX7_25 (gm_o g μ) (mF_9 μ) ?_
      refine j_iload_n (pc' := 41) rfl rfl rfl ?_
      obtain ⟨c41, hf⟩ := o_chk hf
      refine j_iald (pc' := 42) rfl rfl (gm_9 g μ) (vin_ok c41) ?_
      obtain ⟨c42, hf⟩ := o_chk hf
      refine j_iald (pc' := 43) rfl rfl (gm_3 g μ) (vin_ok c42) ?_
      refine j_imul (pc' := 44) rfl rfl ?_
      obtain ⟨r44, e44, hf⟩ := o_bind hf
      refine j_s3 (pc' := 47) rfl rfl miX7_in lnX7_138 (s_X7_in (gm g μ) x3 (x2 * r27) (x2 * (μ.1 3 ((μ.1 9 (x1).toNatClampNeg)).toNatClampNeg)) _ e44) (h_rm_of rfl) (Nat.le_of_ble_eq_true rfl) (c' := 0) (s' := 0) rfl rfl ?_
      refine j_if_eq (tgt := 54) (pc' := 50) rfl rfl rfl (fun c47 => ?_) (fun c47 => ?_)
      · rw [if_pos c47] at hf
        refine j_iconst (v := 0) (pc' := 55) rfl rfl (by decide) ?_
        have hf := Option.some.inj hf; subst hf
        exact j_zret rfl rfl (by decide) (Nat.zero_le _) (Nat.zero_le _) ⟨rfl, rfl⟩
      · rw [if_neg c47] at hf
        refine j_iconst (v := 1) (pc' := 51) rfl rfl (by decide) ?_
        refine j_goto (tgt := 55) rfl rfl ?_
        have hf := Option.some.inj hf; subst hf
        exact j_zret rfl rfl (by decide) (Nat.zero_le _) (Nat.zero_le _) ⟨rfl, rfl⟩
def rX7_isThere : Room := { frames := 1, cells := 0, slots := 0, locals := 21 }
def f_X7_isThere (μ : mS) (x1 : Int32) (x2 : Int32) : Option Int32 := bif vin x1 30 then if (μ.1 13 (x1).toNatClampNeg) = x2 then (f_X7_isUnderWay μ x1).bind fun r12 => if r12 = 0 then bif vin x1 30 then if (μ.1 16 (x1).toNatClampNeg) = 0 then bif vin x1 30 then if (μ.1 17 (x1).toNatClampNeg) = 0 then some 1 else some 0 else none else some 0 else none else some 0 else some 0 else none
set_option maxHeartbeats 4000000 in
set_option maxRecDepth 100000 in
theorem s_X7_isThere (g : hH) (μ : mS) (x1 : Int32) (x2 : Int32) (r : Int32) (hf : f_X7_isThere μ x1 x2 = some r) : SpD mX7_isThere rX7_isThere [.ref 5000, .int x1, .int x2] (gm g μ) (some (.int r)) (gm g μ) := by
  refine sp_of miX7_isThere (Nat.le_of_ble_eq_true rfl) ?_
  show J _ _ _ 0 0 _ 0 [(0, .ref 5000), (1, .int x1), (2, .int x2)] []
  unfold f_X7_isThere at hf
  refine j_aload_n (pc' := 1) rfl rfl rfl ?_
  refine j_get (pc' := 4) rfl rfl flX7_37 (gm_o g μ) (mF_13 μ) ?_
  refine j_iload_n (pc' := 5) rfl rfl rfl ?_
  obtain ⟨c5, hf⟩ := o_chk hf
  refine j_iald (pc' := 6) rfl rfl (gm_13 g μ) (vin_ok c5) ?_
  refine j_iload_n (pc' := 7) rfl rfl rfl ?_
  refine j_icmp_ne (tgt := 40) (pc' := 10) rfl rfl rfl (fun c7 => ?_) (fun c7 => ?_)
  · rw [if_neg c7] at hf
    refine j_iconst (v := 0) (pc' := 41) rfl rfl (by decide) ?_
    have hf := Option.some.inj hf; subst hf
    exact j_zret rfl rfl (by decide) (Nat.zero_le _) (Nat.zero_le _) ⟨rfl, rfl⟩
  · rw [if_pos c7] at hf
    refine j_aload_n (pc' := 11) rfl rfl rfl ?_
    refine j_iload_n (pc' := 12) rfl rfl rfl ?_
    obtain ⟨r12, e12, hf⟩ := o_bind hf
    refine j_v1 (pc' := 15) rfl rfl miX7_isUnderWay lnX7_170 (gm_o g μ) rfl (s_X7_isUnderWay g μ x1 _ e12) (h_rm_of rfl) (Nat.le_of_ble_eq_true rfl) (c' := 0) (s' := 0) rfl rfl ?_
    refine j_if_ne (tgt := 40) (pc' := 18) rfl rfl rfl (fun c15 => ?_) (fun c15 => ?_)
    · rw [if_neg c15] at hf
      refine j_iconst (v := 0) (pc' := 41) rfl rfl (by decide) ?_
      have hf := Option.some.inj hf; subst hf
      exact j_zret rfl rfl (by decide) (Nat.zero_le _) (Nat.zero_le _) ⟨rfl, rfl⟩
    · rw [if_pos c15] at hf
      refine j_aload_n (pc' := 19) rfl rfl rfl ?_
      refine j_get (pc' := 22) rfl rfl flX7_46 (gm_o g μ) (mF_16 μ) ?_
      refine j_iload_n (pc' := 23) rfl rfl rfl ?_
      obtain ⟨c23, hf⟩ := o_chk hf
      refine j_zald (pc' := 24) rfl rfl (gm_16 g μ) (vin_ok c23) ?_
      refine j_if_ne (tgt := 40) (pc' := 27) rfl rfl rfl (fun c24 => ?_) (fun c24 => ?_)
      · rw [if_neg c24] at hf
        refine j_iconst (v := 0) (pc' := 41) rfl rfl (by decide) ?_
        have hf := Option.some.inj hf; subst hf
        exact j_zret rfl rfl (by decide) (Nat.zero_le _) (Nat.zero_le _) ⟨rfl, rfl⟩
      · rw [if_pos c24] at hf
        refine j_aload_n (pc' := 28) rfl rfl rfl ?_
        refine j_get (pc' := 31) rfl rfl flX7_50 (gm_o g μ) (mF_17 μ) ?_
        refine j_iload_n (pc' := 32) rfl rfl rfl ?_
        obtain ⟨c32, hf⟩ := o_chk hf
        refine j_zald (pc' := 33) rfl rfl (gm_17 g μ) (vin_ok c32) ?_
        refine j_if_ne (tgt := 40) (pc' := 36) rfl rfl rfl (fun c33 => ?_) (fun c33 => ?_)
        · rw [if_neg c33] at hf
          refine j_iconst (v := 0) (pc' := 41) rfl rfl (by decide) ?_
          have hf := Option.some.inj hf; subst hf
          exact j_zret rfl rfl (by decide) (Nat.zero_le _) (Nat.zero_le _) ⟨rfl, rfl⟩
        · rw [if_pos c33] at hf
          refine j_iconst (v := 1) (pc' := 37) rfl rfl (by decide) ?_
          refine j_goto (tgt := 41) rfl rfl ?_
          have hf := Option.some.inj hf; subst hf
          exact j_zret rfl rfl (by decide) (Nat.zero_le _) (Nat.zero_le _) ⟨rfl, rfl⟩
def rX7_isWorse : Room := { frames := 2, cells := 0, slots := 0, locals := 50 }
def f_X7_isWorse (μ : mS) (x1 : Int32) (x2 : Int32) (x3 : Int32) : Option Int32 := (f_X7_silverOf μ x1).bind fun r2 => (f_X7_passes μ x2 x3 (μ.1 6 0)).bind fun r12 => (f_X7_silverOf μ x2).bind fun r21 => (f_X7_passes μ x1 x3 (μ.1 6 0)).bind fun r31 => if (lg_cmp (r2 * (r12).toInt64) (r21 * (r31).toInt64)) < 0 then some 1 else if (lg_cmp (r2 * (r12).toInt64) (r21 * (r31).toInt64)) = 0 then if x2 ≤ x1 then some 0 else some 1 else some 0
set_option maxHeartbeats 4000000 in
set_option maxRecDepth 100000 in
theorem s_X7_isWorse (g : hH) (μ : mS) (x1 : Int32) (x2 : Int32) (x3 : Int32) (r : Int32) (hf : f_X7_isWorse μ x1 x2 x3 = some r) : SpD mX7_isWorse rX7_isWorse [.ref 5000, .int x1, .int x2, .int x3] (gm g μ) (some (.int r)) (gm g μ) := by
  refine sp_of miX7_isWorse (Nat.le_of_ble_eq_true rfl) ?_
  show J _ _ _ 0 0 _ 0 [(0, .ref 5000), (1, .int x1), (2, .int x2), (3, .int x3)] []
  unfold f_X7_isWorse at hf
  refine j_aload_n (pc' := 1) rfl rfl rfl ?_
  refine j_iload_n (pc' := 2) rfl rfl rfl ?_
  obtain ⟨r2, e2, hf⟩ := o_bind hf
  refine j_v1 (pc' := 5) rfl rfl miX7_silverOf lnX7_173 (gm_o g μ) rfl (s_X7_silverOf g μ x1 _ e2) (h_rm_of rfl) (Nat.le_of_ble_eq_true rfl) (c' := 0) (s' := 0) rfl rfl ?_
  refine j_aload_n (pc' := 6) rfl rfl rfl ?_
  refine j_iload_n (pc' := 7) rfl rfl rfl ?_
  refine j_iload_n (pc' := 8) rfl rfl rfl ?_
  refine j_aload_n (pc' := 9) rfl rfl rfl ?_
  refine j_get (pc' := 12) rfl rfl flX7_167 (gm_o g μ) (mF_6 μ) ?_
  obtain ⟨r12, e12, hf⟩ := o_bind hf
  refine j_v3 (pc' := 15) rfl rfl miX7_passes lnX7_218 (gm_o g μ) rfl (s_X7_passes g μ x2 x3 (μ.1 6 0) _ e12) (h_rm_of rfl) (Nat.le_of_ble_eq_true rfl) (c' := 0) (s' := 0) rfl rfl ?_
  refine j_i2l (pc' := 16) rfl rfl ?_
  refine j_lmul (pc' := 17) rfl rfl ?_
  refine j_lstore (pc' := 19) (ls' := [(4, _), (0, _), (1, _), (2, _), (3, _)]) rfl rfl (Nat.le_of_ble_eq_true rfl) rfl ?_
  refine j_aload_n (pc' := 20) rfl rfl rfl ?_
  refine j_iload_n (pc' := 21) rfl rfl rfl ?_
  obtain ⟨r21, e21, hf⟩ := o_bind hf
  refine j_v1 (pc' := 24) rfl rfl miX7_silverOf lnX7_173 (gm_o g μ) rfl (s_X7_silverOf g μ x2 _ e21) (h_rm_of rfl) (Nat.le_of_ble_eq_true rfl) (c' := 0) (s' := 0) rfl rfl ?_
  refine j_aload_n (pc' := 25) rfl rfl rfl ?_
  refine j_iload_n (pc' := 26) rfl rfl rfl ?_
  refine j_iload_n (pc' := 27) rfl rfl rfl ?_
  refine j_aload_n (pc' := 28) rfl rfl rfl ?_
  refine j_get (pc' := 31) rfl rfl flX7_167 (gm_o g μ) (mF_6 μ) ?_
  obtain ⟨r31, e31, hf⟩ := o_bind hf
  refine j_v3 (pc' := 34) rfl rfl miX7_passes lnX7_218 (gm_o g μ) rfl (s_X7_passes g μ x1 x3 (μ.1 6 0) _ e31) (h_rm_of rfl) (Nat.le_of_ble_eq_true rfl) (c' := 0) (s' := 0) rfl rfl ?_
  refine j_i2l (pc' := 35) rfl rfl ?_
  refine j_lmul (pc' := 36) rfl rfl ?_
  refine j_lstore (pc' := 38) (ls' := [(6, _), (4, _), (0, _), (1, _), (2, _), (3, _)]) rfl rfl (Nat.le_of_ble_eq_true rfl) rfl ?_
  refine j_lload (pc' := 40) rfl rfl rfl ?_
  refine j_lload (pc' := 42) rfl rfl rfl ?_
  refine j_lcmp (pc' := 43) rfl rfl ?_
  refine j_if_lt (tgt := 59) (pc' := 46) rfl rfl rfl (fun c43 => ?_) (fun c43 => ?_)
  · rw [if_pos c43] at hf
    refine j_iconst (v := 1) (pc' := 60) rfl rfl (by decide) ?_
    refine j_goto (tgt := 64) rfl rfl ?_
    have hf := Option.some.inj hf; subst hf
    exact j_zret rfl rfl (by decide) (Nat.zero_le _) (Nat.zero_le _) ⟨rfl, rfl⟩
  · rw [if_neg c43] at hf
    refine j_lload (pc' := 48) rfl rfl rfl ?_
    refine j_lload (pc' := 50) rfl rfl rfl ?_
    refine j_lcmp (pc' := 51) rfl rfl ?_
    refine j_if_ne (tgt := 63) (pc' := 54) rfl rfl rfl (fun c51 => ?_) (fun c51 => ?_)
    · rw [if_neg c51] at hf
      refine j_iconst (v := 0) (pc' := 64) rfl rfl (by decide) ?_
      have hf := Option.some.inj hf; subst hf
      exact j_zret rfl rfl (by decide) (Nat.zero_le _) (Nat.zero_le _) ⟨rfl, rfl⟩
    · rw [if_pos c51] at hf
      refine j_iload_n (pc' := 55) rfl rfl rfl ?_
      refine j_iload_n (pc' := 56) rfl rfl rfl ?_
      refine j_icmp_ge (tgt := 63) (pc' := 59) rfl rfl rfl (fun c56 => ?_) (fun c56 => ?_)
      · rw [if_pos c56] at hf
        refine j_iconst (v := 0) (pc' := 64) rfl rfl (by decide) ?_
        have hf := Option.some.inj hf; subst hf
        exact j_zret rfl rfl (by decide) (Nat.zero_le _) (Nat.zero_le _) ⟨rfl, rfl⟩
      · rw [if_neg c56] at hf
        refine j_iconst (v := 1) (pc' := 60) rfl rfl (by decide) ?_
        refine j_goto (tgt := 64) rfl rfl ?_
        have hf := Option.some.inj hf; subst hf
        exact j_zret rfl rfl (by decide) (Nat.zero_le _) (Nat.zero_le _) ⟨rfl, rfl⟩
def rX7_isAtMint : Room := { frames := 1, cells := 0, slots := 0, locals := 21 }
def f_X7_isAtMint (μ : mS) (x1 : Int32) : Option Int32 := bif vin x1 30 then if (μ.1 14 (x1).toNatClampNeg) < 0 then some 0 else (f_X7_isUnderWay μ x1).bind fun r11 => if r11 = 0 then bif vin x1 30 then if (μ.1 16 (x1).toNatClampNeg) = 0 then some 1 else some 0 else none else some 0 else none
set_option maxHeartbeats 4000000 in
set_option maxRecDepth 100000 in
theorem s_X7_isAtMint (g : hH) (μ : mS) (x1 : Int32) (r : Int32) (hf : f_X7_isAtMint μ x1 = some r) : SpD mX7_isAtMint rX7_isAtMint [.ref 5000, .int x1] (gm g μ) (some (.int r)) (gm g μ) := by
  refine sp_of miX7_isAtMint (Nat.le_of_ble_eq_true rfl) ?_
  show J _ _ _ 0 0 _ 0 [(0, .ref 5000), (1, .int x1)] []
  unfold f_X7_isAtMint at hf
  refine j_aload_n (pc' := 1) rfl rfl rfl ?_
  refine j_get (pc' := 4) rfl rfl flX7_40 (gm_o g μ) (mF_14 μ) ?_
  refine j_iload_n (pc' := 5) rfl rfl rfl ?_
  obtain ⟨c5, hf⟩ := o_chk hf
  refine j_iald (pc' := 6) rfl rfl (gm_14 g μ) (vin_ok c5) ?_
  refine j_if_lt (tgt := 30) (pc' := 9) rfl rfl rfl (fun c6 => ?_) (fun c6 => ?_)
  · rw [if_pos c6] at hf
    refine j_iconst (v := 0) (pc' := 31) rfl rfl (by decide) ?_
    have hf := Option.some.inj hf; subst hf
    exact j_zret rfl rfl (by decide) (Nat.zero_le _) (Nat.zero_le _) ⟨rfl, rfl⟩
  · rw [if_neg c6] at hf
    refine j_aload_n (pc' := 10) rfl rfl rfl ?_
    refine j_iload_n (pc' := 11) rfl rfl rfl ?_
    obtain ⟨r11, e11, hf⟩ := o_bind hf
    refine j_v1 (pc' := 14) rfl rfl miX7_isUnderWay lnX7_170 (gm_o g μ) rfl (s_X7_isUnderWay g μ x1 _ e11) (h_rm_of rfl) (Nat.le_of_ble_eq_true rfl) (c' := 0) (s' := 0) rfl rfl ?_
    refine j_if_ne (tgt := 30) (pc' := 17) rfl rfl rfl (fun c14 => ?_) (fun c14 => ?_)
    · rw [if_neg c14] at hf
      refine j_iconst (v := 0) (pc' := 31) rfl rfl (by decide) ?_
      have hf := Option.some.inj hf; subst hf
      exact j_zret rfl rfl (by decide) (Nat.zero_le _) (Nat.zero_le _) ⟨rfl, rfl⟩
    · rw [if_pos c14] at hf
      refine j_aload_n (pc' := 18) rfl rfl rfl ?_
      refine j_get (pc' := 21) rfl rfl flX7_46 (gm_o g μ) (mF_16 μ) ?_
      refine j_iload_n (pc' := 22) rfl rfl rfl ?_
      obtain ⟨c22, hf⟩ := o_chk hf
      refine j_zald (pc' := 23) rfl rfl (gm_16 g μ) (vin_ok c22) ?_
      refine j_if_ne (tgt := 30) (pc' := 26) rfl rfl rfl (fun c23 => ?_) (fun c23 => ?_)
      · rw [if_neg c23] at hf
        refine j_iconst (v := 0) (pc' := 31) rfl rfl (by decide) ?_
        have hf := Option.some.inj hf; subst hf
        exact j_zret rfl rfl (by decide) (Nat.zero_le _) (Nat.zero_le _) ⟨rfl, rfl⟩
      · rw [if_pos c23] at hf
        refine j_iconst (v := 1) (pc' := 27) rfl rfl (by decide) ?_
        refine j_goto (tgt := 31) rfl rfl ?_
        have hf := Option.some.inj hf; subst hf
        exact j_zret rfl rfl (by decide) (Nat.zero_le _) (Nat.zero_le _) ⟨rfl, rfl⟩
def rX7_meltedToday : Room := { frames := 0, cells := 0, slots := 0, locals := 0 }
def f_X7_meltedToday (μ : mS) (x1 : Int32) : Option Int32 := bif vin x1 3 then if (μ.1 40 (x1).toNatClampNeg) = (μ.1 6 0) then bif vin x1 3 then some (μ.1 39 (x1).toNatClampNeg) else none else some 0 else none
set_option maxHeartbeats 4000000 in
set_option maxRecDepth 100000 in
theorem s_X7_meltedToday (g : hH) (μ : mS) (x1 : Int32) (r : Int32) (hf : f_X7_meltedToday μ x1 = some r) : SpD mX7_meltedToday rX7_meltedToday [.ref 5000, .int x1] (gm g μ) (some (.int r)) (gm g μ) := by
  refine sp_of miX7_meltedToday (Nat.le_of_ble_eq_true rfl) ?_
  show J _ _ _ 0 0 _ 0 [(0, .ref 5000), (1, .int x1)] []
  unfold f_X7_meltedToday at hf
  refine j_aload_n (pc' := 1) rfl rfl rfl ?_
  refine j_get (pc' := 4) rfl rfl flX7_107 (gm_o g μ) (mF_40 μ) ?_
  refine j_iload_n (pc' := 5) rfl rfl rfl ?_
  obtain ⟨c5, hf⟩ := o_chk hf
  refine j_iald (pc' := 6) rfl rfl (gm_40 g μ) (vin_ok c5) ?_
  refine j_aload_n (pc' := 7) rfl rfl rfl ?_
  refine j_get (pc' := 10) rfl rfl flX7_167 (gm_o g μ) (mF_6 μ) ?_
  refine j_icmp_ne (tgt := 22) (pc' := 13) rfl rfl rfl (fun c10 => ?_) (fun c10 => ?_)
  · rw [if_neg c10] at hf
    refine j_iconst (v := 0) (pc' := 23) rfl rfl (by decide) ?_
    have hf := Option.some.inj hf; subst hf
    exact j_iret rfl rfl (Nat.zero_le _) (Nat.zero_le _) ⟨rfl, rfl⟩
  · rw [if_pos c10] at hf
    refine j_aload_n (pc' := 14) rfl rfl rfl ?_
    refine j_get (pc' := 17) rfl rfl flX7_104 (gm_o g μ) (mF_39 μ) ?_
    refine j_iload_n (pc' := 18) rfl rfl rfl ?_
    obtain ⟨c18, hf⟩ := o_chk hf
    refine j_iald (pc' := 19) rfl rfl (gm_39 g μ) (vin_ok c18) ?_
    refine j_goto (tgt := 23) rfl rfl ?_
    have hf := Option.some.inj hf; subst hf
    exact j_iret rfl rfl (Nat.zero_le _) (Nat.zero_le _) ⟨rfl, rfl⟩
def rX7_findFar : Room := { frames := 0, cells := 0, slots := 0, locals := 0 }
def f_X7_findFar_L2 : Nat → mS → Int32 → Option (mS)
  | 0, _, _ => none
  | n + 1, μ, x1 => if 9 ≤ x1 then some (μ) else if 3 ≤ x1 then bif vin x1 9 then letm (seti μ 47 (va_up (μ.1 47) (x1).toNatClampNeg 1000000)) fun μ33 => bif vin x1 9 then letm (seti μ33 48 (va_up (μ33.1 48) (x1).toNatClampNeg (-1))) fun μ40 => f_X7_findFar_L2 n μ40 (x1 + 1) else none else none else bif vin x1 3 then if (μ.1 45 (x1).toNatClampNeg) ≤ 0 then bif vin x1 9 then letm (seti μ 47 (va_up (μ.1 47) (x1).toNatClampNeg 1000000)) fun μ33 => bif vin x1 9 then letm (seti μ33 48 (va_up (μ33.1 48) (x1).toNatClampNeg (-1))) fun μ40 => f_X7_findFar_L2 n μ40 (x1 + 1) else none else none else bif vin x1 9 then letm (seti μ 47 (va_up (μ.1 47) (x1).toNatClampNeg 0)) fun μ33 => bif vin x1 9 then letm (seti μ33 48 (va_up (μ33.1 48) (x1).toNatClampNeg (-1))) fun μ40 => f_X7_findFar_L2 n μ40 (x1 + 1) else none else none else none
set_option maxHeartbeats 4000000 in
set_option maxRecDepth 100000 in
theorem s_X7_findFar_L2 {Q : Option Value → hH → Prop} (g : hH) : ∀ (n : Nat) (μ : mS) (x1 : Int32) (r : mS), f_X7_findFar_L2 n μ x1 = some r → (J mX7_findFar rX7_findFar Q 0 0 (gm g r) 47 [(0, .ref 5000)] []) → J mX7_findFar rX7_findFar Q 0 0 (gm g μ) 2 [(0, .ref 5000), (1, .int x1)] [] := by
  intro n
  induction n with
  | zero =>
    intro μ x1 r hf
    cases hf
  | succ n ih =>
    intro μ x1 r hf k0
    rw [f_X7_findFar_L2] at hf
    refine j_iload_n (pc' := 3) rfl rfl rfl ?_
    refine j_bipush (v := 9) (pc' := 5) rfl rfl (by decide) ?_
    refine j_icmp_ge (tgt := 47) (pc' := 8) rfl rfl rfl (fun c5 => ?_) (fun c5 => ?_)
    · rw [if_pos c5] at hf
      have hf := Option.some.inj hf; subst hf
      exact j_sub (ls' := [(0, .ref 5000)]) ⟨rfl, trivial⟩ (k0)
    · rw [if_neg c5] at hf
      refine j_aload_n (pc' := 9) rfl rfl rfl ?_
      refine j_get (pc' := 12) rfl rfl flX7_125 (gm_o g μ) (mF_47 μ) ?_
      refine j_iload_n (pc' := 13) rfl rfl rfl ?_
      refine j_iload_n (pc' := 14) rfl rfl rfl ?_
      refine j_iconst (v := 3) (pc' := 15) rfl rfl (by decide) ?_
      refine j_icmp_ge (tgt := 31) (pc' := 18) rfl rfl rfl (fun c15 => ?_) (fun c15 => ?_)
      · rw [if_pos c15] at hf
        refine j_ldc (pc' := 33) rfl rfl kcX7_228 ?_
        obtain ⟨c33, hf⟩ := o_chk hf
        obtain ⟨μ33, e33, hf⟩ := o_let hf
        refine j_iast (pc' := 34) rfl rfl (gm_47 g μ) (by decide) (vin_ok c33) ?_
        rw [gs_47]; rw [e33]
        refine j_aload_n (pc' := 35) rfl rfl rfl ?_
        refine j_get (pc' := 38) rfl rfl flX7_128 (gm_o g μ33) (mF_48 μ33) ?_
        refine j_iload_n (pc' := 39) rfl rfl rfl ?_
        refine j_iconst (v := (-1)) (pc' := 40) rfl rfl (by decide) ?_
        obtain ⟨c40, hf⟩ := o_chk hf
        obtain ⟨μ40, e40, hf⟩ := o_let hf
        refine j_iast (pc' := 41) rfl rfl (gm_48 g μ33) (by decide) (vin_ok c40) ?_
        rw [gs_48]; rw [e40]
        refine j_iinc (pc' := 44) (d := 1) (ls' := [(1, _), (0, _)]) rfl rfl rfl (by decide) (Nat.le_of_ble_eq_true rfl) rfl ?_
        refine j_goto (tgt := 2) rfl rfl ?_
        refine j_sub (ls' := [(0, .ref 5000), (1, .int _)]) ⟨rfl, rfl, trivial⟩ ?_
        exact ih _ _ _ hf k0
      · rw [if_neg c15] at hf
        refine j_aload_n (pc' := 19) rfl rfl rfl ?_
        refine j_get (pc' := 22) rfl rfl flX7_119 (gm_o g μ) (mF_45 μ) ?_
        refine j_iload_n (pc' := 23) rfl rfl rfl ?_
        obtain ⟨c23, hf⟩ := o_chk hf
        refine j_iald (pc' := 24) rfl rfl (gm_45 g μ) (vin_ok c23) ?_
        refine j_if_le (tgt := 31) (pc' := 27) rfl rfl rfl (fun c24 => ?_) (fun c24 => ?_)
        · rw [if_pos c24] at hf
          refine j_ldc (pc' := 33) rfl rfl kcX7_228 ?_
          obtain ⟨c33, hf⟩ := o_chk hf
          obtain ⟨μ33, e33, hf⟩ := o_let hf
          refine j_iast (pc' := 34) rfl rfl (gm_47 g μ) (by decide) (vin_ok c33) ?_
          rw [gs_47]; rw [e33]
          refine j_aload_n (pc' := 35) rfl rfl rfl ?_
          refine j_get (pc' := 38) rfl rfl flX7_128 (gm_o g μ33) (mF_48 μ33) ?_
          refine j_iload_n (pc' := 39) rfl rfl rfl ?_
          refine j_iconst (v := (-1)) (pc' := 40) rfl rfl (by decide) ?_
          obtain ⟨c40, hf⟩ := o_chk hf
          obtain ⟨μ40, e40, hf⟩ := o_let hf
          refine j_iast (pc' := 41) rfl rfl (gm_48 g μ33) (by decide) (vin_ok c40) ?_
          rw [gs_48]; rw [e40]
          refine j_iinc (pc' := 44) (d := 1) (ls' := [(1, _), (0, _)]) rfl rfl rfl (by decide) (Nat.le_of_ble_eq_true rfl) rfl ?_
          refine j_goto (tgt := 2) rfl rfl ?_
          refine j_sub (ls' := [(0, .ref 5000), (1, .int _)]) ⟨rfl, rfl, trivial⟩ ?_
          exact ih _ _ _ hf k0
        · rw [if_neg c24] at hf
          refine j_iconst (v := 0) (pc' := 28) rfl rfl (by decide) ?_
          refine j_goto (tgt := 33) rfl rfl ?_
          obtain ⟨c33, hf⟩ := o_chk hf
          obtain ⟨μ33, e33, hf⟩ := o_let hf
          refine j_iast (pc' := 34) rfl rfl (gm_47 g μ) (by decide) (vin_ok c33) ?_
          rw [gs_47]; rw [e33]
          refine j_aload_n (pc' := 35) rfl rfl rfl ?_
          refine j_get (pc' := 38) rfl rfl flX7_128 (gm_o g μ33) (mF_48 μ33) ?_
          refine j_iload_n (pc' := 39) rfl rfl rfl ?_
          refine j_iconst (v := (-1)) (pc' := 40) rfl rfl (by decide) ?_
          obtain ⟨c40, hf⟩ := o_chk hf
          obtain ⟨μ40, e40, hf⟩ := o_let hf
          refine j_iast (pc' := 41) rfl rfl (gm_48 g μ33) (by decide) (vin_ok c40) ?_
          rw [gs_48]; rw [e40]
          refine j_iinc (pc' := 44) (d := 1) (ls' := [(1, _), (0, _)]) rfl rfl rfl (by decide) (Nat.le_of_ble_eq_true rfl) rfl ?_
          refine j_goto (tgt := 2) rfl rfl ?_
          refine j_sub (ls' := [(0, .ref 5000), (1, .int _)]) ⟨rfl, rfl, trivial⟩ ?_
          exact ih _ _ _ hf k0
def f_X7_findFar_L65 : Nat → mS → Int32 → Int32 → Int32 → Option (mS)
  | 0, _, _, _, _ => none
  | n + 1, μ, x1, x2, x3 => if 3 ≤ x3 then some (μ) else bif vin ((3 * x2) + x3) 18 then letm (μ.1 32 (((3 * x2) + x3)).toNatClampNeg) fun y80 => bif vin x3 9 then bif vin (3 + x2) 9 then if (μ.1 47 ((3 + x2)).toNatClampNeg) ≤ ((μ.1 47 (x3).toNatClampNeg) + y80) then bif vin ((3 * x2) + x3) 18 then if (μ.1 44 (((3 * x2) + x3)).toNatClampNeg) ≤ 0 then f_X7_findFar_L65 n μ x1 x2 (x3 + 1) else bif vin (3 + x2) 9 then bif vin x3 9 then if (μ.1 47 (x3).toNatClampNeg) ≤ ((μ.1 47 ((3 + x2)).toNatClampNeg) - y80) then f_X7_findFar_L65 n μ x1 x2 (x3 + 1) else bif vin (3 + x2) 9 then bif vin x3 9 then letm (seti μ 47 (va_up (μ.1 47) (x3).toNatClampNeg ((μ.1 47 ((3 + x2)).toNatClampNeg) - y80))) fun μ177 => bif vin x3 9 then letm (seti μ177 48 (va_up (μ177.1 48) (x3).toNatClampNeg (3 + x2))) fun μ186 => f_X7_findFar_L65 n μ186 x1 x2 (x3 + 1) else none else none else none else none else none else none else bif vin x3 9 then bif vin (3 + x2) 9 then letm (seti μ 47 (va_up (μ.1 47) ((3 + x2)).toNatClampNeg ((μ.1 47 (x3).toNatClampNeg) + y80))) fun μ118 => bif vin (3 + x2) 9 then letm (seti μ118 48 (va_up (μ118.1 48) ((3 + x2)).toNatClampNeg x3)) fun μ127 => bif vin ((3 * x2) + x3) 18 then if (μ127.1 44 (((3 * x2) + x3)).toNatClampNeg) ≤ 0 then f_X7_findFar_L65 n μ127 x1 x2 (x3 + 1) else bif vin (3 + x2) 9 then bif vin x3 9 then if (μ127.1 47 (x3).toNatClampNeg) ≤ ((μ127.1 47 ((3 + x2)).toNatClampNeg) - y80) then f_X7_findFar_L65 n μ127 x1 x2 (x3 + 1) else bif vin (3 + x2) 9 then bif vin x3 9 then letm (seti μ127 47 (va_up (μ127.1 47) (x3).toNatClampNeg ((μ127.1 47 ((3 + x2)).toNatClampNeg) - y80))) fun μ177 => bif vin x3 9 then letm (seti μ177 48 (va_up (μ177.1 48) (x3).toNatClampNeg (3 + x2))) fun μ186 => f_X7_findFar_L65 n μ186 x1 x2 (x3 + 1) else none else none else none else none else none else none else none else none else none else none else none else none
set_option maxHeartbeats 4000000 in
set_option maxRecDepth 100000 in
theorem s_X7_findFar_L65 {Q : Option Value → hH → Prop} (g : hH) : ∀ (n : Nat) (μ : mS) (x1 : Int32) (x2 : Int32) (x3 : Int32) (r : mS), f_X7_findFar_L65 n μ x1 x2 x3 = some r → (J mX7_findFar rX7_findFar Q 0 0 (gm g r) 193 [(0, .ref 5000), (1, .int x1), (2, .int x2)] []) → J mX7_findFar rX7_findFar Q 0 0 (gm g μ) 65 [(0, .ref 5000), (1, .int x1), (2, .int x2), (3, .int x3)] [] := by
  intro n
  induction n with
  | zero =>
    intro μ x1 x2 x3 r hf
    cases hf
  | succ n ih =>
    intro μ x1 x2 x3 r hf k0
    rw [f_X7_findFar_L65] at hf
    refine j_iload_n (pc' := 66) rfl rfl rfl ?_
    refine j_iconst (v := 3) (pc' := 67) rfl rfl (by decide) ?_
    refine j_icmp_ge (tgt := 193) (pc' := 70) rfl rfl rfl (fun c67 => ?_) (fun c67 => ?_)
    · rw [if_pos c67] at hf
      have hf := Option.some.inj hf; subst hf
      exact j_sub (ls' := [(0, .ref 5000), (1, .int _), (2, .int _)]) ⟨rfl, rfl, rfl, trivial⟩ (k0)
    · rw [if_neg c67] at hf
      refine j_aload_n (pc' := 71) rfl rfl rfl ?_
      refine j_get (pc' := 74) rfl rfl flX7_82 (gm_o g μ) (mF_32 μ) ?_
      refine j_iconst (v := 3) (pc' := 75) rfl rfl (by decide) ?_
      refine j_iload_n (pc' := 76) rfl rfl rfl ?_
      refine j_imul (pc' := 77) rfl rfl ?_
      refine j_iload_n (pc' := 78) rfl rfl rfl ?_
      refine j_iadd (pc' := 79) rfl rfl ?_
      obtain ⟨c79, hf⟩ := o_chk hf
      refine j_iald (pc' := 80) rfl rfl (gm_32 g μ) (vin_ok c79) ?_
      obtain ⟨y80, e80, hf⟩ := o_let hf
      rw [e80]
      refine j_istore (pc' := 82) (ls' := [(4, _), (0, _), (1, _), (2, _), (3, _)]) rfl rfl (Nat.le_of_ble_eq_true rfl) rfl ?_
      refine j_aload_n (pc' := 83) rfl rfl rfl ?_
      refine j_get (pc' := 86) rfl rfl flX7_125 (gm_o g μ) (mF_47 μ) ?_
      refine j_iload_n (pc' := 87) rfl rfl rfl ?_
      obtain ⟨c87, hf⟩ := o_chk hf
      refine j_iald (pc' := 88) rfl rfl (gm_47 g μ) (vin_ok c87) ?_
      refine j_iload (pc' := 90) rfl rfl rfl ?_
      refine j_iadd (pc' := 91) rfl rfl ?_
      refine j_aload_n (pc' := 92) rfl rfl rfl ?_
      refine j_get (pc' := 95) rfl rfl flX7_125 (gm_o g μ) (mF_47 μ) ?_
      refine j_iconst (v := 3) (pc' := 96) rfl rfl (by decide) ?_
      refine j_iload_n (pc' := 97) rfl rfl rfl ?_
      refine j_iadd (pc' := 98) rfl rfl ?_
      obtain ⟨c98, hf⟩ := o_chk hf
      refine j_iald (pc' := 99) rfl rfl (gm_47 g μ) (vin_ok c98) ?_
      refine j_icmp_ge (tgt := 128) (pc' := 102) rfl rfl rfl (fun c99 => ?_) (fun c99 => ?_)
      · rw [if_pos c99] at hf
        refine j_aload_n (pc' := 129) rfl rfl rfl ?_
        refine j_get (pc' := 132) rfl rfl flX7_116 (gm_o g μ) (mF_44 μ) ?_
        refine j_iconst (v := 3) (pc' := 133) rfl rfl (by decide) ?_
        refine j_iload_n (pc' := 134) rfl rfl rfl ?_
        refine j_imul (pc' := 135) rfl rfl ?_
        refine j_iload_n (pc' := 136) rfl rfl rfl ?_
        refine j_iadd (pc' := 137) rfl rfl ?_
        obtain ⟨c137, hf⟩ := o_chk hf
        refine j_iald (pc' := 138) rfl rfl (gm_44 g μ) (vin_ok c137) ?_
        refine j_if_le (tgt := 187) (pc' := 141) rfl rfl rfl (fun c138 => ?_) (fun c138 => ?_)
        · rw [if_pos c138] at hf
          refine j_iinc (pc' := 190) (d := 1) (ls' := [(3, _), (4, _), (0, _), (1, _), (2, _)]) rfl rfl rfl (by decide) (Nat.le_of_ble_eq_true rfl) rfl ?_
          refine j_goto (tgt := 65) rfl rfl ?_
          refine j_sub (ls' := [(0, .ref 5000), (1, .int _), (2, .int _), (3, .int _)]) ⟨rfl, rfl, rfl, rfl, trivial⟩ ?_
          exact ih _ _ _ _ _ hf k0
        · rw [if_neg c138] at hf
          refine j_aload_n (pc' := 142) rfl rfl rfl ?_
          refine j_get (pc' := 145) rfl rfl flX7_125 (gm_o g μ) (mF_47 μ) ?_
          refine j_iconst (v := 3) (pc' := 146) rfl rfl (by decide) ?_
          refine j_iload_n (pc' := 147) rfl rfl rfl ?_
          refine j_iadd (pc' := 148) rfl rfl ?_
          obtain ⟨c148, hf⟩ := o_chk hf
          refine j_iald (pc' := 149) rfl rfl (gm_47 g μ) (vin_ok c148) ?_
          refine j_iload (pc' := 151) rfl rfl rfl ?_
          refine j_isub (pc' := 152) rfl rfl ?_
          refine j_aload_n (pc' := 153) rfl rfl rfl ?_
          refine j_get (pc' := 156) rfl rfl flX7_125 (gm_o g μ) (mF_47 μ) ?_
          refine j_iload_n (pc' := 157) rfl rfl rfl ?_
          obtain ⟨c157, hf⟩ := o_chk hf
          refine j_iald (pc' := 158) rfl rfl (gm_47 g μ) (vin_ok c157) ?_
          refine j_icmp_ge (tgt := 187) (pc' := 161) rfl rfl rfl (fun c158 => ?_) (fun c158 => ?_)
          · rw [if_pos c158] at hf
            refine j_iinc (pc' := 190) (d := 1) (ls' := [(3, _), (4, _), (0, _), (1, _), (2, _)]) rfl rfl rfl (by decide) (Nat.le_of_ble_eq_true rfl) rfl ?_
            refine j_goto (tgt := 65) rfl rfl ?_
            refine j_sub (ls' := [(0, .ref 5000), (1, .int _), (2, .int _), (3, .int _)]) ⟨rfl, rfl, rfl, rfl, trivial⟩ ?_
            exact ih _ _ _ _ _ hf k0
          · rw [if_neg c158] at hf
            refine j_aload_n (pc' := 162) rfl rfl rfl ?_
            refine j_get (pc' := 165) rfl rfl flX7_125 (gm_o g μ) (mF_47 μ) ?_
            refine j_iload_n (pc' := 166) rfl rfl rfl ?_
            refine j_aload_n (pc' := 167) rfl rfl rfl ?_
            refine j_get (pc' := 170) rfl rfl flX7_125 (gm_o g μ) (mF_47 μ) ?_
            refine j_iconst (v := 3) (pc' := 171) rfl rfl (by decide) ?_
            refine j_iload_n (pc' := 172) rfl rfl rfl ?_
            refine j_iadd (pc' := 173) rfl rfl ?_
            obtain ⟨c173, hf⟩ := o_chk hf
            refine j_iald (pc' := 174) rfl rfl (gm_47 g μ) (vin_ok c173) ?_
            refine j_iload (pc' := 176) rfl rfl rfl ?_
            refine j_isub (pc' := 177) rfl rfl ?_
            obtain ⟨c177, hf⟩ := o_chk hf
            obtain ⟨μ177, e177, hf⟩ := o_let hf
            refine j_iast (pc' := 178) rfl rfl (gm_47 g μ) (by decide) (vin_ok c177) ?_
            rw [gs_47]; rw [e177]
            refine j_aload_n (pc' := 179) rfl rfl rfl ?_
            refine j_get (pc' := 182) rfl rfl flX7_128 (gm_o g μ177) (mF_48 μ177) ?_
            refine j_iload_n (pc' := 183) rfl rfl rfl ?_
            refine j_iconst (v := 3) (pc' := 184) rfl rfl (by decide) ?_
            refine j_iload_n (pc' := 185) rfl rfl rfl ?_
            refine j_iadd (pc' := 186) rfl rfl ?_
            obtain ⟨c186, hf⟩ := o_chk hf
            obtain ⟨μ186, e186, hf⟩ := o_let hf
            refine j_iast (pc' := 187) rfl rfl (gm_48 g μ177) (by decide) (vin_ok c186) ?_
            rw [gs_48]; rw [e186]
            refine j_iinc (pc' := 190) (d := 1) (ls' := [(3, _), (4, _), (0, _), (1, _), (2, _)]) rfl rfl rfl (by decide) (Nat.le_of_ble_eq_true rfl) rfl ?_
            refine j_goto (tgt := 65) rfl rfl ?_
            refine j_sub (ls' := [(0, .ref 5000), (1, .int _), (2, .int _), (3, .int _)]) ⟨rfl, rfl, rfl, rfl, trivial⟩ ?_
            exact ih _ _ _ _ _ hf k0
      · rw [if_neg c99] at hf
        refine j_aload_n (pc' := 103) rfl rfl rfl ?_
        refine j_get (pc' := 106) rfl rfl flX7_125 (gm_o g μ) (mF_47 μ) ?_
        refine j_iconst (v := 3) (pc' := 107) rfl rfl (by decide) ?_
        refine j_iload_n (pc' := 108) rfl rfl rfl ?_
        refine j_iadd (pc' := 109) rfl rfl ?_
        refine j_aload_n (pc' := 110) rfl rfl rfl ?_
        refine j_get (pc' := 113) rfl rfl flX7_125 (gm_o g μ) (mF_47 μ) ?_
        refine j_iload_n (pc' := 114) rfl rfl rfl ?_
        obtain ⟨c114, hf⟩ := o_chk hf
        refine j_iald (pc' := 115) rfl rfl (gm_47 g μ) (vin_ok c114) ?_
        refine j_iload (pc' := 117) rfl rfl rfl ?_
        refine j_iadd (pc' := 118) rfl rfl ?_
        obtain ⟨c118, hf⟩ := o_chk hf
        obtain ⟨μ118, e118, hf⟩ := o_let hf
        refine j_iast (pc' := 119) rfl rfl (gm_47 g μ) (by decide) (vin_ok c118) ?_
        rw [gs_47]; rw [e118]
        refine j_aload_n (pc' := 120) rfl rfl rfl ?_
        refine j_get (pc' := 123) rfl rfl flX7_128 (gm_o g μ118) (mF_48 μ118) ?_
        refine j_iconst (v := 3) (pc' := 124) rfl rfl (by decide) ?_
        refine j_iload_n (pc' := 125) rfl rfl rfl ?_
        refine j_iadd (pc' := 126) rfl rfl ?_
        refine j_iload_n (pc' := 127) rfl rfl rfl ?_
        obtain ⟨c127, hf⟩ := o_chk hf
        obtain ⟨μ127, e127, hf⟩ := o_let hf
        refine j_iast (pc' := 128) rfl rfl (gm_48 g μ118) (by decide) (vin_ok c127) ?_
        rw [gs_48]; rw [e127]
        refine j_aload_n (pc' := 129) rfl rfl rfl ?_
        refine j_get (pc' := 132) rfl rfl flX7_116 (gm_o g μ127) (mF_44 μ127) ?_
        refine j_iconst (v := 3) (pc' := 133) rfl rfl (by decide) ?_
        refine j_iload_n (pc' := 134) rfl rfl rfl ?_
        refine j_imul (pc' := 135) rfl rfl ?_
        refine j_iload_n (pc' := 136) rfl rfl rfl ?_
        refine j_iadd (pc' := 137) rfl rfl ?_
        obtain ⟨c137, hf⟩ := o_chk hf
        refine j_iald (pc' := 138) rfl rfl (gm_44 g μ127) (vin_ok c137) ?_
        refine j_if_le (tgt := 187) (pc' := 141) rfl rfl rfl (fun c138 => ?_) (fun c138 => ?_)
        · rw [if_pos c138] at hf
          refine j_iinc (pc' := 190) (d := 1) (ls' := [(3, _), (4, _), (0, _), (1, _), (2, _)]) rfl rfl rfl (by decide) (Nat.le_of_ble_eq_true rfl) rfl ?_
          refine j_goto (tgt := 65) rfl rfl ?_
          refine j_sub (ls' := [(0, .ref 5000), (1, .int _), (2, .int _), (3, .int _)]) ⟨rfl, rfl, rfl, rfl, trivial⟩ ?_
          exact ih _ _ _ _ _ hf k0
        · rw [if_neg c138] at hf
          refine j_aload_n (pc' := 142) rfl rfl rfl ?_
          refine j_get (pc' := 145) rfl rfl flX7_125 (gm_o g μ127) (mF_47 μ127) ?_
          refine j_iconst (v := 3) (pc' := 146) rfl rfl (by decide) ?_
          refine j_iload_n (pc' := 147) rfl rfl rfl ?_
          refine j_iadd (pc' := 148) rfl rfl ?_
          obtain ⟨c148, hf⟩ := o_chk hf
          refine j_iald (pc' := 149) rfl rfl (gm_47 g μ127) (vin_ok c148) ?_
          refine j_iload (pc' := 151) rfl rfl rfl ?_
          refine j_isub (pc' := 152) rfl rfl ?_
          refine j_aload_n (pc' := 153) rfl rfl rfl ?_
          refine j_get (pc' := 156) rfl rfl flX7_125 (gm_o g μ127) (mF_47 μ127) ?_
          refine j_iload_n (pc' := 157) rfl rfl rfl ?_
          obtain ⟨c157, hf⟩ := o_chk hf
          refine j_iald (pc' := 158) rfl rfl (gm_47 g μ127) (vin_ok c157) ?_
          refine j_icmp_ge (tgt := 187) (pc' := 161) rfl rfl rfl (fun c158 => ?_) (fun c158 => ?_)
          · rw [if_pos c158] at hf
            refine j_iinc (pc' := 190) (d := 1) (ls' := [(3, _), (4, _), (0, _), (1, _), (2, _)]) rfl rfl rfl (by decide) (Nat.le_of_ble_eq_true rfl) rfl ?_
            refine j_goto (tgt := 65) rfl rfl ?_
            refine j_sub (ls' := [(0, .ref 5000), (1, .int _), (2, .int _), (3, .int _)]) ⟨rfl, rfl, rfl, rfl, trivial⟩ ?_
            exact ih _ _ _ _ _ hf k0
          · rw [if_neg c158] at hf
            refine j_aload_n (pc' := 162) rfl rfl rfl ?_
            refine j_get (pc' := 165) rfl rfl flX7_125 (gm_o g μ127) (mF_47 μ127) ?_
            refine j_iload_n (pc' := 166) rfl rfl rfl ?_
            refine j_aload_n (pc' := 167) rfl rfl rfl ?_
            refine j_get (pc' := 170) rfl rfl flX7_125 (gm_o g μ127) (mF_47 μ127) ?_
            refine j_iconst (v := 3) (pc' := 171) rfl rfl (by decide) ?_
            refine j_iload_n (pc' := 172) rfl rfl rfl ?_
            refine j_iadd (pc' := 173) rfl rfl ?_
            obtain ⟨c173, hf⟩ := o_chk hf
            refine j_iald (pc' := 174) rfl rfl (gm_47 g μ127) (vin_ok c173) ?_
            refine j_iload (pc' := 176) rfl rfl rfl ?_
            refine j_isub (pc' := 177) rfl rfl ?_
            obtain ⟨c177, hf⟩ := o_chk hf
            obtain ⟨μ177, e177, hf⟩ := o_let hf
            refine j_iast (pc' := 178) rfl rfl (gm_47 g μ127) (by decide) (vin_ok c177) ?_
            rw [gs_47]; rw [e177]
            refine j_aload_n (pc' := 179) rfl rfl rfl ?_
            refine j_get (pc' := 182) rfl rfl flX7_128 (gm_o g μ177) (mF_48 μ177) ?_
            refine j_iload_n (pc' := 183) rfl rfl rfl ?_
            refine j_iconst (v := 3) (pc' := 184) rfl rfl (by decide) ?_
            refine j_iload_n (pc' := 185) rfl rfl rfl ?_
            refine j_iadd (pc' := 186) rfl rfl ?_
            obtain ⟨c186, hf⟩ := o_chk hf
            obtain ⟨μ186, e186, hf⟩ := o_let hf
            refine j_iast (pc' := 187) rfl rfl (gm_48 g μ177) (by decide) (vin_ok c186) ?_
            rw [gs_48]; rw [e186]
            refine j_iinc (pc' := 190) (d := 1) (ls' := [(3, _), (4, _), (0, _), (1, _), (2, _)]) rfl rfl rfl (by decide) (Nat.le_of_ble_eq_true rfl) rfl ?_
            refine j_goto (tgt := 65) rfl rfl ?_
            refine j_sub (ls' := [(0, .ref 5000), (1, .int _), (2, .int _), (3, .int _)]) ⟨rfl, rfl, rfl, rfl, trivial⟩ ?_
            exact ih _ _ _ _ _ hf k0
def f_X7_findFar_L57 : Nat → mS → Int32 → Int32 → Option (mS)
  | 0, _, _, _ => none
  | n + 1, μ, x1, x2 => if 6 ≤ x2 then some (μ) else (f_X7_findFar_L65 4000 μ x1 x2 0).bind fun r65 => f_X7_findFar_L57 n r65 x1 (x2 + 1)
set_option maxHeartbeats 4000000 in
set_option maxRecDepth 100000 in
theorem s_X7_findFar_L57 {Q : Option Value → hH → Prop} (g : hH) : ∀ (n : Nat) (μ : mS) (x1 : Int32) (x2 : Int32) (r : mS), f_X7_findFar_L57 n μ x1 x2 = some r → (J mX7_findFar rX7_findFar Q 0 0 (gm g r) 199 [(0, .ref 5000), (1, .int x1)] []) → J mX7_findFar rX7_findFar Q 0 0 (gm g μ) 57 [(0, .ref 5000), (1, .int x1), (2, .int x2)] [] := by
  intro n
  induction n with
  | zero =>
    intro μ x1 x2 r hf
    cases hf
  | succ n ih =>
    intro μ x1 x2 r hf k0
    rw [f_X7_findFar_L57] at hf
    refine j_iload_n (pc' := 58) rfl rfl rfl ?_
    refine j_bipush (v := 6) (pc' := 60) rfl rfl (by decide) ?_
    refine j_icmp_ge (tgt := 199) (pc' := 63) rfl rfl rfl (fun c60 => ?_) (fun c60 => ?_)
    · rw [if_pos c60] at hf
      have hf := Option.some.inj hf; subst hf
      exact j_sub (ls' := [(0, .ref 5000), (1, .int _)]) ⟨rfl, rfl, trivial⟩ (k0)
    · rw [if_neg c60] at hf
      refine j_iconst (v := 0) (pc' := 64) rfl rfl (by decide) ?_
      refine j_istore_n (pc' := 65) (ls' := [(3, _), (0, _), (1, _), (2, _)]) rfl rfl (Nat.le_of_ble_eq_true rfl) rfl ?_
      obtain ⟨r65, e65, hf⟩ := o_bind hf
      refine j_sub (ls' := [(0, .ref 5000), (1, .int x1), (2, .int x2), (3, .int 0)]) ⟨rfl, rfl, rfl, rfl, trivial⟩ ?_
      refine s_X7_findFar_L65 g _ _ _ _ _ _ e65 ?_
      refine j_iinc (pc' := 196) (d := 1) (ls' := [(2, _), (0, _), (1, _)]) rfl rfl rfl (by decide) (Nat.le_of_ble_eq_true rfl) rfl ?_
      refine j_goto (tgt := 57) rfl rfl ?_
      refine j_sub (ls' := [(0, .ref 5000), (1, .int _), (2, .int _)]) ⟨rfl, rfl, rfl, trivial⟩ ?_
      exact ih _ _ _ _ hf k0
def f_X7_findFar_L49 : Nat → mS → Int32 → Option (mS)
  | 0, _, _ => none
  | n + 1, μ, x1 => if 9 ≤ x1 then some (μ) else (f_X7_findFar_L57 4000 μ x1 0).bind fun r57 => f_X7_findFar_L49 n r57 (x1 + 1)
set_option maxHeartbeats 4000000 in
set_option maxRecDepth 100000 in
theorem s_X7_findFar_L49 {Q : Option Value → hH → Prop} (g : hH) : ∀ (n : Nat) (μ : mS) (x1 : Int32) (r : mS), f_X7_findFar_L49 n μ x1 = some r → (J mX7_findFar rX7_findFar Q 0 0 (gm g r) 205 [] []) → J mX7_findFar rX7_findFar Q 0 0 (gm g μ) 49 [(0, .ref 5000), (1, .int x1)] [] := by
  intro n
  induction n with
  | zero =>
    intro μ x1 r hf
    cases hf
  | succ n ih =>
    intro μ x1 r hf k0
    rw [f_X7_findFar_L49] at hf
    refine j_iload_n (pc' := 50) rfl rfl rfl ?_
    refine j_bipush (v := 9) (pc' := 52) rfl rfl (by decide) ?_
    refine j_icmp_ge (tgt := 205) (pc' := 55) rfl rfl rfl (fun c52 => ?_) (fun c52 => ?_)
    · rw [if_pos c52] at hf
      have hf := Option.some.inj hf; subst hf
      exact j_sub (ls' := []) trivial (k0)
    · rw [if_neg c52] at hf
      refine j_iconst (v := 0) (pc' := 56) rfl rfl (by decide) ?_
      refine j_istore_n (pc' := 57) (ls' := [(2, _), (0, _), (1, _)]) rfl rfl (Nat.le_of_ble_eq_true rfl) rfl ?_
      obtain ⟨r57, e57, hf⟩ := o_bind hf
      refine j_sub (ls' := [(0, .ref 5000), (1, .int x1), (2, .int 0)]) ⟨rfl, rfl, rfl, trivial⟩ ?_
      refine s_X7_findFar_L57 g _ _ _ _ _ e57 ?_
      refine j_iinc (pc' := 202) (d := 1) (ls' := [(1, _), (0, _)]) rfl rfl rfl (by decide) (Nat.le_of_ble_eq_true rfl) rfl ?_
      refine j_goto (tgt := 49) rfl rfl ?_
      refine j_sub (ls' := [(0, .ref 5000), (1, .int _)]) ⟨rfl, rfl, trivial⟩ ?_
      exact ih _ _ _ hf k0
def f_X7_findFar (μ : mS) : Option mS := (f_X7_findFar_L2 4000 μ 0).bind fun r2 => (f_X7_findFar_L49 4000 r2 0).bind fun r49 => some r49
set_option maxHeartbeats 4000000 in
set_option maxRecDepth 100000 in
theorem s_X7_findFar (g : hH) (μ : mS) (r : mS) (hf : f_X7_findFar μ = some r) : SpD mX7_findFar rX7_findFar [.ref 5000] (gm g μ) (none) (gm g r) := by
  refine sp_of miX7_findFar (Nat.le_of_ble_eq_true rfl) ?_
  show J _ _ _ 0 0 _ 0 [(0, .ref 5000)] []
  unfold f_X7_findFar at hf
  refine j_iconst (v := 0) (pc' := 1) rfl rfl (by decide) ?_
  refine j_istore_n (pc' := 2) (ls' := [(1, _), (0, _)]) rfl rfl (Nat.le_of_ble_eq_true rfl) rfl ?_
  obtain ⟨r2, e2, hf⟩ := o_bind hf
  refine j_sub (ls' := [(0, .ref 5000), (1, .int 0)]) ⟨rfl, rfl, trivial⟩ ?_
  refine s_X7_findFar_L2 g _ _ _ _ e2 ?_
  refine j_iconst (v := 0) (pc' := 48) rfl rfl (by decide) ?_
  refine j_istore_n (pc' := 49) (ls' := [(1, _), (0, _)]) rfl rfl (Nat.le_of_ble_eq_true rfl) rfl ?_
  obtain ⟨r49, e49, hf⟩ := o_bind hf
  refine j_sub (ls' := [(0, .ref 5000), (1, .int 0)]) ⟨rfl, rfl, trivial⟩ ?_
  refine s_X7_findFar_L49 g _ _ _ _ e49 ?_
  have hf := Option.some.inj hf; subst hf
  exact j_vret rfl rfl (Nat.zero_le _) (Nat.zero_le _) ⟨rfl, rfl⟩
end MODEL1
end
section
section MODEL2
def rX7_sendOne : Room := { frames := 1, cells := 0, slots := 0, locals := 24 }
def f_X7_sendOne_L8 : Nat → mS → Int32 → Int32 → Option (Int32)
  | 0, _, _, _ => none
  | n + 1, μ, x1, x2 => if 6 ≤ x2 then some (x1) else bif vin x2 6 then if (μ.1 46 (x2).toNatClampNeg) ≤ 0 then f_X7_sendOne_L8 n μ x1 (x2 + 1) else bif vin (3 + x2) 9 then if 1000000 ≤ (μ.1 47 ((3 + x2)).toNatClampNeg) then f_X7_sendOne_L8 n μ x1 (x2 + 1) else if x1 < 0 then f_X7_sendOne_L8 n μ x2 (x2 + 1) else bif vin (3 + x2) 9 then bif vin (3 + x1) 9 then if (μ.1 47 ((3 + x1)).toNatClampNeg) ≤ (μ.1 47 ((3 + x2)).toNatClampNeg) then f_X7_sendOne_L8 n μ x1 (x2 + 1) else f_X7_sendOne_L8 n μ x2 (x2 + 1) else none else none else none else none
set_option maxHeartbeats 4000000 in
set_option maxRecDepth 100000 in
theorem s_X7_sendOne_L8 {Q : Option Value → hH → Prop} (g : hH) : ∀ (n : Nat) (μ : mS) (x1 : Int32) (x2 : Int32) (r : Int32), f_X7_sendOne_L8 n μ x1 x2 = some r → (J mX7_sendOne rX7_sendOne Q 0 0 (gm g μ) 67 [(0, .ref 5000), (1, .int r)] []) → J mX7_sendOne rX7_sendOne Q 0 0 (gm g μ) 8 [(0, .ref 5000), (1, .int x1), (2, .int x2)] [] := by
  intro n
  induction n with
  | zero =>
    intro μ x1 x2 r hf
    cases hf
  | succ n ih =>
    intro μ x1 x2 r hf k0
    rw [f_X7_sendOne_L8] at hf
    refine j_iload_n (pc' := 9) rfl rfl rfl ?_
    refine j_bipush (v := 6) (pc' := 11) rfl rfl (by decide) ?_
    refine j_icmp_ge (tgt := 67) (pc' := 14) rfl rfl rfl (fun c11 => ?_) (fun c11 => ?_)
    · rw [if_pos c11] at hf
      have hf := Option.some.inj hf; subst hf
      exact j_sub (ls' := [(0, .ref 5000), (1, .int _)]) ⟨rfl, rfl, trivial⟩ (k0)
    · rw [if_neg c11] at hf
      refine j_aload_n (pc' := 15) rfl rfl rfl ?_
      refine j_get (pc' := 18) rfl rfl flX7_122 (gm_o g μ) (mF_46 μ) ?_
      refine j_iload_n (pc' := 19) rfl rfl rfl ?_
      obtain ⟨c19, hf⟩ := o_chk hf
      refine j_iald (pc' := 20) rfl rfl (gm_46 g μ) (vin_ok c19) ?_
      refine j_if_le (tgt := 61) (pc' := 23) rfl rfl rfl (fun c20 => ?_) (fun c20 => ?_)
      · rw [if_pos c20] at hf
        refine j_iinc (pc' := 64) (d := 1) (ls' := [(2, _), (0, _), (1, _)]) rfl rfl rfl (by decide) (Nat.le_of_ble_eq_true rfl) rfl ?_
        refine j_goto (tgt := 8) rfl rfl ?_
        refine j_sub (ls' := [(0, .ref 5000), (1, .int _), (2, .int _)]) ⟨rfl, rfl, rfl, trivial⟩ ?_
        exact ih _ _ _ _ hf k0
      · rw [if_neg c20] at hf
        refine j_aload_n (pc' := 24) rfl rfl rfl ?_
        refine j_get (pc' := 27) rfl rfl flX7_125 (gm_o g μ) (mF_47 μ) ?_
        refine j_iconst (v := 3) (pc' := 28) rfl rfl (by decide) ?_
        refine j_iload_n (pc' := 29) rfl rfl rfl ?_
        refine j_iadd (pc' := 30) rfl rfl ?_
        obtain ⟨c30, hf⟩ := o_chk hf
        refine j_iald (pc' := 31) rfl rfl (gm_47 g μ) (vin_ok c30) ?_
        refine j_ldc (pc' := 33) rfl rfl kcX7_228 ?_
        refine j_icmp_ge (tgt := 61) (pc' := 36) rfl rfl rfl (fun c33 => ?_) (fun c33 => ?_)
        · rw [if_pos c33] at hf
          refine j_iinc (pc' := 64) (d := 1) (ls' := [(2, _), (0, _), (1, _)]) rfl rfl rfl (by decide) (Nat.le_of_ble_eq_true rfl) rfl ?_
          refine j_goto (tgt := 8) rfl rfl ?_
          refine j_sub (ls' := [(0, .ref 5000), (1, .int _), (2, .int _)]) ⟨rfl, rfl, rfl, trivial⟩ ?_
          exact ih _ _ _ _ hf k0
        · rw [if_neg c33] at hf
          refine j_iload_n (pc' := 37) rfl rfl rfl ?_
          refine j_if_lt (tgt := 59) (pc' := 40) rfl rfl rfl (fun c37 => ?_) (fun c37 => ?_)
          · rw [if_pos c37] at hf
            refine j_iload_n (pc' := 60) rfl rfl rfl ?_
            refine j_istore_n (pc' := 61) (ls' := [(1, _), (0, _), (2, _)]) rfl rfl (Nat.le_of_ble_eq_true rfl) rfl ?_
            refine j_iinc (pc' := 64) (d := 1) (ls' := [(2, _), (1, _), (0, _)]) rfl rfl rfl (by decide) (Nat.le_of_ble_eq_true rfl) rfl ?_
            refine j_goto (tgt := 8) rfl rfl ?_
            refine j_sub (ls' := [(0, .ref 5000), (1, .int _), (2, .int _)]) ⟨rfl, rfl, rfl, trivial⟩ ?_
            exact ih _ _ _ _ hf k0
          · rw [if_neg c37] at hf
            refine j_aload_n (pc' := 41) rfl rfl rfl ?_
            refine j_get (pc' := 44) rfl rfl flX7_125 (gm_o g μ) (mF_47 μ) ?_
            refine j_iconst (v := 3) (pc' := 45) rfl rfl (by decide) ?_
            refine j_iload_n (pc' := 46) rfl rfl rfl ?_
            refine j_iadd (pc' := 47) rfl rfl ?_
            obtain ⟨c47, hf⟩ := o_chk hf
            refine j_iald (pc' := 48) rfl rfl (gm_47 g μ) (vin_ok c47) ?_
            refine j_aload_n (pc' := 49) rfl rfl rfl ?_
            refine j_get (pc' := 52) rfl rfl flX7_125 (gm_o g μ) (mF_47 μ) ?_
            refine j_iconst (v := 3) (pc' := 53) rfl rfl (by decide) ?_
            refine j_iload_n (pc' := 54) rfl rfl rfl ?_
            refine j_iadd (pc' := 55) rfl rfl ?_
            obtain ⟨c55, hf⟩ := o_chk hf
            refine j_iald (pc' := 56) rfl rfl (gm_47 g μ) (vin_ok c55) ?_
            refine j_icmp_ge (tgt := 61) (pc' := 59) rfl rfl rfl (fun c56 => ?_) (fun c56 => ?_)
            · rw [if_pos c56] at hf
              refine j_iinc (pc' := 64) (d := 1) (ls' := [(2, _), (0, _), (1, _)]) rfl rfl rfl (by decide) (Nat.le_of_ble_eq_true rfl) rfl ?_
              refine j_goto (tgt := 8) rfl rfl ?_
              refine j_sub (ls' := [(0, .ref 5000), (1, .int _), (2, .int _)]) ⟨rfl, rfl, rfl, trivial⟩ ?_
              exact ih _ _ _ _ hf k0
            · rw [if_neg c56] at hf
              refine j_iload_n (pc' := 60) rfl rfl rfl ?_
              refine j_istore_n (pc' := 61) (ls' := [(1, _), (0, _), (2, _)]) rfl rfl (Nat.le_of_ble_eq_true rfl) rfl ?_
              refine j_iinc (pc' := 64) (d := 1) (ls' := [(2, _), (1, _), (0, _)]) rfl rfl rfl (by decide) (Nat.le_of_ble_eq_true rfl) rfl ?_
              refine j_goto (tgt := 8) rfl rfl ?_
              refine j_sub (ls' := [(0, .ref 5000), (1, .int _), (2, .int _)]) ⟨rfl, rfl, rfl, trivial⟩ ?_
              exact ih _ _ _ _ hf k0
def f_X7_sendOne_L87 : Nat → mS → Int32 → Int32 → Option (Int32 × mS)
  | 0, _, _, _ => none
  | n + 1, μ, x1, x2 => bif vin x2 9 then if (μ.1 48 (x2).toNatClampNeg) < 0 then some (x2, μ) else bif vin x2 9 then if 3 ≤ (μ.1 48 (x2).toNatClampNeg) then bif vin ((3 * ((μ.1 48 (x2).toNatClampNeg) - 3)) + x2) 18 then bif vin ((3 * ((μ.1 48 (x2).toNatClampNeg) - 3)) + x2) 18 then letm (seti μ 44 (va_up (μ.1 44) (((3 * ((μ.1 48 (x2).toNatClampNeg) - 3)) + x2)).toNatClampNeg ((μ.1 44 (((3 * ((μ.1 48 (x2).toNatClampNeg) - 3)) + x2)).toNatClampNeg) - 1))) fun μ142 => f_X7_sendOne_L87 n μ142 x1 (μ.1 48 (x2).toNatClampNeg) else none else none else bif vin ((3 * (x2 - 3)) + (μ.1 48 (x2).toNatClampNeg)) 18 then bif vin ((3 * (x2 - 3)) + (μ.1 48 (x2).toNatClampNeg)) 18 then letm (seti μ 44 (va_up (μ.1 44) (((3 * (x2 - 3)) + (μ.1 48 (x2).toNatClampNeg))).toNatClampNeg ((μ.1 44 (((3 * (x2 - 3)) + (μ.1 48 (x2).toNatClampNeg))).toNatClampNeg) + 1))) fun μ123 => f_X7_sendOne_L87 n μ123 x1 (μ.1 48 (x2).toNatClampNeg) else none else none else none else none
set_option maxHeartbeats 4000000 in
set_option maxRecDepth 100000 in
theorem s_X7_sendOne_L87 {Q : Option Value → hH → Prop} (g : hH) : ∀ (n : Nat) (μ : mS) (x1 : Int32) (x2 : Int32) (r : Int32 × mS), f_X7_sendOne_L87 n μ x1 x2 = some r → (J mX7_sendOne rX7_sendOne Q 0 0 (gm g r.2) 148 [(0, .ref 5000), (1, .int x1), (2, .int r.1)] []) → J mX7_sendOne rX7_sendOne Q 0 0 (gm g μ) 87 [(0, .ref 5000), (1, .int x1), (2, .int x2)] [] := by
  intro n
  induction n with
  | zero =>
    intro μ x1 x2 r hf
    cases hf
  | succ n ih =>
    intro μ x1 x2 r hf k0
    rw [f_X7_sendOne_L87] at hf
    refine j_aload_n (pc' := 88) rfl rfl rfl ?_
    refine j_get (pc' := 91) rfl rfl flX7_128 (gm_o g μ) (mF_48 μ) ?_
    refine j_iload_n (pc' := 92) rfl rfl rfl ?_
    obtain ⟨c92, hf⟩ := o_chk hf
    refine j_iald (pc' := 93) rfl rfl (gm_48 g μ) (vin_ok c92) ?_
    refine j_if_lt (tgt := 148) (pc' := 96) rfl rfl rfl (fun c93 => ?_) (fun c93 => ?_)
    · rw [if_pos c93] at hf
      have hf := Option.some.inj hf; subst hf
      exact j_sub (ls' := [(0, .ref 5000), (1, .int _), (2, .int _)]) ⟨rfl, rfl, rfl, trivial⟩ (k0)
    · rw [if_neg c93] at hf
      refine j_aload_n (pc' := 97) rfl rfl rfl ?_
      refine j_get (pc' := 100) rfl rfl flX7_128 (gm_o g μ) (mF_48 μ) ?_
      refine j_iload_n (pc' := 101) rfl rfl rfl ?_
      obtain ⟨c101, hf⟩ := o_chk hf
      refine j_iald (pc' := 102) rfl rfl (gm_48 g μ) (vin_ok c101) ?_
      refine j_istore_n (pc' := 103) (ls' := [(3, _), (0, _), (1, _), (2, _)]) rfl rfl (Nat.le_of_ble_eq_true rfl) rfl ?_
      refine j_iload_n (pc' := 104) rfl rfl rfl ?_
      refine j_iconst (v := 3) (pc' := 105) rfl rfl (by decide) ?_
      refine j_icmp_ge (tgt := 127) (pc' := 108) rfl rfl rfl (fun c105 => ?_) (fun c105 => ?_)
      · rw [if_pos c105] at hf
        refine j_aload_n (pc' := 128) rfl rfl rfl ?_
        refine j_get (pc' := 131) rfl rfl flX7_116 (gm_o g μ) (mF_44 μ) ?_
        refine j_iconst (v := 3) (pc' := 132) rfl rfl (by decide) ?_
        refine j_iload_n (pc' := 133) rfl rfl rfl ?_
        refine j_iconst (v := 3) (pc' := 134) rfl rfl (by decide) ?_
        refine j_isub (pc' := 135) rfl rfl ?_
        refine j_imul (pc' := 136) rfl rfl ?_
        refine j_iload_n (pc' := 137) rfl rfl rfl ?_
        refine j_iadd (pc' := 138) rfl rfl ?_
        refine j_dup2_11 (pc' := 139) rfl rfl rfl rfl ?_
        obtain ⟨c139, hf⟩ := o_chk hf
        refine j_iald (pc' := 140) rfl rfl (gm_44 g μ) (vin_ok c139) ?_
        refine j_iconst (v := 1) (pc' := 141) rfl rfl (by decide) ?_
        refine j_isub (pc' := 142) rfl rfl ?_
        obtain ⟨c142, hf⟩ := o_chk hf
        obtain ⟨μ142, e142, hf⟩ := o_let hf
        refine j_iast (pc' := 143) rfl rfl (gm_44 g μ) (by decide) (vin_ok c142) ?_
        rw [gs_44]; rw [e142]
        refine j_iload_n (pc' := 144) rfl rfl rfl ?_
        refine j_istore_n (pc' := 145) (ls' := [(2, _), (3, _), (0, _), (1, _)]) rfl rfl (Nat.le_of_ble_eq_true rfl) rfl ?_
        refine j_goto (tgt := 87) rfl rfl ?_
        refine j_sub (ls' := [(0, .ref 5000), (1, .int _), (2, .int _)]) ⟨rfl, rfl, rfl, trivial⟩ ?_
        exact ih _ _ _ _ hf k0
      · rw [if_neg c105] at hf
        refine j_aload_n (pc' := 109) rfl rfl rfl ?_
        refine j_get (pc' := 112) rfl rfl flX7_116 (gm_o g μ) (mF_44 μ) ?_
        refine j_iconst (v := 3) (pc' := 113) rfl rfl (by decide) ?_
        refine j_iload_n (pc' := 114) rfl rfl rfl ?_
        refine j_iconst (v := 3) (pc' := 115) rfl rfl (by decide) ?_
        refine j_isub (pc' := 116) rfl rfl ?_
        refine j_imul (pc' := 117) rfl rfl ?_
        refine j_iload_n (pc' := 118) rfl rfl rfl ?_
        refine j_iadd (pc' := 119) rfl rfl ?_
        refine j_dup2_11 (pc' := 120) rfl rfl rfl rfl ?_
        obtain ⟨c120, hf⟩ := o_chk hf
        refine j_iald (pc' := 121) rfl rfl (gm_44 g μ) (vin_ok c120) ?_
        refine j_iconst (v := 1) (pc' := 122) rfl rfl (by decide) ?_
        refine j_iadd (pc' := 123) rfl rfl ?_
        obtain ⟨c123, hf⟩ := o_chk hf
        obtain ⟨μ123, e123, hf⟩ := o_let hf
        refine j_iast (pc' := 124) rfl rfl (gm_44 g μ) (by decide) (vin_ok c123) ?_
        rw [gs_44]; rw [e123]
        refine j_goto (tgt := 143) rfl rfl ?_
        refine j_iload_n (pc' := 144) rfl rfl rfl ?_
        refine j_istore_n (pc' := 145) (ls' := [(2, _), (3, _), (0, _), (1, _)]) rfl rfl (Nat.le_of_ble_eq_true rfl) rfl ?_
        refine j_goto (tgt := 87) rfl rfl ?_
        refine j_sub (ls' := [(0, .ref 5000), (1, .int _), (2, .int _)]) ⟨rfl, rfl, rfl, trivial⟩ ?_
        exact ih _ _ _ _ hf k0
def f_X7_sendOne (μ : mS) : Option (Int32 × mS) := (f_X7_findFar μ).bind fun r1 => (f_X7_sendOne_L8 4000 r1 (-1) 0).bind fun r8 => if 0 ≤ r8 then bif vin r8 6 then bif vin r8 6 then letm (seti r1 46 (va_up (r1.1 46) (r8).toNatClampNeg ((r1.1 46 (r8).toNatClampNeg) - 1))) fun μ82 => (f_X7_sendOne_L87 4000 μ82 r8 (3 + r8)).bind fun r87 => bif vin r87.1 3 then bif vin r87.1 3 then letm (seti r87.2 45 (va_up (r87.2.1 45) (r87.1).toNatClampNeg ((r87.2.1 45 (r87.1).toNatClampNeg) - 1))) fun μ157 => bif vin (3 + r8) 9 then some ((μ157.1 47 ((3 + r8)).toNatClampNeg), μ157) else none else none else none else none else none else some ((-1), r1)
set_option maxHeartbeats 4000000 in
set_option maxRecDepth 100000 in
theorem s_X7_sendOne (g : hH) (μ : mS) (r : (Int32 × mS)) (hf : f_X7_sendOne μ = some r) : SpD mX7_sendOne rX7_sendOne [.ref 5000] (gm g μ) (some (.int r.1)) (gm g r.2) := by
  refine sp_of miX7_sendOne (Nat.le_of_ble_eq_true rfl) ?_
  show J _ _ _ 0 0 _ 0 [(0, .ref 5000)] []
  unfold f_X7_sendOne at hf
  refine j_aload_n (pc' := 1) rfl rfl rfl ?_
  obtain ⟨r1, e1, hf⟩ := o_bind hf
  refine j_vw0 (pc' := 4) rfl rfl miX7_findFar lnX7_257 (gm_o g μ) rfl (s_X7_findFar g μ _ e1) (h_rm_of rfl) (Nat.le_of_ble_eq_true rfl) (c' := 0) (s' := 0) rfl rfl ?_
  refine j_iconst (v := (-1)) (pc' := 5) rfl rfl (by decide) ?_
  refine j_istore_n (pc' := 6) (ls' := [(1, _), (0, _)]) rfl rfl (Nat.le_of_ble_eq_true rfl) rfl ?_
  refine j_iconst (v := 0) (pc' := 7) rfl rfl (by decide) ?_
  refine j_istore_n (pc' := 8) (ls' := [(2, _), (1, _), (0, _)]) rfl rfl (Nat.le_of_ble_eq_true rfl) rfl ?_
  obtain ⟨r8, e8, hf⟩ := o_bind hf
  refine j_sub (ls' := [(0, .ref 5000), (1, .int (-1)), (2, .int 0)]) ⟨rfl, rfl, rfl, trivial⟩ ?_
  refine s_X7_sendOne_L8 g _ _ _ _ _ e8 ?_
  refine j_iload_n (pc' := 68) rfl rfl rfl ?_
  refine j_if_ge (tgt := 73) (pc' := 71) rfl rfl rfl (fun c68 => ?_) (fun c68 => ?_)
  · rw [if_pos c68] at hf
    refine j_aload_n (pc' := 74) rfl rfl rfl ?_
    refine j_get (pc' := 77) rfl rfl flX7_122 (gm_o g r1) (mF_46 r1) ?_
    refine j_iload_n (pc' := 78) rfl rfl rfl ?_
    refine j_dup2_11 (pc' := 79) rfl rfl rfl rfl ?_
    obtain ⟨c79, hf⟩ := o_chk hf
    refine j_iald (pc' := 80) rfl rfl (gm_46 g r1) (vin_ok c79) ?_
    refine j_iconst (v := 1) (pc' := 81) rfl rfl (by decide) ?_
    refine j_isub (pc' := 82) rfl rfl ?_
    obtain ⟨c82, hf⟩ := o_chk hf
    obtain ⟨μ82, e82, hf⟩ := o_let hf
    refine j_iast (pc' := 83) rfl rfl (gm_46 g r1) (by decide) (vin_ok c82) ?_
    rw [gs_46]; rw [e82]
    refine j_iconst (v := 3) (pc' := 84) rfl rfl (by decide) ?_
    refine j_iload_n (pc' := 85) rfl rfl rfl ?_
    refine j_iadd (pc' := 86) rfl rfl ?_
    refine j_istore_n (pc' := 87) (ls' := [(2, _), (0, _), (1, _)]) rfl rfl (Nat.le_of_ble_eq_true rfl) rfl ?_
    obtain ⟨r87, e87, hf⟩ := o_bind hf
    refine j_sub (ls' := [(0, .ref 5000), (1, .int r8), (2, .int (3 + r8))]) ⟨rfl, rfl, rfl, trivial⟩ ?_
    refine s_X7_sendOne_L87 g _ _ _ _ _ e87 ?_
    refine j_aload_n (pc' := 149) rfl rfl rfl ?_
    refine j_get (pc' := 152) rfl rfl flX7_119 (gm_o g r87.2) (mF_45 r87.2) ?_
    refine j_iload_n (pc' := 153) rfl rfl rfl ?_
    refine j_dup2_11 (pc' := 154) rfl rfl rfl rfl ?_
    obtain ⟨c154, hf⟩ := o_chk hf
    refine j_iald (pc' := 155) rfl rfl (gm_45 g r87.2) (vin_ok c154) ?_
    refine j_iconst (v := 1) (pc' := 156) rfl rfl (by decide) ?_
    refine j_isub (pc' := 157) rfl rfl ?_
    obtain ⟨c157, hf⟩ := o_chk hf
    obtain ⟨μ157, e157, hf⟩ := o_let hf
    refine j_iast (pc' := 158) rfl rfl (gm_45 g r87.2) (by decide) (vin_ok c157) ?_
    rw [gs_45]; rw [e157]
    refine j_aload_n (pc' := 159) rfl rfl rfl ?_
    refine j_get (pc' := 162) rfl rfl flX7_125 (gm_o g μ157) (mF_47 μ157) ?_
    refine j_iconst (v := 3) (pc' := 163) rfl rfl (by decide) ?_
    refine j_iload_n (pc' := 164) rfl rfl rfl ?_
    refine j_iadd (pc' := 165) rfl rfl ?_
    obtain ⟨c165, hf⟩ := o_chk hf
    refine j_iald (pc' := 166) rfl rfl (gm_47 g μ157) (vin_ok c165) ?_
    have hf := Option.some.inj hf; subst hf
    exact j_iret rfl rfl (Nat.zero_le _) (Nat.zero_le _) ⟨rfl, rfl⟩
  · rw [if_neg c68] at hf
    refine j_iconst (v := (-1)) (pc' := 72) rfl rfl (by decide) ?_
    have hf := Option.some.inj hf; subst hf
    exact j_iret rfl rfl (Nat.zero_le _) (Nat.zero_le _) ⟨rfl, rfl⟩
def rX7_sort : Room := { frames := 1, cells := 0, slots := 0, locals := 22 }
def f_X7_sort (μ : mS) (x1 : Int32) (x2 : Int32) (x3 : Int32) (x4 : Int32) : Option (Int32 × mS) := (f_X7_in x1 1 500).bind fun r5 => if r5 = 0 then some ((-2), μ) else (f_X7_in x2 x1 500).bind fun r16 => if r16 = 0 then some ((-2), μ) else (f_X7_in x3 0 1000).bind fun r27 => if r27 = 0 then some ((-2), μ) else (f_X7_in x4 1 240).bind fun r39 => if r39 = 0 then some ((-2), μ) else if (μ.1 1 0) = 8 then some ((-4), μ) else bif vin (μ.1 1 0) 8 then letm (seti μ 2 (va_up (μ.1 2) ((μ.1 1 0)).toNatClampNeg x1)) fun μ69 => bif vin (μ69.1 1 0) 8 then letm (seti μ69 3 (va_up (μ69.1 3) ((μ69.1 1 0)).toNatClampNeg x2)) fun μ79 => bif vin (μ79.1 1 0) 8 then letm (seti μ79 4 (va_up (μ79.1 4) ((μ79.1 1 0)).toNatClampNeg x3)) fun μ89 => bif vin (μ89.1 1 0) 8 then letm (seti μ89 5 (va_up (μ89.1 5) ((μ89.1 1 0)).toNatClampNeg x4)) fun μ100 => letm (seti μ100 1 (fun _ => ((μ100.1 1 0) + 1))) fun μ108 => some (((μ108.1 1 0) - 1), μ108) else none else none else none else none
set_option maxHeartbeats 4000000 in
set_option maxRecDepth 100000 in
theorem s_X7_sort (g : hH) (μ : mS) (x1 : Int32) (x2 : Int32) (x3 : Int32) (x4 : Int32) (r : (Int32 × mS)) (hf : f_X7_sort μ x1 x2 x3 x4 = some r) : SpD mX7_sort rX7_sort [.ref 5000, .int x1, .int x2, .int x3, .int x4] (gm g μ) (some (.int r.1)) (gm g r.2) := by
  refine sp_of miX7_sort (Nat.le_of_ble_eq_true rfl) ?_
  show J _ _ _ 0 0 _ 0 [(0, .ref 5000), (1, .int x1), (2, .int x2), (3, .int x3), (4, .int x4)] []
  unfold f_X7_sort at hf
  refine j_iload_n (pc' := 1) rfl rfl rfl ?_
  refine j_iconst (v := 1) (pc' := 2) rfl rfl (by decide) ?_
  refine j_sipush (v := 500) (pc' := 5) rfl rfl (by decide) ?_
  obtain ⟨r5, e5, hf⟩ := o_bind hf
  refine j_s3 (pc' := 8) rfl rfl miX7_in lnX7_138 (s_X7_in (gm g μ) x1 1 500 _ e5) (h_rm_of rfl) (Nat.le_of_ble_eq_true rfl) (c' := 0) (s' := 0) rfl rfl ?_
  refine j_if_eq (tgt := 45) (pc' := 11) rfl rfl rfl (fun c8 => ?_) (fun c8 => ?_)
  · rw [if_pos c8] at hf
    refine j_bipush (v := (-2)) (pc' := 47) rfl rfl (by decide) ?_
    have hf := Option.some.inj hf; subst hf
    exact j_iret rfl rfl (Nat.zero_le _) (Nat.zero_le _) ⟨rfl, rfl⟩
  · rw [if_neg c8] at hf
    refine j_iload_n (pc' := 12) rfl rfl rfl ?_
    refine j_iload_n (pc' := 13) rfl rfl rfl ?_
    refine j_sipush (v := 500) (pc' := 16) rfl rfl (by decide) ?_
    obtain ⟨r16, e16, hf⟩ := o_bind hf
    refine j_s3 (pc' := 19) rfl rfl miX7_in lnX7_138 (s_X7_in (gm g μ) x2 x1 500 _ e16) (h_rm_of rfl) (Nat.le_of_ble_eq_true rfl) (c' := 0) (s' := 0) rfl rfl ?_
    refine j_if_eq (tgt := 45) (pc' := 22) rfl rfl rfl (fun c19 => ?_) (fun c19 => ?_)
    · rw [if_pos c19] at hf
      refine j_bipush (v := (-2)) (pc' := 47) rfl rfl (by decide) ?_
      have hf := Option.some.inj hf; subst hf
      exact j_iret rfl rfl (Nat.zero_le _) (Nat.zero_le _) ⟨rfl, rfl⟩
    · rw [if_neg c19] at hf
      refine j_iload_n (pc' := 23) rfl rfl rfl ?_
      refine j_iconst (v := 0) (pc' := 24) rfl rfl (by decide) ?_
      refine j_sipush (v := 1000) (pc' := 27) rfl rfl (by decide) ?_
      obtain ⟨r27, e27, hf⟩ := o_bind hf
      refine j_s3 (pc' := 30) rfl rfl miX7_in lnX7_138 (s_X7_in (gm g μ) x3 0 1000 _ e27) (h_rm_of rfl) (Nat.le_of_ble_eq_true rfl) (c' := 0) (s' := 0) rfl rfl ?_
      refine j_if_eq (tgt := 45) (pc' := 33) rfl rfl rfl (fun c30 => ?_) (fun c30 => ?_)
      · rw [if_pos c30] at hf
        refine j_bipush (v := (-2)) (pc' := 47) rfl rfl (by decide) ?_
        have hf := Option.some.inj hf; subst hf
        exact j_iret rfl rfl (Nat.zero_le _) (Nat.zero_le _) ⟨rfl, rfl⟩
      · rw [if_neg c30] at hf
        refine j_iload (pc' := 35) rfl rfl rfl ?_
        refine j_iconst (v := 1) (pc' := 36) rfl rfl (by decide) ?_
        refine j_sipush (v := 240) (pc' := 39) rfl rfl (by decide) ?_
        obtain ⟨r39, e39, hf⟩ := o_bind hf
        refine j_s3 (pc' := 42) rfl rfl miX7_in lnX7_138 (s_X7_in (gm g μ) x4 1 240 _ e39) (h_rm_of rfl) (Nat.le_of_ble_eq_true rfl) (c' := 0) (s' := 0) rfl rfl ?_
        refine j_if_ne (tgt := 48) (pc' := 45) rfl rfl rfl (fun c42 => ?_) (fun c42 => ?_)
        · rw [if_neg c42] at hf
          refine j_aload_n (pc' := 49) rfl rfl rfl ?_
          refine j_get (pc' := 52) rfl rfl flX7_135 (gm_o g μ) (mF_1 μ) ?_
          refine j_bipush (v := 8) (pc' := 54) rfl rfl (by decide) ?_
          refine j_icmp_ne (tgt := 60) (pc' := 57) rfl rfl rfl (fun c54 => ?_) (fun c54 => ?_)
          · rw [if_neg c54] at hf
            refine j_aload_n (pc' := 61) rfl rfl rfl ?_
            refine j_get (pc' := 64) rfl rfl flX7_7 (gm_o g μ) (mF_2 μ) ?_
            refine j_aload_n (pc' := 65) rfl rfl rfl ?_
            refine j_get (pc' := 68) rfl rfl flX7_135 (gm_o g μ) (mF_1 μ) ?_
            refine j_iload_n (pc' := 69) rfl rfl rfl ?_
            obtain ⟨c69, hf⟩ := o_chk hf
            obtain ⟨μ69, e69, hf⟩ := o_let hf
            refine j_iast (pc' := 70) rfl rfl (gm_2 g μ) (by decide) (vin_ok c69) ?_
            rw [gs_2]; rw [e69]
            refine j_aload_n (pc' := 71) rfl rfl rfl ?_
            refine j_get (pc' := 74) rfl rfl flX7_13 (gm_o g μ69) (mF_3 μ69) ?_
            refine j_aload_n (pc' := 75) rfl rfl rfl ?_
            refine j_get (pc' := 78) rfl rfl flX7_135 (gm_o g μ69) (mF_1 μ69) ?_
            refine j_iload_n (pc' := 79) rfl rfl rfl ?_
            obtain ⟨c79, hf⟩ := o_chk hf
            obtain ⟨μ79, e79, hf⟩ := o_let hf
            refine j_iast (pc' := 80) rfl rfl (gm_3 g μ69) (by decide) (vin_ok c79) ?_
            rw [gs_3]; rw [e79]
            refine j_aload_n (pc' := 81) rfl rfl rfl ?_
            refine j_get (pc' := 84) rfl rfl flX7_16 (gm_o g μ79) (mF_4 μ79) ?_
            refine j_aload_n (pc' := 85) rfl rfl rfl ?_
            refine j_get (pc' := 88) rfl rfl flX7_135 (gm_o g μ79) (mF_1 μ79) ?_
            refine j_iload_n (pc' := 89) rfl rfl rfl ?_
            obtain ⟨c89, hf⟩ := o_chk hf
            obtain ⟨μ89, e89, hf⟩ := o_let hf
            refine j_iast (pc' := 90) rfl rfl (gm_4 g μ79) (by decide) (vin_ok c89) ?_
            rw [gs_4]; rw [e89]
            refine j_aload_n (pc' := 91) rfl rfl rfl ?_
            refine j_get (pc' := 94) rfl rfl flX7_19 (gm_o g μ89) (mF_5 μ89) ?_
            refine j_aload_n (pc' := 95) rfl rfl rfl ?_
            refine j_get (pc' := 98) rfl rfl flX7_135 (gm_o g μ89) (mF_1 μ89) ?_
            refine j_iload (pc' := 100) rfl rfl rfl ?_
            obtain ⟨c100, hf⟩ := o_chk hf
            obtain ⟨μ100, e100, hf⟩ := o_let hf
            refine j_iast (pc' := 101) rfl rfl (gm_5 g μ89) (by decide) (vin_ok c100) ?_
            rw [gs_5]; rw [e100]
            refine j_aload_n (pc' := 102) rfl rfl rfl ?_
            refine j_dup (pc' := 103) rfl rfl rfl ?_
            refine j_get (pc' := 106) rfl rfl flX7_135 (gm_o g μ100) (mF_1 μ100) ?_
            refine j_iconst (v := 1) (pc' := 107) rfl rfl (by decide) ?_
            refine j_iadd (pc' := 108) rfl rfl ?_
            obtain ⟨μ108, e108, hf⟩ := o_let hf
            refine j_put (pc' := 111) rfl rfl flX7_135 (gm_o g μ100) (by decide) (Nat.le_of_ble_eq_true rfl) rfl rfl ?_
            rw [gs_1]; rw [e108]
            refine j_aload_n (pc' := 112) rfl rfl rfl ?_
            refine j_get (pc' := 115) rfl rfl flX7_135 (gm_o g μ108) (mF_1 μ108) ?_
            refine j_iconst (v := 1) (pc' := 116) rfl rfl (by decide) ?_
            refine j_isub (pc' := 117) rfl rfl ?_
            have hf := Option.some.inj hf; subst hf
            exact j_iret rfl rfl (Nat.zero_le _) (Nat.zero_le _) ⟨rfl, rfl⟩
          · rw [if_pos c54] at hf
            refine j_bipush (v := (-4)) (pc' := 59) rfl rfl (by decide) ?_
            have hf := Option.some.inj hf; subst hf
            exact j_iret rfl rfl (Nat.zero_le _) (Nat.zero_le _) ⟨rfl, rfl⟩
        · rw [if_pos c42] at hf
          refine j_bipush (v := (-2)) (pc' := 47) rfl rfl (by decide) ?_
          have hf := Option.some.inj hf; subst hf
          exact j_iret rfl rfl (Nat.zero_le _) (Nat.zero_le _) ⟨rfl, rfl⟩
def rX7_lot : Room := { frames := 2, cells := 0, slots := 0, locals := 46 }
def f_X7_lot (μ : mS) (x1 : Int32) (x2 : Int32) (x3 : Int32) (x4 : Int32) (x5 : Int32) (x6 : Int32) : Option (Int32 × mS) := (f_X7_isSort μ x2).bind fun r2 => if r2 = 0 then some ((-1), μ) else (f_X7_isTown x6).bind fun r10 => if r10 = 0 then some ((-1), μ) else if x1 = 3 then (f_X7_in x1 0 5).bind fun r38 => if r38 = 0 then some ((-2), μ) else (f_X7_isWeight μ x1 x2 x3 x4).bind fun r50 => if r50 = 0 then some ((-2), μ) else (f_X7_in x5 0 1000).bind fun r67 => if r67 = 0 then some ((-2), μ) else if (μ.1 7 0) = 30 then some ((-4), μ) else (f_X7_newLot μ x1 x2 x3 x4 x5 x6 (-1)).bind fun r109 => some (r109.1, r109.2) else if x1 = 5 then (f_X7_in x1 0 5).bind fun r38 => if r38 = 0 then some ((-2), μ) else (f_X7_isWeight μ x1 x2 x3 x4).bind fun r50 => if r50 = 0 then some ((-2), μ) else (f_X7_in x5 0 1000).bind fun r67 => if r67 = 0 then some ((-2), μ) else if (μ.1 7 0) = 30 then some ((-4), μ) else (f_X7_newLot μ x1 x2 x3 x4 x5 x6 (-1)).bind fun r109 => some (r109.1, r109.2) else (f_X7_in x1 0 5).bind fun r38 => if r38 = 0 then some ((-2), μ) else (f_X7_isWeight μ x1 x2 x3 x4).bind fun r50 => if r50 = 0 then some ((-2), μ) else if x5 = 0 then if (μ.1 7 0) = 30 then some ((-4), μ) else (f_X7_newLot μ x1 x2 x3 x4 x5 x6 (-1)).bind fun r109 => some (r109.1, r109.2) else some ((-2), μ)
set_option maxHeartbeats 4000000 in
set_option maxRecDepth 100000 in
theorem s_X7_lot (g : hH) (μ : mS) (x1 : Int32) (x2 : Int32) (x3 : Int32) (x4 : Int32) (x5 : Int32) (x6 : Int32) (r : (Int32 × mS)) (hf : f_X7_lot μ x1 x2 x3 x4 x5 x6 = some r) : SpD mX7_lot rX7_lot [.ref 5000, .int x1, .int x2, .int x3, .int x4, .int x5, .int x6] (gm g μ) (some (.int r.1)) (gm g r.2) := by
  refine sp_of miX7_lot (Nat.le_of_ble_eq_true rfl) ?_
  show J _ _ _ 0 0 _ 0 [(0, .ref 5000), (1, .int x1), (2, .int x2), (3, .int x3), (4, .int x4), (5, .int x5), (6, .int x6)] []
  unfold f_X7_lot at hf
  refine j_aload_n (pc' := 1) rfl rfl rfl ?_
  refine j_iload_n (pc' := 2) rfl rfl rfl ?_
  obtain ⟨r2, e2, hf⟩ := o_bind hf
  refine j_v1 (pc' := 5) rfl rfl miX7_isSort lnX7_145 (gm_o g μ) rfl (s_X7_isSort g μ x2 _ e2) (h_rm_of rfl) (Nat.le_of_ble_eq_true rfl) (c' := 0) (s' := 0) rfl rfl ?_
  refine j_if_eq (tgt := 16) (pc' := 8) rfl rfl rfl (fun c5 => ?_) (fun c5 => ?_)
  · rw [if_pos c5] at hf
    refine j_iconst (v := (-1)) (pc' := 17) rfl rfl (by decide) ?_
    have hf := Option.some.inj hf; subst hf
    exact j_iret rfl rfl (Nat.zero_le _) (Nat.zero_le _) ⟨rfl, rfl⟩
  · rw [if_neg c5] at hf
    refine j_iload (pc' := 10) rfl rfl rfl ?_
    obtain ⟨r10, e10, hf⟩ := o_bind hf
    refine j_s1 (pc' := 13) rfl rfl miX7_isTown lnX7_149 (s_X7_isTown (gm g μ) x6 _ e10) (h_rm_of rfl) (Nat.le_of_ble_eq_true rfl) (c' := 0) (s' := 0) rfl rfl ?_
    refine j_if_ne (tgt := 18) (pc' := 16) rfl rfl rfl (fun c13 => ?_) (fun c13 => ?_)
    · rw [if_neg c13] at hf
      refine j_iload_n (pc' := 19) rfl rfl rfl ?_
      refine j_iconst (v := 3) (pc' := 20) rfl rfl (by decide) ?_
      refine j_icmp_eq (tgt := 28) (pc' := 23) rfl rfl rfl (fun c20 => ?_) (fun c20 => ?_)
      · rw [if_pos c20] at hf
        refine j_iconst (v := 1) (pc' := 29) rfl rfl (by decide) ?_
        refine j_goto (tgt := 33) rfl rfl ?_
        refine j_istore (pc' := 35) (ls' := [(7, _), (0, _), (1, _), (2, _), (3, _), (4, _), (5, _), (6, _)]) rfl rfl (Nat.le_of_ble_eq_true rfl) rfl ?_
        refine j_iload_n (pc' := 36) rfl rfl rfl ?_
        refine j_iconst (v := 0) (pc' := 37) rfl rfl (by decide) ?_
        refine j_iconst (v := 5) (pc' := 38) rfl rfl (by decide) ?_
        obtain ⟨r38, e38, hf⟩ := o_bind hf
        refine j_s3 (pc' := 41) rfl rfl miX7_in lnX7_138 (s_X7_in (gm g μ) x1 0 5 _ e38) (h_rm_of rfl) (Nat.le_of_ble_eq_true rfl) (c' := 0) (s' := 0) rfl rfl ?_
        refine j_if_eq (tgt := 81) (pc' := 44) rfl rfl rfl (fun c41 => ?_) (fun c41 => ?_)
        · rw [if_pos c41] at hf
          refine j_bipush (v := (-2)) (pc' := 83) rfl rfl (by decide) ?_
          have hf := Option.some.inj hf; subst hf
          exact j_iret rfl rfl (Nat.zero_le _) (Nat.zero_le _) ⟨rfl, rfl⟩
        · rw [if_neg c41] at hf
          refine j_aload_n (pc' := 45) rfl rfl rfl ?_
          refine j_iload_n (pc' := 46) rfl rfl rfl ?_
          refine j_iload_n (pc' := 47) rfl rfl rfl ?_
          refine j_iload_n (pc' := 48) rfl rfl rfl ?_
          refine j_iload (pc' := 50) rfl rfl rfl ?_
          obtain ⟨r50, e50, hf⟩ := o_bind hf
          refine j_v4 (pc' := 53) rfl rfl miX7_isWeight lnX7_152 (gm_o g μ) rfl (s_X7_isWeight g μ x1 x2 x3 x4 _ e50) (h_rm_of rfl) (Nat.le_of_ble_eq_true rfl) (c' := 0) (s' := 0) rfl rfl ?_
          refine j_if_eq (tgt := 81) (pc' := 56) rfl rfl rfl (fun c53 => ?_) (fun c53 => ?_)
          · rw [if_pos c53] at hf
            refine j_bipush (v := (-2)) (pc' := 83) rfl rfl (by decide) ?_
            have hf := Option.some.inj hf; subst hf
            exact j_iret rfl rfl (Nat.zero_le _) (Nat.zero_le _) ⟨rfl, rfl⟩
          · rw [if_neg c53] at hf
            refine j_iload (pc' := 58) rfl rfl rfl ?_
            refine j_if_eq (tgt := 76) (pc' := 61) rfl rfl rfl (fun c58 => absurd c58 (by decide)) (fun _ => ?_)
            refine j_iload (pc' := 63) rfl rfl rfl ?_
            refine j_iconst (v := 0) (pc' := 64) rfl rfl (by decide) ?_
            refine j_sipush (v := 1000) (pc' := 67) rfl rfl (by decide) ?_
            obtain ⟨r67, e67, hf⟩ := o_bind hf
            refine j_s3 (pc' := 70) rfl rfl miX7_in lnX7_138 (s_X7_in (gm g μ) x5 0 1000 _ e67) (h_rm_of rfl) (Nat.le_of_ble_eq_true rfl) (c' := 0) (s' := 0) rfl rfl ?_
            refine j_if_ne (tgt := 84) (pc' := 73) rfl rfl rfl (fun c70 => ?_) (fun c70 => ?_)
            · rw [if_neg c70] at hf
              refine j_aload_n (pc' := 85) rfl rfl rfl ?_
              refine j_get (pc' := 88) rfl rfl flX7_142 (gm_o g μ) (mF_7 μ) ?_
              refine j_bipush (v := 30) (pc' := 90) rfl rfl (by decide) ?_
              refine j_icmp_ne (tgt := 98) (pc' := 93) rfl rfl rfl (fun c90 => ?_) (fun c90 => ?_)
              · rw [if_neg c90] at hf
                refine j_aload_n (pc' := 99) rfl rfl rfl ?_
                refine j_iload_n (pc' := 100) rfl rfl rfl ?_
                refine j_iload_n (pc' := 101) rfl rfl rfl ?_
                refine j_iload_n (pc' := 102) rfl rfl rfl ?_
                refine j_iload (pc' := 104) rfl rfl rfl ?_
                refine j_iload (pc' := 106) rfl rfl rfl ?_
                refine j_iload (pc' := 108) rfl rfl rfl ?_
                refine j_iconst (v := (-1)) (pc' := 109) rfl rfl (by decide) ?_
                obtain ⟨r109, e109, hf⟩ := o_bind hf
                refine j_v7 (pc' := 112) rfl rfl miX7_newLot lnX7_156 (gm_o g μ) rfl (s_X7_newLot g μ x1 x2 x3 x4 x5 x6 (-1) _ e109) (h_rm_of rfl) (Nat.le_of_ble_eq_true rfl) (c' := 0) (s' := 0) rfl rfl ?_
                have hf := Option.some.inj hf; subst hf
                exact j_iret rfl rfl (Nat.zero_le _) (Nat.zero_le _) ⟨rfl, rfl⟩
              · rw [if_pos c90] at hf
                refine j_bipush (v := (-4)) (pc' := 95) rfl rfl (by decide) ?_
                refine j_goto (tgt := 112) rfl rfl ?_
                have hf := Option.some.inj hf; subst hf
                exact j_iret rfl rfl (Nat.zero_le _) (Nat.zero_le _) ⟨rfl, rfl⟩
            · rw [if_pos c70] at hf
              refine j_goto (tgt := 81) rfl rfl ?_
              refine j_bipush (v := (-2)) (pc' := 83) rfl rfl (by decide) ?_
              have hf := Option.some.inj hf; subst hf
              exact j_iret rfl rfl (Nat.zero_le _) (Nat.zero_le _) ⟨rfl, rfl⟩
      · rw [if_neg c20] at hf
        refine j_iload_n (pc' := 24) rfl rfl rfl ?_
        refine j_iconst (v := 5) (pc' := 25) rfl rfl (by decide) ?_
        refine j_icmp_ne (tgt := 32) (pc' := 28) rfl rfl rfl (fun c25 => ?_) (fun c25 => ?_)
        · rw [if_neg c25] at hf
          refine j_iconst (v := 0) (pc' := 33) rfl rfl (by decide) ?_
          refine j_istore (pc' := 35) (ls' := [(7, _), (0, _), (1, _), (2, _), (3, _), (4, _), (5, _), (6, _)]) rfl rfl (Nat.le_of_ble_eq_true rfl) rfl ?_
          refine j_iload_n (pc' := 36) rfl rfl rfl ?_
          refine j_iconst (v := 0) (pc' := 37) rfl rfl (by decide) ?_
          refine j_iconst (v := 5) (pc' := 38) rfl rfl (by decide) ?_
          obtain ⟨r38, e38, hf⟩ := o_bind hf
          refine j_s3 (pc' := 41) rfl rfl miX7_in lnX7_138 (s_X7_in (gm g μ) x1 0 5 _ e38) (h_rm_of rfl) (Nat.le_of_ble_eq_true rfl) (c' := 0) (s' := 0) rfl rfl ?_
          refine j_if_eq (tgt := 81) (pc' := 44) rfl rfl rfl (fun c41 => ?_) (fun c41 => ?_)
          · rw [if_pos c41] at hf
            refine j_bipush (v := (-2)) (pc' := 83) rfl rfl (by decide) ?_
            have hf := Option.some.inj hf; subst hf
            exact j_iret rfl rfl (Nat.zero_le _) (Nat.zero_le _) ⟨rfl, rfl⟩
          · rw [if_neg c41] at hf
            refine j_aload_n (pc' := 45) rfl rfl rfl ?_
            refine j_iload_n (pc' := 46) rfl rfl rfl ?_
            refine j_iload_n (pc' := 47) rfl rfl rfl ?_
            refine j_iload_n (pc' := 48) rfl rfl rfl ?_
            refine j_iload (pc' := 50) rfl rfl rfl ?_
            obtain ⟨r50, e50, hf⟩ := o_bind hf
            refine j_v4 (pc' := 53) rfl rfl miX7_isWeight lnX7_152 (gm_o g μ) rfl (s_X7_isWeight g μ x1 x2 x3 x4 _ e50) (h_rm_of rfl) (Nat.le_of_ble_eq_true rfl) (c' := 0) (s' := 0) rfl rfl ?_
            refine j_if_eq (tgt := 81) (pc' := 56) rfl rfl rfl (fun c53 => ?_) (fun c53 => ?_)
            · rw [if_pos c53] at hf
              refine j_bipush (v := (-2)) (pc' := 83) rfl rfl (by decide) ?_
              have hf := Option.some.inj hf; subst hf
              exact j_iret rfl rfl (Nat.zero_le _) (Nat.zero_le _) ⟨rfl, rfl⟩
            · rw [if_neg c53] at hf
              refine j_iload (pc' := 58) rfl rfl rfl ?_
              refine j_if_eq (tgt := 76) (pc' := 61) rfl rfl rfl (fun _ => ?_) (fun c58 => absurd c58 (by decide))
              refine j_iload (pc' := 78) rfl rfl rfl ?_
              refine j_if_eq (tgt := 84) (pc' := 81) rfl rfl rfl (fun c78 => ?_) (fun c78 => ?_)
              · rw [if_pos c78] at hf
                refine j_aload_n (pc' := 85) rfl rfl rfl ?_
                refine j_get (pc' := 88) rfl rfl flX7_142 (gm_o g μ) (mF_7 μ) ?_
                refine j_bipush (v := 30) (pc' := 90) rfl rfl (by decide) ?_
                refine j_icmp_ne (tgt := 98) (pc' := 93) rfl rfl rfl (fun c90 => ?_) (fun c90 => ?_)
                · rw [if_neg c90] at hf
                  refine j_aload_n (pc' := 99) rfl rfl rfl ?_
                  refine j_iload_n (pc' := 100) rfl rfl rfl ?_
                  refine j_iload_n (pc' := 101) rfl rfl rfl ?_
                  refine j_iload_n (pc' := 102) rfl rfl rfl ?_
                  refine j_iload (pc' := 104) rfl rfl rfl ?_
                  refine j_iload (pc' := 106) rfl rfl rfl ?_
                  refine j_iload (pc' := 108) rfl rfl rfl ?_
                  refine j_iconst (v := (-1)) (pc' := 109) rfl rfl (by decide) ?_
                  obtain ⟨r109, e109, hf⟩ := o_bind hf
                  refine j_v7 (pc' := 112) rfl rfl miX7_newLot lnX7_156 (gm_o g μ) rfl (s_X7_newLot g μ x1 x2 x3 x4 x5 x6 (-1) _ e109) (h_rm_of rfl) (Nat.le_of_ble_eq_true rfl) (c' := 0) (s' := 0) rfl rfl ?_
                  have hf := Option.some.inj hf; subst hf
                  exact j_iret rfl rfl (Nat.zero_le _) (Nat.zero_le _) ⟨rfl, rfl⟩
                · rw [if_pos c90] at hf
                  refine j_bipush (v := (-4)) (pc' := 95) rfl rfl (by decide) ?_
                  refine j_goto (tgt := 112) rfl rfl ?_
                  have hf := Option.some.inj hf; subst hf
                  exact j_iret rfl rfl (Nat.zero_le _) (Nat.zero_le _) ⟨rfl, rfl⟩
              · rw [if_neg c78] at hf
                refine j_bipush (v := (-2)) (pc' := 83) rfl rfl (by decide) ?_
                have hf := Option.some.inj hf; subst hf
                exact j_iret rfl rfl (Nat.zero_le _) (Nat.zero_le _) ⟨rfl, rfl⟩
        · rw [if_pos c25] at hf
          refine j_iconst (v := 1) (pc' := 29) rfl rfl (by decide) ?_
          refine j_goto (tgt := 33) rfl rfl ?_
          refine j_istore (pc' := 35) (ls' := [(7, _), (0, _), (1, _), (2, _), (3, _), (4, _), (5, _), (6, _)]) rfl rfl (Nat.le_of_ble_eq_true rfl) rfl ?_
          refine j_iload_n (pc' := 36) rfl rfl rfl ?_
          refine j_iconst (v := 0) (pc' := 37) rfl rfl (by decide) ?_
          refine j_iconst (v := 5) (pc' := 38) rfl rfl (by decide) ?_
          obtain ⟨r38, e38, hf⟩ := o_bind hf
          refine j_s3 (pc' := 41) rfl rfl miX7_in lnX7_138 (s_X7_in (gm g μ) x1 0 5 _ e38) (h_rm_of rfl) (Nat.le_of_ble_eq_true rfl) (c' := 0) (s' := 0) rfl rfl ?_
          refine j_if_eq (tgt := 81) (pc' := 44) rfl rfl rfl (fun c41 => ?_) (fun c41 => ?_)
          · rw [if_pos c41] at hf
            refine j_bipush (v := (-2)) (pc' := 83) rfl rfl (by decide) ?_
            have hf := Option.some.inj hf; subst hf
            exact j_iret rfl rfl (Nat.zero_le _) (Nat.zero_le _) ⟨rfl, rfl⟩
          · rw [if_neg c41] at hf
            refine j_aload_n (pc' := 45) rfl rfl rfl ?_
            refine j_iload_n (pc' := 46) rfl rfl rfl ?_
            refine j_iload_n (pc' := 47) rfl rfl rfl ?_
            refine j_iload_n (pc' := 48) rfl rfl rfl ?_
            refine j_iload (pc' := 50) rfl rfl rfl ?_
            obtain ⟨r50, e50, hf⟩ := o_bind hf
            refine j_v4 (pc' := 53) rfl rfl miX7_isWeight lnX7_152 (gm_o g μ) rfl (s_X7_isWeight g μ x1 x2 x3 x4 _ e50) (h_rm_of rfl) (Nat.le_of_ble_eq_true rfl) (c' := 0) (s' := 0) rfl rfl ?_
            refine j_if_eq (tgt := 81) (pc' := 56) rfl rfl rfl (fun c53 => ?_) (fun c53 => ?_)
            · rw [if_pos c53] at hf
              refine j_bipush (v := (-2)) (pc' := 83) rfl rfl (by decide) ?_
              have hf := Option.some.inj hf; subst hf
              exact j_iret rfl rfl (Nat.zero_le _) (Nat.zero_le _) ⟨rfl, rfl⟩
            · rw [if_neg c53] at hf
              refine j_iload (pc' := 58) rfl rfl rfl ?_
              refine j_if_eq (tgt := 76) (pc' := 61) rfl rfl rfl (fun c58 => absurd c58 (by decide)) (fun _ => ?_)
              refine j_iload (pc' := 63) rfl rfl rfl ?_
              refine j_iconst (v := 0) (pc' := 64) rfl rfl (by decide) ?_
              refine j_sipush (v := 1000) (pc' := 67) rfl rfl (by decide) ?_
              obtain ⟨r67, e67, hf⟩ := o_bind hf
              refine j_s3 (pc' := 70) rfl rfl miX7_in lnX7_138 (s_X7_in (gm g μ) x5 0 1000 _ e67) (h_rm_of rfl) (Nat.le_of_ble_eq_true rfl) (c' := 0) (s' := 0) rfl rfl ?_
              refine j_if_ne (tgt := 84) (pc' := 73) rfl rfl rfl (fun c70 => ?_) (fun c70 => ?_)
              · rw [if_neg c70] at hf
                refine j_aload_n (pc' := 85) rfl rfl rfl ?_
                refine j_get (pc' := 88) rfl rfl flX7_142 (gm_o g μ) (mF_7 μ) ?_
                refine j_bipush (v := 30) (pc' := 90) rfl rfl (by decide) ?_
                refine j_icmp_ne (tgt := 98) (pc' := 93) rfl rfl rfl (fun c90 => ?_) (fun c90 => ?_)
                · rw [if_neg c90] at hf
                  refine j_aload_n (pc' := 99) rfl rfl rfl ?_
                  refine j_iload_n (pc' := 100) rfl rfl rfl ?_
                  refine j_iload_n (pc' := 101) rfl rfl rfl ?_
                  refine j_iload_n (pc' := 102) rfl rfl rfl ?_
                  refine j_iload (pc' := 104) rfl rfl rfl ?_
                  refine j_iload (pc' := 106) rfl rfl rfl ?_
                  refine j_iload (pc' := 108) rfl rfl rfl ?_
                  refine j_iconst (v := (-1)) (pc' := 109) rfl rfl (by decide) ?_
                  obtain ⟨r109, e109, hf⟩ := o_bind hf
                  refine j_v7 (pc' := 112) rfl rfl miX7_newLot lnX7_156 (gm_o g μ) rfl (s_X7_newLot g μ x1 x2 x3 x4 x5 x6 (-1) _ e109) (h_rm_of rfl) (Nat.le_of_ble_eq_true rfl) (c' := 0) (s' := 0) rfl rfl ?_
                  have hf := Option.some.inj hf; subst hf
                  exact j_iret rfl rfl (Nat.zero_le _) (Nat.zero_le _) ⟨rfl, rfl⟩
                · rw [if_pos c90] at hf
                  refine j_bipush (v := (-4)) (pc' := 95) rfl rfl (by decide) ?_
                  refine j_goto (tgt := 112) rfl rfl ?_
                  have hf := Option.some.inj hf; subst hf
                  exact j_iret rfl rfl (Nat.zero_le _) (Nat.zero_le _) ⟨rfl, rfl⟩
              · rw [if_pos c70] at hf
                refine j_goto (tgt := 81) rfl rfl ?_
                refine j_bipush (v := (-2)) (pc' := 83) rfl rfl (by decide) ?_
                have hf := Option.some.inj hf; subst hf
                exact j_iret rfl rfl (Nat.zero_le _) (Nat.zero_le _) ⟨rfl, rfl⟩
    · rw [if_pos c13] at hf
      refine j_iconst (v := (-1)) (pc' := 17) rfl rfl (by decide) ?_
      have hf := Option.some.inj hf; subst hf
      exact j_iret rfl rfl (Nat.zero_le _) (Nat.zero_le _) ⟨rfl, rfl⟩
def rX7_open : Room := { frames := 2, cells := 0, slots := 0, locals := 43 }
def f_X7_open (μ : mS) (x1 : Int32) (x2 : Int32) : Option (Int32 × mS) := (f_X7_isLot μ x1).bind fun r2 => if r2 = 0 then some ((-1), μ) else bif vin x1 30 then bif vin x1 30 then bif vin x1 30 then bif vin (μ.1 9 (x1).toNatClampNeg) 8 then (f_X7_in x2 (μ.1 10 (x1).toNatClampNeg) ((μ.1 10 (x1).toNatClampNeg) * (μ.1 3 ((μ.1 9 (x1).toNatClampNeg)).toNatClampNeg))).bind fun r35 => if r35 = 0 then some ((-2), μ) else bif vin x1 30 then if (μ.1 8 (x1).toNatClampNeg) = 2 then bif vin x1 30 then if (μ.1 16 (x1).toNatClampNeg) = 0 then bif vin x1 30 then letm (seti μ 11 (va_up (μ.1 11) (x1).toNatClampNeg x2)) fun μ72 => bif vin x1 30 then bif vin x1 30 then bif vin (μ72.1 9 (x1).toNatClampNeg) 8 then if ((μ72.1 10 (x1).toNatClampNeg) * (μ72.1 2 ((μ72.1 9 (x1).toNatClampNeg)).toNatClampNeg)) ≤ x2 then bif vin x1 30 then letm (seti μ72 8 (va_up (μ72.1 8) (x1).toNatClampNeg 0)) fun μ105 => bif vin x1 30 then if (μ105.1 8 (x1).toNatClampNeg) = 1 then some (1, μ105) else some (0, μ105) else none else none else bif vin x1 30 then letm (seti μ72 8 (va_up (μ72.1 8) (x1).toNatClampNeg 1)) fun μ105 => bif vin x1 30 then if (μ105.1 8 (x1).toNatClampNeg) = 1 then some (1, μ105) else some (0, μ105) else none else none else none else none else none else none else some ((-3), μ) else none else some ((-3), μ) else none else none else none else none else none
set_option maxHeartbeats 4000000 in
set_option maxRecDepth 100000 in
theorem s_X7_open (g : hH) (μ : mS) (x1 : Int32) (x2 : Int32) (r : (Int32 × mS)) (hf : f_X7_open μ x1 x2 = some r) : SpD mX7_open rX7_open [.ref 5000, .int x1, .int x2] (gm g μ) (some (.int r.1)) (gm g r.2) := by
  refine sp_of miX7_open (Nat.le_of_ble_eq_true rfl) ?_
  show J _ _ _ 0 0 _ 0 [(0, .ref 5000), (1, .int x1), (2, .int x2)] []
  unfold f_X7_open at hf
  refine j_aload_n (pc' := 1) rfl rfl rfl ?_
  refine j_iload_n (pc' := 2) rfl rfl rfl ?_
  obtain ⟨r2, e2, hf⟩ := o_bind hf
  refine j_v1 (pc' := 5) rfl rfl miX7_isLot lnX7_160 (gm_o g μ) rfl (s_X7_isLot g μ x1 _ e2) (h_rm_of rfl) (Nat.le_of_ble_eq_true rfl) (c' := 0) (s' := 0) rfl rfl ?_
  refine j_if_ne (tgt := 10) (pc' := 8) rfl rfl rfl (fun c5 => ?_) (fun c5 => ?_)
  · rw [if_neg c5] at hf
    refine j_iload_n (pc' := 11) rfl rfl rfl ?_
    refine j_aload_n (pc' := 12) rfl rfl rfl ?_
    refine j_get (pc' := 15) rfl rfl flX7_28 (gm_o g μ) (mF_10 μ) ?_
    refine j_iload_n (pc' := 16) rfl rfl rfl ?_
    obtain ⟨c16, hf⟩ := o_chk hf
    refine j_iald (pc' := 17) rfl rfl (gm_10 g μ) (vin_ok c16) ?_
    refine j_aload_n (pc' := 18) rfl rfl rfl ?_
    refine j_get (pc' := 21) rfl rfl flX7_28 (gm_o g μ) (mF_10 μ) ?_
    refine j_iload_n (pc' := 22) rfl rfl rfl ?_
    obtain ⟨c22, hf⟩ := o_chk hf
    refine j_iald (pc' := 23) rfl rfl (gm_10 g μ) (vin_ok c22) ?_
    refine j_aload_n (pc' := 24) rfl rfl rfl ?_
    refine j_get (pc' := 27) rfl rfl flX7_13 (gm_o g μ) (mF_3 μ) ?_
    refine j_aload_n (pc' := 28) rfl rfl rfl ?_
    refine j_get (pc' := 31) rfl rfl flX7_25 (gm_o g μ) (mF_9 μ) ?_
    refine j_iload_n (pc' := 32) rfl rfl rfl ?_
    obtain ⟨c32, hf⟩ := o_chk hf
    refine j_iald (pc' := 33) rfl rfl (gm_9 g μ) (vin_ok c32) ?_
    obtain ⟨c33, hf⟩ := o_chk hf
    refine j_iald (pc' := 34) rfl rfl (gm_3 g μ) (vin_ok c33) ?_
    refine j_imul (pc' := 35) rfl rfl ?_
    obtain ⟨r35, e35, hf⟩ := o_bind hf
    refine j_s3 (pc' := 38) rfl rfl miX7_in lnX7_138 (s_X7_in (gm g μ) x2 (μ.1 10 (x1).toNatClampNeg) ((μ.1 10 (x1).toNatClampNeg) * (μ.1 3 ((μ.1 9 (x1).toNatClampNeg)).toNatClampNeg)) _ e35) (h_rm_of rfl) (Nat.le_of_ble_eq_true rfl) (c' := 0) (s' := 0) rfl rfl ?_
    refine j_if_ne (tgt := 44) (pc' := 41) rfl rfl rfl (fun c38 => ?_) (fun c38 => ?_)
    · rw [if_neg c38] at hf
      refine j_aload_n (pc' := 45) rfl rfl rfl ?_
      refine j_get (pc' := 48) rfl rfl flX7_22 (gm_o g μ) (mF_8 μ) ?_
      refine j_iload_n (pc' := 49) rfl rfl rfl ?_
      obtain ⟨c49, hf⟩ := o_chk hf
      refine j_iald (pc' := 50) rfl rfl (gm_8 g μ) (vin_ok c49) ?_
      refine j_iconst (v := 2) (pc' := 51) rfl rfl (by decide) ?_
      refine j_icmp_ne (tgt := 63) (pc' := 54) rfl rfl rfl (fun c51 => ?_) (fun c51 => ?_)
      · rw [if_neg c51] at hf
        refine j_bipush (v := (-3)) (pc' := 65) rfl rfl (by decide) ?_
        have hf := Option.some.inj hf; subst hf
        exact j_iret rfl rfl (Nat.zero_le _) (Nat.zero_le _) ⟨rfl, rfl⟩
      · rw [if_pos c51] at hf
        refine j_aload_n (pc' := 55) rfl rfl rfl ?_
        refine j_get (pc' := 58) rfl rfl flX7_46 (gm_o g μ) (mF_16 μ) ?_
        refine j_iload_n (pc' := 59) rfl rfl rfl ?_
        obtain ⟨c59, hf⟩ := o_chk hf
        refine j_zald (pc' := 60) rfl rfl (gm_16 g μ) (vin_ok c59) ?_
        refine j_if_eq (tgt := 66) (pc' := 63) rfl rfl rfl (fun c60 => ?_) (fun c60 => ?_)
        · rw [if_pos c60] at hf
          refine j_aload_n (pc' := 67) rfl rfl rfl ?_
          refine j_get (pc' := 70) rfl rfl flX7_31 (gm_o g μ) (mF_11 μ) ?_
          refine j_iload_n (pc' := 71) rfl rfl rfl ?_
          refine j_iload_n (pc' := 72) rfl rfl rfl ?_
          obtain ⟨c72, hf⟩ := o_chk hf
          obtain ⟨μ72, e72, hf⟩ := o_let hf
          refine j_iast (pc' := 73) rfl rfl (gm_11 g μ) (by decide) (vin_ok c72) ?_
          rw [gs_11]; rw [e72]
          refine j_aload_n (pc' := 74) rfl rfl rfl ?_
          refine j_get (pc' := 77) rfl rfl flX7_22 (gm_o g μ72) (mF_8 μ72) ?_
          refine j_iload_n (pc' := 78) rfl rfl rfl ?_
          refine j_iload_n (pc' := 79) rfl rfl rfl ?_
          refine j_aload_n (pc' := 80) rfl rfl rfl ?_
          refine j_get (pc' := 83) rfl rfl flX7_28 (gm_o g μ72) (mF_10 μ72) ?_
          refine j_iload_n (pc' := 84) rfl rfl rfl ?_
          obtain ⟨c84, hf⟩ := o_chk hf
          refine j_iald (pc' := 85) rfl rfl (gm_10 g μ72) (vin_ok c84) ?_
          refine j_aload_n (pc' := 86) rfl rfl rfl ?_
          refine j_get (pc' := 89) rfl rfl flX7_7 (gm_o g μ72) (mF_2 μ72) ?_
          refine j_aload_n (pc' := 90) rfl rfl rfl ?_
          refine j_get (pc' := 93) rfl rfl flX7_25 (gm_o g μ72) (mF_9 μ72) ?_
          refine j_iload_n (pc' := 94) rfl rfl rfl ?_
          obtain ⟨c94, hf⟩ := o_chk hf
          refine j_iald (pc' := 95) rfl rfl (gm_9 g μ72) (vin_ok c94) ?_
          obtain ⟨c95, hf⟩ := o_chk hf
          refine j_iald (pc' := 96) rfl rfl (gm_2 g μ72) (vin_ok c95) ?_
          refine j_imul (pc' := 97) rfl rfl ?_
          refine j_icmp_ge (tgt := 104) (pc' := 100) rfl rfl rfl (fun c97 => ?_) (fun c97 => ?_)
          · rw [if_pos c97] at hf
            refine j_iconst (v := 0) (pc' := 105) rfl rfl (by decide) ?_
            obtain ⟨c105, hf⟩ := o_chk hf
            obtain ⟨μ105, e105, hf⟩ := o_let hf
            refine j_iast (pc' := 106) rfl rfl (gm_8 g μ72) (by decide) (vin_ok c105) ?_
            rw [gs_8]; rw [e105]
            refine j_aload_n (pc' := 107) rfl rfl rfl ?_
            refine j_get (pc' := 110) rfl rfl flX7_22 (gm_o g μ105) (mF_8 μ105) ?_
            refine j_iload_n (pc' := 111) rfl rfl rfl ?_
            obtain ⟨c111, hf⟩ := o_chk hf
            refine j_iald (pc' := 112) rfl rfl (gm_8 g μ105) (vin_ok c111) ?_
            refine j_iconst (v := 1) (pc' := 113) rfl rfl (by decide) ?_
            refine j_icmp_ne (tgt := 120) (pc' := 116) rfl rfl rfl (fun c113 => ?_) (fun c113 => ?_)
            · rw [if_neg c113] at hf
              refine j_iconst (v := 0) (pc' := 121) rfl rfl (by decide) ?_
              have hf := Option.some.inj hf; subst hf
              exact j_iret rfl rfl (Nat.zero_le _) (Nat.zero_le _) ⟨rfl, rfl⟩
            · rw [if_pos c113] at hf
              refine j_iconst (v := 1) (pc' := 117) rfl rfl (by decide) ?_
              refine j_goto (tgt := 121) rfl rfl ?_
              have hf := Option.some.inj hf; subst hf
              exact j_iret rfl rfl (Nat.zero_le _) (Nat.zero_le _) ⟨rfl, rfl⟩
          · rw [if_neg c97] at hf
            refine j_iconst (v := 1) (pc' := 101) rfl rfl (by decide) ?_
            refine j_goto (tgt := 105) rfl rfl ?_
            obtain ⟨c105, hf⟩ := o_chk hf
            obtain ⟨μ105, e105, hf⟩ := o_let hf
            refine j_iast (pc' := 106) rfl rfl (gm_8 g μ72) (by decide) (vin_ok c105) ?_
            rw [gs_8]; rw [e105]
            refine j_aload_n (pc' := 107) rfl rfl rfl ?_
            refine j_get (pc' := 110) rfl rfl flX7_22 (gm_o g μ105) (mF_8 μ105) ?_
            refine j_iload_n (pc' := 111) rfl rfl rfl ?_
            obtain ⟨c111, hf⟩ := o_chk hf
            refine j_iald (pc' := 112) rfl rfl (gm_8 g μ105) (vin_ok c111) ?_
            refine j_iconst (v := 1) (pc' := 113) rfl rfl (by decide) ?_
            refine j_icmp_ne (tgt := 120) (pc' := 116) rfl rfl rfl (fun c113 => ?_) (fun c113 => ?_)
            · rw [if_neg c113] at hf
              refine j_iconst (v := 0) (pc' := 121) rfl rfl (by decide) ?_
              have hf := Option.some.inj hf; subst hf
              exact j_iret rfl rfl (Nat.zero_le _) (Nat.zero_le _) ⟨rfl, rfl⟩
            · rw [if_pos c113] at hf
              refine j_iconst (v := 1) (pc' := 117) rfl rfl (by decide) ?_
              refine j_goto (tgt := 121) rfl rfl ?_
              have hf := Option.some.inj hf; subst hf
              exact j_iret rfl rfl (Nat.zero_le _) (Nat.zero_le _) ⟨rfl, rfl⟩
        · rw [if_neg c60] at hf
          refine j_bipush (v := (-3)) (pc' := 65) rfl rfl (by decide) ?_
          have hf := Option.some.inj hf; subst hf
          exact j_iret rfl rfl (Nat.zero_le _) (Nat.zero_le _) ⟨rfl, rfl⟩
    · rw [if_pos c38] at hf
      refine j_bipush (v := (-2)) (pc' := 43) rfl rfl (by decide) ?_
      have hf := Option.some.inj hf; subst hf
      exact j_iret rfl rfl (Nat.zero_le _) (Nat.zero_le _) ⟨rfl, rfl⟩
  · rw [if_pos c5] at hf
    refine j_iconst (v := (-1)) (pc' := 9) rfl rfl (by decide) ?_
    have hf := Option.some.inj hf; subst hf
    exact j_iret rfl rfl (Nat.zero_le _) (Nat.zero_le _) ⟨rfl, rfl⟩
def rX7_about : Room := { frames := 2, cells := 0, slots := 0, locals := 43 }
def f_X7_about (μ : mS) (x1 : Int32) (x2 : Int32) : Option Int32 := (f_X7_isLot μ x1).bind fun r2 => if r2 = 0 then some (-1) else if x2 = 0 then bif vin x1 30 then some (μ.1 8 (x1).toNatClampNeg) else none else if x2 = 1 then bif vin x1 30 then some (μ.1 9 (x1).toNatClampNeg) else none else if x2 = 2 then bif vin x1 30 then some (μ.1 10 (x1).toNatClampNeg) else none else if x2 = 3 then bif vin x1 30 then some (μ.1 11 (x1).toNatClampNeg) else none else if x2 = 4 then (f_X7_fine μ x1).bind fun r98 => some r98 else if x2 = 5 then bif vin x1 30 then if (μ.1 16 (x1).toNatClampNeg) = 0 then bif vin x1 30 then some (μ.1 13 (x1).toNatClampNeg) else none else some (-1) else none else if x2 = 6 then bif vin x1 30 then if (μ.1 16 (x1).toNatClampNeg) = 0 then bif vin x1 30 then some (μ.1 14 (x1).toNatClampNeg) else none else some (-1) else none else if x2 = 7 then bif vin x1 30 then if (μ.1 16 (x1).toNatClampNeg) = 0 then (f_X7_isUnderWay μ x1).bind fun r153 => if r153 = 0 then some (-1) else bif vin x1 30 then some (μ.1 15 (x1).toNatClampNeg) else none else some (-1) else none else if x2 = 8 then bif vin x1 30 then if (μ.1 16 (x1).toNatClampNeg) = 0 then some 0 else some 1 else none else if x2 = 9 then bif vin x1 30 then if (μ.1 17 (x1).toNatClampNeg) = 0 then some 0 else some 1 else none else if x2 = 10 then bif vin x1 30 then if (μ.1 18 (x1).toNatClampNeg) = 0 then some 0 else some 1 else none else some (-1)
set_option maxHeartbeats 4000000 in
set_option maxRecDepth 100000 in
theorem s_X7_about (g : hH) (μ : mS) (x1 : Int32) (x2 : Int32) (r : Int32) (hf : f_X7_about μ x1 x2 = some r) : SpD mX7_about rX7_about [.ref 5000, .int x1, .int x2] (gm g μ) (some (.int r)) (gm g μ) := by
  refine sp_of miX7_about (Nat.le_of_ble_eq_true rfl) ?_
  show J _ _ _ 0 0 _ 0 [(0, .ref 5000), (1, .int x1), (2, .int x2)] []
  unfold f_X7_about at hf
  refine j_aload_n (pc' := 1) rfl rfl rfl ?_
  refine j_iload_n (pc' := 2) rfl rfl rfl ?_
  obtain ⟨r2, e2, hf⟩ := o_bind hf
  refine j_v1 (pc' := 5) rfl rfl miX7_isLot lnX7_160 (gm_o g μ) rfl (s_X7_isLot g μ x1 _ e2) (h_rm_of rfl) (Nat.le_of_ble_eq_true rfl) (c' := 0) (s' := 0) rfl rfl ?_
  refine j_if_ne (tgt := 10) (pc' := 8) rfl rfl rfl (fun c5 => ?_) (fun c5 => ?_)
  · rw [if_neg c5] at hf
    refine j_iload_n (pc' := 11) rfl rfl rfl ?_
    by_cases w11_0 : x2 = 0
    · rw [if_pos w11_0] at hf
      rw [w11_0]
      refine j_tableIn (tgt := 68) rfl (by decide) (by decide) rfl rfl ?_
      refine j_aload_n (pc' := 69) rfl rfl rfl ?_
      refine j_get (pc' := 72) rfl rfl flX7_22 (gm_o g μ) (mF_8 μ) ?_
      refine j_iload_n (pc' := 73) rfl rfl rfl ?_
      obtain ⟨c73, hf⟩ := o_chk hf
      refine j_iald (pc' := 74) rfl rfl (gm_8 g μ) (vin_ok c73) ?_
      have hf := Option.some.inj hf; subst hf
      exact j_iret rfl rfl (Nat.zero_le _) (Nat.zero_le _) ⟨rfl, rfl⟩
    rw [if_neg w11_0] at hf
    by_cases w11_1 : x2 = 1
    · rw [if_pos w11_1] at hf
      rw [w11_1]
      refine j_tableIn (tgt := 75) rfl (by decide) (by decide) rfl rfl ?_
      refine j_aload_n (pc' := 76) rfl rfl rfl ?_
      refine j_get (pc' := 79) rfl rfl flX7_25 (gm_o g μ) (mF_9 μ) ?_
      refine j_iload_n (pc' := 80) rfl rfl rfl ?_
      obtain ⟨c80, hf⟩ := o_chk hf
      refine j_iald (pc' := 81) rfl rfl (gm_9 g μ) (vin_ok c80) ?_
      have hf := Option.some.inj hf; subst hf
      exact j_iret rfl rfl (Nat.zero_le _) (Nat.zero_le _) ⟨rfl, rfl⟩
    rw [if_neg w11_1] at hf
    by_cases w11_2 : x2 = 2
    · rw [if_pos w11_2] at hf
      rw [w11_2]
      refine j_tableIn (tgt := 82) rfl (by decide) (by decide) rfl rfl ?_
      refine j_aload_n (pc' := 83) rfl rfl rfl ?_
      refine j_get (pc' := 86) rfl rfl flX7_28 (gm_o g μ) (mF_10 μ) ?_
      refine j_iload_n (pc' := 87) rfl rfl rfl ?_
      obtain ⟨c87, hf⟩ := o_chk hf
      refine j_iald (pc' := 88) rfl rfl (gm_10 g μ) (vin_ok c87) ?_
      have hf := Option.some.inj hf; subst hf
      exact j_iret rfl rfl (Nat.zero_le _) (Nat.zero_le _) ⟨rfl, rfl⟩
    rw [if_neg w11_2] at hf
    by_cases w11_3 : x2 = 3
    · rw [if_pos w11_3] at hf
      rw [w11_3]
      refine j_tableIn (tgt := 89) rfl (by decide) (by decide) rfl rfl ?_
      refine j_aload_n (pc' := 90) rfl rfl rfl ?_
      refine j_get (pc' := 93) rfl rfl flX7_31 (gm_o g μ) (mF_11 μ) ?_
      refine j_iload_n (pc' := 94) rfl rfl rfl ?_
      obtain ⟨c94, hf⟩ := o_chk hf
      refine j_iald (pc' := 95) rfl rfl (gm_11 g μ) (vin_ok c94) ?_
      have hf := Option.some.inj hf; subst hf
      exact j_iret rfl rfl (Nat.zero_le _) (Nat.zero_le _) ⟨rfl, rfl⟩
    rw [if_neg w11_3] at hf
    by_cases w11_4 : x2 = 4
    · rw [if_pos w11_4] at hf
      rw [w11_4]
      refine j_tableIn (tgt := 96) rfl (by decide) (by decide) rfl rfl ?_
      refine j_aload_n (pc' := 97) rfl rfl rfl ?_
      refine j_iload_n (pc' := 98) rfl rfl rfl ?_
      obtain ⟨r98, e98, hf⟩ := o_bind hf
      refine j_v1 (pc' := 101) rfl rfl miX7_fine lnX7_163 (gm_o g μ) rfl (s_X7_fine g μ x1 _ e98) (h_rm_of rfl) (Nat.le_of_ble_eq_true rfl) (c' := 0) (s' := 0) rfl rfl ?_
      have hf := Option.some.inj hf; subst hf
      exact j_iret rfl rfl (Nat.zero_le _) (Nat.zero_le _) ⟨rfl, rfl⟩
    rw [if_neg w11_4] at hf
    by_cases w11_5 : x2 = 5
    · rw [if_pos w11_5] at hf
      rw [w11_5]
      refine j_tableIn (tgt := 102) rfl (by decide) (by decide) rfl rfl ?_
      refine j_aload_n (pc' := 103) rfl rfl rfl ?_
      refine j_get (pc' := 106) rfl rfl flX7_46 (gm_o g μ) (mF_16 μ) ?_
      refine j_iload_n (pc' := 107) rfl rfl rfl ?_
      obtain ⟨c107, hf⟩ := o_chk hf
      refine j_zald (pc' := 108) rfl rfl (gm_16 g μ) (vin_ok c107) ?_
      refine j_if_eq (tgt := 115) (pc' := 111) rfl rfl rfl (fun c108 => ?_) (fun c108 => ?_)
      · rw [if_pos c108] at hf
        refine j_aload_n (pc' := 116) rfl rfl rfl ?_
        refine j_get (pc' := 119) rfl rfl flX7_37 (gm_o g μ) (mF_13 μ) ?_
        refine j_iload_n (pc' := 120) rfl rfl rfl ?_
        obtain ⟨c120, hf⟩ := o_chk hf
        refine j_iald (pc' := 121) rfl rfl (gm_13 g μ) (vin_ok c120) ?_
        have hf := Option.some.inj hf; subst hf
        exact j_iret rfl rfl (Nat.zero_le _) (Nat.zero_le _) ⟨rfl, rfl⟩
      · rw [if_neg c108] at hf
        refine j_iconst (v := (-1)) (pc' := 112) rfl rfl (by decide) ?_
        refine j_goto (tgt := 121) rfl rfl ?_
        have hf := Option.some.inj hf; subst hf
        exact j_iret rfl rfl (Nat.zero_le _) (Nat.zero_le _) ⟨rfl, rfl⟩
    rw [if_neg w11_5] at hf
    by_cases w11_6 : x2 = 6
    · rw [if_pos w11_6] at hf
      rw [w11_6]
      refine j_tableIn (tgt := 122) rfl (by decide) (by decide) rfl rfl ?_
      refine j_aload_n (pc' := 123) rfl rfl rfl ?_
      refine j_get (pc' := 126) rfl rfl flX7_46 (gm_o g μ) (mF_16 μ) ?_
      refine j_iload_n (pc' := 127) rfl rfl rfl ?_
      obtain ⟨c127, hf⟩ := o_chk hf
      refine j_zald (pc' := 128) rfl rfl (gm_16 g μ) (vin_ok c127) ?_
      refine j_if_eq (tgt := 135) (pc' := 131) rfl rfl rfl (fun c128 => ?_) (fun c128 => ?_)
      · rw [if_pos c128] at hf
        refine j_aload_n (pc' := 136) rfl rfl rfl ?_
        refine j_get (pc' := 139) rfl rfl flX7_40 (gm_o g μ) (mF_14 μ) ?_
        refine j_iload_n (pc' := 140) rfl rfl rfl ?_
        obtain ⟨c140, hf⟩ := o_chk hf
        refine j_iald (pc' := 141) rfl rfl (gm_14 g μ) (vin_ok c140) ?_
        have hf := Option.some.inj hf; subst hf
        exact j_iret rfl rfl (Nat.zero_le _) (Nat.zero_le _) ⟨rfl, rfl⟩
      · rw [if_neg c128] at hf
        refine j_iconst (v := (-1)) (pc' := 132) rfl rfl (by decide) ?_
        refine j_goto (tgt := 141) rfl rfl ?_
        have hf := Option.some.inj hf; subst hf
        exact j_iret rfl rfl (Nat.zero_le _) (Nat.zero_le _) ⟨rfl, rfl⟩
    rw [if_neg w11_6] at hf
    by_cases w11_7 : x2 = 7
    · rw [if_pos w11_7] at hf
      rw [w11_7]
      refine j_tableIn (tgt := 142) rfl (by decide) (by decide) rfl rfl ?_
      refine j_aload_n (pc' := 143) rfl rfl rfl ?_
      refine j_get (pc' := 146) rfl rfl flX7_46 (gm_o g μ) (mF_16 μ) ?_
      refine j_iload_n (pc' := 147) rfl rfl rfl ?_
      obtain ⟨c147, hf⟩ := o_chk hf
      refine j_zald (pc' := 148) rfl rfl (gm_16 g μ) (vin_ok c147) ?_
      refine j_if_ne (tgt := 168) (pc' := 151) rfl rfl rfl (fun c148 => ?_) (fun c148 => ?_)
      · rw [if_neg c148] at hf
        refine j_iconst (v := (-1)) (pc' := 169) rfl rfl (by decide) ?_
        have hf := Option.some.inj hf; subst hf
        exact j_iret rfl rfl (Nat.zero_le _) (Nat.zero_le _) ⟨rfl, rfl⟩
      · rw [if_pos c148] at hf
        refine j_aload_n (pc' := 152) rfl rfl rfl ?_
        refine j_iload_n (pc' := 153) rfl rfl rfl ?_
        obtain ⟨r153, e153, hf⟩ := o_bind hf
        refine j_v1 (pc' := 156) rfl rfl miX7_isUnderWay lnX7_170 (gm_o g μ) rfl (s_X7_isUnderWay g μ x1 _ e153) (h_rm_of rfl) (Nat.le_of_ble_eq_true rfl) (c' := 0) (s' := 0) rfl rfl ?_
        refine j_if_eq (tgt := 168) (pc' := 159) rfl rfl rfl (fun c156 => ?_) (fun c156 => ?_)
        · rw [if_pos c156] at hf
          refine j_iconst (v := (-1)) (pc' := 169) rfl rfl (by decide) ?_
          have hf := Option.some.inj hf; subst hf
          exact j_iret rfl rfl (Nat.zero_le _) (Nat.zero_le _) ⟨rfl, rfl⟩
        · rw [if_neg c156] at hf
          refine j_aload_n (pc' := 160) rfl rfl rfl ?_
          refine j_get (pc' := 163) rfl rfl flX7_43 (gm_o g μ) (mF_15 μ) ?_
          refine j_iload_n (pc' := 164) rfl rfl rfl ?_
          obtain ⟨c164, hf⟩ := o_chk hf
          refine j_iald (pc' := 165) rfl rfl (gm_15 g μ) (vin_ok c164) ?_
          refine j_goto (tgt := 169) rfl rfl ?_
          have hf := Option.some.inj hf; subst hf
          exact j_iret rfl rfl (Nat.zero_le _) (Nat.zero_le _) ⟨rfl, rfl⟩
    rw [if_neg w11_7] at hf
    by_cases w11_8 : x2 = 8
    · rw [if_pos w11_8] at hf
      rw [w11_8]
      refine j_tableIn (tgt := 170) rfl (by decide) (by decide) rfl rfl ?_
      refine j_aload_n (pc' := 171) rfl rfl rfl ?_
      refine j_get (pc' := 174) rfl rfl flX7_46 (gm_o g μ) (mF_16 μ) ?_
      refine j_iload_n (pc' := 175) rfl rfl rfl ?_
      obtain ⟨c175, hf⟩ := o_chk hf
      refine j_zald (pc' := 176) rfl rfl (gm_16 g μ) (vin_ok c175) ?_
      refine j_if_eq (tgt := 183) (pc' := 179) rfl rfl rfl (fun c176 => ?_) (fun c176 => ?_)
      · rw [if_pos c176] at hf
        refine j_iconst (v := 0) (pc' := 184) rfl rfl (by decide) ?_
        have hf := Option.some.inj hf; subst hf
        exact j_iret rfl rfl (Nat.zero_le _) (Nat.zero_le _) ⟨rfl, rfl⟩
      · rw [if_neg c176] at hf
        refine j_iconst (v := 1) (pc' := 180) rfl rfl (by decide) ?_
        refine j_goto (tgt := 184) rfl rfl ?_
        have hf := Option.some.inj hf; subst hf
        exact j_iret rfl rfl (Nat.zero_le _) (Nat.zero_le _) ⟨rfl, rfl⟩
    rw [if_neg w11_8] at hf
    by_cases w11_9 : x2 = 9
    · rw [if_pos w11_9] at hf
      rw [w11_9]
      refine j_tableIn (tgt := 185) rfl (by decide) (by decide) rfl rfl ?_
      refine j_aload_n (pc' := 186) rfl rfl rfl ?_
      refine j_get (pc' := 189) rfl rfl flX7_50 (gm_o g μ) (mF_17 μ) ?_
      refine j_iload_n (pc' := 190) rfl rfl rfl ?_
      obtain ⟨c190, hf⟩ := o_chk hf
      refine j_zald (pc' := 191) rfl rfl (gm_17 g μ) (vin_ok c190) ?_
      refine j_if_eq (tgt := 198) (pc' := 194) rfl rfl rfl (fun c191 => ?_) (fun c191 => ?_)
      · rw [if_pos c191] at hf
        refine j_iconst (v := 0) (pc' := 199) rfl rfl (by decide) ?_
        have hf := Option.some.inj hf; subst hf
        exact j_iret rfl rfl (Nat.zero_le _) (Nat.zero_le _) ⟨rfl, rfl⟩
      · rw [if_neg c191] at hf
        refine j_iconst (v := 1) (pc' := 195) rfl rfl (by decide) ?_
        refine j_goto (tgt := 199) rfl rfl ?_
        have hf := Option.some.inj hf; subst hf
        exact j_iret rfl rfl (Nat.zero_le _) (Nat.zero_le _) ⟨rfl, rfl⟩
    rw [if_neg w11_9] at hf
    by_cases w11_10 : x2 = 10
    · rw [if_pos w11_10] at hf
      rw [w11_10]
      refine j_tableIn (tgt := 200) rfl (by decide) (by decide) rfl rfl ?_
      refine j_aload_n (pc' := 201) rfl rfl rfl ?_
      refine j_get (pc' := 204) rfl rfl flX7_53 (gm_o g μ) (mF_18 μ) ?_
      refine j_iload_n (pc' := 205) rfl rfl rfl ?_
      obtain ⟨c205, hf⟩ := o_chk hf
      refine j_zald (pc' := 206) rfl rfl (gm_18 g μ) (vin_ok c205) ?_
      refine j_if_eq (tgt := 213) (pc' := 209) rfl rfl rfl (fun c206 => ?_) (fun c206 => ?_)
      · rw [if_pos c206] at hf
        refine j_iconst (v := 0) (pc' := 214) rfl rfl (by decide) ?_
        have hf := Option.some.inj hf; subst hf
        exact j_iret rfl rfl (Nat.zero_le _) (Nat.zero_le _) ⟨rfl, rfl⟩
      · rw [if_neg c206] at hf
        refine j_iconst (v := 1) (pc' := 210) rfl rfl (by decide) ?_
        refine j_goto (tgt := 214) rfl rfl ?_
        have hf := Option.some.inj hf; subst hf
        exact j_iret rfl rfl (Nat.zero_le _) (Nat.zero_le _) ⟨rfl, rfl⟩
    rw [if_neg w11_10] at hf
    refine j_tableOut (tgt := 215) rfl (sw_out (n := 10) (by decide) (fun v hv => by
      have : v = 0 ∨ v = 1 ∨ v = 2 ∨ v = 3 ∨ v = 4 ∨ v = 5 ∨ v = 6 ∨ v = 7 ∨ v = 8 ∨ v = 9 ∨ v = 10 := by omega
      rcases this with rfl | rfl | rfl | rfl | rfl | rfl | rfl | rfl | rfl | rfl | rfl
      · exact w11_0
      · exact w11_1
      · exact w11_2
      · exact w11_3
      · exact w11_4
      · exact w11_5
      · exact w11_6
      · exact w11_7
      · exact w11_8
      · exact w11_9
      · exact w11_10)) rfl ?_
    refine j_iconst (v := (-1)) (pc' := 216) rfl rfl (by decide) ?_
    have hf := Option.some.inj hf; subst hf
    exact j_iret rfl rfl (Nat.zero_le _) (Nat.zero_le _) ⟨rfl, rfl⟩
  · rw [if_pos c5] at hf
    refine j_iconst (v := (-1)) (pc' := 9) rfl rfl (by decide) ?_
    have hf := Option.some.inj hf; subst hf
    exact j_iret rfl rfl (Nat.zero_le _) (Nat.zero_le _) ⟨rfl, rfl⟩
end MODEL2
end
section
section MODEL3
def rX7_silver : Room := { frames := 2, cells := 0, slots := 0, locals := 43 }
def f_X7_silver (μ : mS) (x1 : Int32) : Option Int64 := (f_X7_isLot μ x1).bind fun r2 => if r2 = 0 then some (-1) else (f_X7_silverOf μ x1).bind fun r10 => some r10
set_option maxHeartbeats 4000000 in
set_option maxRecDepth 100000 in
theorem s_X7_silver (g : hH) (μ : mS) (x1 : Int32) (r : Int64) (hf : f_X7_silver μ x1 = some r) : SpD mX7_silver rX7_silver [.ref 5000, .int x1] (gm g μ) (some (.long r)) (gm g μ) := by
  refine sp_of miX7_silver (Nat.le_of_ble_eq_true rfl) ?_
  show J _ _ _ 0 0 _ 0 [(0, .ref 5000), (1, .int x1)] []
  unfold f_X7_silver at hf
  refine j_aload_n (pc' := 1) rfl rfl rfl ?_
  refine j_iload_n (pc' := 2) rfl rfl rfl ?_
  obtain ⟨r2, e2, hf⟩ := o_bind hf
  refine j_v1 (pc' := 5) rfl rfl miX7_isLot lnX7_160 (gm_o g μ) rfl (s_X7_isLot g μ x1 _ e2) (h_rm_of rfl) (Nat.le_of_ble_eq_true rfl) (c' := 0) (s' := 0) rfl rfl ?_
  refine j_if_eq (tgt := 16) (pc' := 8) rfl rfl rfl (fun c5 => ?_) (fun c5 => ?_)
  · rw [if_pos c5] at hf
    refine j_ldc2 (pc' := 19) rfl rfl kcX7_177 ?_
    have hf := Option.some.inj hf; subst hf
    exact j_lret rfl rfl (Nat.zero_le _) (Nat.zero_le _) ⟨rfl, rfl⟩
  · rw [if_neg c5] at hf
    refine j_aload_n (pc' := 9) rfl rfl rfl ?_
    refine j_iload_n (pc' := 10) rfl rfl rfl ?_
    obtain ⟨r10, e10, hf⟩ := o_bind hf
    refine j_v1 (pc' := 13) rfl rfl miX7_silverOf lnX7_173 (gm_o g μ) rfl (s_X7_silverOf g μ x1 _ e10) (h_rm_of rfl) (Nat.le_of_ble_eq_true rfl) (c' := 0) (s' := 0) rfl rfl ?_
    refine j_goto (tgt := 19) rfl rfl ?_
    have hf := Option.some.inj hf; subst hf
    exact j_lret rfl rfl (Nat.zero_le _) (Nat.zero_le _) ⟨rfl, rfl⟩
def rX7_today : Room := { frames := 1, cells := 0, slots := 0, locals := 22 }
def f_X7_today (μ : mS) (x1 : Int32) : Option (Int32 × mS) := (f_X7_in x1 (μ.1 6 0) 999).bind fun r8 => if r8 = 0 then some ((-2), μ) else letm (seti μ 6 (fun _ => x1)) fun μ24 => some ((μ.1 6 0), μ24)
set_option maxHeartbeats 4000000 in
set_option maxRecDepth 100000 in
theorem s_X7_today (g : hH) (μ : mS) (x1 : Int32) (r : (Int32 × mS)) (hf : f_X7_today μ x1 = some r) : SpD mX7_today rX7_today [.ref 5000, .int x1] (gm g μ) (some (.int r.1)) (gm g r.2) := by
  refine sp_of miX7_today (Nat.le_of_ble_eq_true rfl) ?_
  show J _ _ _ 0 0 _ 0 [(0, .ref 5000), (1, .int x1)] []
  unfold f_X7_today at hf
  refine j_iload_n (pc' := 1) rfl rfl rfl ?_
  refine j_aload_n (pc' := 2) rfl rfl rfl ?_
  refine j_get (pc' := 5) rfl rfl flX7_167 (gm_o g μ) (mF_6 μ) ?_
  refine j_sipush (v := 999) (pc' := 8) rfl rfl (by decide) ?_
  obtain ⟨r8, e8, hf⟩ := o_bind hf
  refine j_s3 (pc' := 11) rfl rfl miX7_in lnX7_138 (s_X7_in (gm g μ) x1 (μ.1 6 0) 999 _ e8) (h_rm_of rfl) (Nat.le_of_ble_eq_true rfl) (c' := 0) (s' := 0) rfl rfl ?_
  refine j_if_ne (tgt := 17) (pc' := 14) rfl rfl rfl (fun c11 => ?_) (fun c11 => ?_)
  · rw [if_neg c11] at hf
    refine j_aload_n (pc' := 18) rfl rfl rfl ?_
    refine j_get (pc' := 21) rfl rfl flX7_167 (gm_o g μ) (mF_6 μ) ?_
    refine j_istore_n (pc' := 22) (ls' := [(2, _), (0, _), (1, _)]) rfl rfl (Nat.le_of_ble_eq_true rfl) rfl ?_
    refine j_aload_n (pc' := 23) rfl rfl rfl ?_
    refine j_iload_n (pc' := 24) rfl rfl rfl ?_
    obtain ⟨μ24, e24, hf⟩ := o_let hf
    refine j_put (pc' := 27) rfl rfl flX7_167 (gm_o g μ) (by decide) (Nat.le_of_ble_eq_true rfl) rfl rfl ?_
    rw [gs_6]; rw [e24]
    refine j_iload_n (pc' := 28) rfl rfl rfl ?_
    have hf := Option.some.inj hf; subst hf
    exact j_iret rfl rfl (Nat.zero_le _) (Nat.zero_le _) ⟨rfl, rfl⟩
  · rw [if_pos c11] at hf
    refine j_bipush (v := (-2)) (pc' := 16) rfl rfl (by decide) ?_
    have hf := Option.some.inj hf; subst hf
    exact j_iret rfl rfl (Nat.zero_le _) (Nat.zero_le _) ⟨rfl, rfl⟩
def rX7_feed : Room := { frames := 1, cells := 0, slots := 0, locals := 22 }
def f_X7_feed_L33 : Nat → mS → Int64 → Int32 → Option (mS)
  | 0, _, _, _ => none
  | n + 1, μ, x1, x4 => if x4 < 0 then some (μ) else bif vin (μ.1 20 0) 160 then letm (seti μ 19 (va_up (μ.1 19) ((μ.1 20 0)).toNatClampNeg (vp_nar .byte ((((x1 >>> ((8 * x4).toInt64 &&& 63))).toInt32).toInt8.toInt32)))) fun μ55 => letm (seti μ55 20 (fun _ => ((μ55.1 20 0) + 1))) fun μ63 => f_X7_feed_L33 n μ63 x1 (x4 + (-1)) else none
set_option maxHeartbeats 4000000 in
set_option maxRecDepth 100000 in
theorem s_X7_feed_L33 {Q : Option Value → hH → Prop} (g : hH) : ∀ (n : Nat) (μ : mS) (x1 : Int64) (x4 : Int32) (r : mS), f_X7_feed_L33 n μ x1 x4 = some r → (J mX7_feed rX7_feed Q 0 0 (gm g r) 72 [(0, .ref 5000)] []) → J mX7_feed rX7_feed Q 0 0 (gm g μ) 33 [(0, .ref 5000), (1, .long x1), (4, .int x4)] [] := by
  intro n
  induction n with
  | zero =>
    intro μ x1 x4 r hf
    cases hf
  | succ n ih =>
    intro μ x1 x4 r hf k0
    rw [f_X7_feed_L33] at hf
    refine j_iload (pc' := 35) rfl rfl rfl ?_
    refine j_if_lt (tgt := 72) (pc' := 38) rfl rfl rfl (fun c35 => ?_) (fun c35 => ?_)
    · rw [if_pos c35] at hf
      have hf := Option.some.inj hf; subst hf
      exact j_sub (ls' := [(0, .ref 5000)]) ⟨rfl, trivial⟩ (k0)
    · rw [if_neg c35] at hf
      refine j_aload_n (pc' := 39) rfl rfl rfl ?_
      refine j_get (pc' := 42) rfl rfl flX7_56 (gm_o g μ) (mF_19 μ) ?_
      refine j_aload_n (pc' := 43) rfl rfl rfl ?_
      refine j_get (pc' := 46) rfl rfl flX7_179 (gm_o g μ) (mF_20 μ) ?_
      refine j_lload_n (pc' := 47) rfl rfl rfl ?_
      refine j_bipush (v := 8) (pc' := 49) rfl rfl (by decide) ?_
      refine j_iload (pc' := 51) rfl rfl rfl ?_
      refine j_imul (pc' := 52) rfl rfl ?_
      refine j_lshr (pc' := 53) rfl rfl ?_
      refine j_l2i (pc' := 54) rfl rfl ?_
      refine j_i2b (pc' := 55) rfl rfl ?_
      obtain ⟨c55, hf⟩ := o_chk hf
      obtain ⟨μ55, e55, hf⟩ := o_let hf
      refine j_bast (pc' := 56) rfl rfl (gm_19 g μ) (by decide) (vin_ok c55) ?_
      rw [gs_19]; rw [e55]
      refine j_aload_n (pc' := 57) rfl rfl rfl ?_
      refine j_dup (pc' := 58) rfl rfl rfl ?_
      refine j_get (pc' := 61) rfl rfl flX7_179 (gm_o g μ55) (mF_20 μ55) ?_
      refine j_iconst (v := 1) (pc' := 62) rfl rfl (by decide) ?_
      refine j_iadd (pc' := 63) rfl rfl ?_
      obtain ⟨μ63, e63, hf⟩ := o_let hf
      refine j_put (pc' := 66) rfl rfl flX7_179 (gm_o g μ55) (by decide) (Nat.le_of_ble_eq_true rfl) rfl rfl ?_
      rw [gs_20]; rw [e63]
      refine j_iinc (pc' := 69) (d := -1) (ls' := [(4, _), (0, _), (1, _)]) rfl rfl rfl (by decide) (Nat.le_of_ble_eq_true rfl) rfl ?_
      refine j_goto (tgt := 33) rfl rfl ?_
      refine j_sub (ls' := [(0, .ref 5000), (1, .long _), (4, .int _)]) ⟨rfl, rfl, rfl, trivial⟩ ?_
      exact ih _ _ _ _ hf k0
def f_X7_feed (μ : mS) (x1 : Int64) (x3 : Int32) : Option (Int32 × mS) := (f_X7_in x3 1 8).bind fun r4 => if r4 = 0 then some ((-2), μ) else if ((μ.1 20 0) + x3) ≤ 160 then (f_X7_feed_L33 4000 μ x1 (x3 - 1)).bind fun r33 => some ((r33.1 20 0), r33) else some ((-4), μ)
set_option maxHeartbeats 4000000 in
set_option maxRecDepth 100000 in
theorem s_X7_feed (g : hH) (μ : mS) (x1 : Int64) (x3 : Int32) (r : (Int32 × mS)) (hf : f_X7_feed μ x1 x3 = some r) : SpD mX7_feed rX7_feed [.ref 5000, .long x1, .int x3] (gm g μ) (some (.int r.1)) (gm g r.2) := by
  refine sp_of miX7_feed (Nat.le_of_ble_eq_true rfl) ?_
  show J _ _ _ 0 0 _ 0 [(0, .ref 5000), (1, .long x1), (3, .int x3)] []
  unfold f_X7_feed at hf
  refine j_iload_n (pc' := 1) rfl rfl rfl ?_
  refine j_iconst (v := 1) (pc' := 2) rfl rfl (by decide) ?_
  refine j_bipush (v := 8) (pc' := 4) rfl rfl (by decide) ?_
  obtain ⟨r4, e4, hf⟩ := o_bind hf
  refine j_s3 (pc' := 7) rfl rfl miX7_in lnX7_138 (s_X7_in (gm g μ) x3 1 8 _ e4) (h_rm_of rfl) (Nat.le_of_ble_eq_true rfl) (c' := 0) (s' := 0) rfl rfl ?_
  refine j_if_ne (tgt := 13) (pc' := 10) rfl rfl rfl (fun c7 => ?_) (fun c7 => ?_)
  · rw [if_neg c7] at hf
    refine j_aload_n (pc' := 14) rfl rfl rfl ?_
    refine j_get (pc' := 17) rfl rfl flX7_179 (gm_o g μ) (mF_20 μ) ?_
    refine j_iload_n (pc' := 18) rfl rfl rfl ?_
    refine j_iadd (pc' := 19) rfl rfl ?_
    refine j_sipush (v := 160) (pc' := 22) rfl rfl (by decide) ?_
    refine j_icmp_le (tgt := 28) (pc' := 25) rfl rfl rfl (fun c22 => ?_) (fun c22 => ?_)
    · rw [if_pos c22] at hf
      refine j_iload_n (pc' := 29) rfl rfl rfl ?_
      refine j_iconst (v := 1) (pc' := 30) rfl rfl (by decide) ?_
      refine j_isub (pc' := 31) rfl rfl ?_
      refine j_istore (pc' := 33) (ls' := [(4, _), (0, _), (1, _), (3, _)]) rfl rfl (Nat.le_of_ble_eq_true rfl) rfl ?_
      obtain ⟨r33, e33, hf⟩ := o_bind hf
      refine j_sub (ls' := [(0, .ref 5000), (1, .long x1), (4, .int (x3 - 1))]) ⟨rfl, rfl, rfl, trivial⟩ ?_
      refine s_X7_feed_L33 g _ _ _ _ _ e33 ?_
      refine j_aload_n (pc' := 73) rfl rfl rfl ?_
      refine j_get (pc' := 76) rfl rfl flX7_179 (gm_o g r33) (mF_20 r33) ?_
      have hf := Option.some.inj hf; subst hf
      exact j_iret rfl rfl (Nat.zero_le _) (Nat.zero_le _) ⟨rfl, rfl⟩
    · rw [if_neg c22] at hf
      refine j_bipush (v := (-4)) (pc' := 27) rfl rfl (by decide) ?_
      have hf := Option.some.inj hf; subst hf
      exact j_iret rfl rfl (Nat.zero_le _) (Nat.zero_le _) ⟨rfl, rfl⟩
  · rw [if_pos c7] at hf
    refine j_bipush (v := (-2)) (pc' := 12) rfl rfl (by decide) ?_
    have hf := Option.some.inj hf; subst hf
    exact j_iret rfl rfl (Nat.zero_le _) (Nat.zero_le _) ⟨rfl, rfl⟩
def rX7_order : Room := { frames := 3, cells := 0, slots := 0, locals := 66 }
def f_X7_order_L19 : Nat → mS → Int32 → Int32 → Option (mS)
  | 0, _, _, _ => none
  | n + 1, μ, x1, x2 => if 8 ≤ x2 then some (μ) else bif vin ((8 * x1) + x2) 80 then letm (seti μ 22 (va_up (μ.1 22) (((8 * x1) + x2)).toNatClampNeg 0)) fun μ36 => f_X7_order_L19 n μ36 x1 (x2 + 1) else none
set_option maxHeartbeats 4000000 in
set_option maxRecDepth 100000 in
theorem s_X7_order_L19 {Q : Option Value → hH → Prop} (g : hH) : ∀ (n : Nat) (μ : mS) (x1 : Int32) (x2 : Int32) (r : mS), f_X7_order_L19 n μ x1 x2 = some r → (J mX7_order rX7_order Q 0 0 (gm g r) 43 [(0, .ref 5000), (1, .int x1)] []) → J mX7_order rX7_order Q 0 0 (gm g μ) 19 [(0, .ref 5000), (1, .int x1), (2, .int x2)] [] := by
  intro n
  induction n with
  | zero =>
    intro μ x1 x2 r hf
    cases hf
  | succ n ih =>
    intro μ x1 x2 r hf k0
    rw [f_X7_order_L19] at hf
    refine j_iload_n (pc' := 20) rfl rfl rfl ?_
    refine j_bipush (v := 8) (pc' := 22) rfl rfl (by decide) ?_
    refine j_icmp_ge (tgt := 43) (pc' := 25) rfl rfl rfl (fun c22 => ?_) (fun c22 => ?_)
    · rw [if_pos c22] at hf
      have hf := Option.some.inj hf; subst hf
      exact j_sub (ls' := [(0, .ref 5000), (1, .int _)]) ⟨rfl, rfl, trivial⟩ (k0)
    · rw [if_neg c22] at hf
      refine j_aload_n (pc' := 26) rfl rfl rfl ?_
      refine j_get (pc' := 29) rfl rfl flX7_60 (gm_o g μ) (mF_22 μ) ?_
      refine j_bipush (v := 8) (pc' := 31) rfl rfl (by decide) ?_
      refine j_iload_n (pc' := 32) rfl rfl rfl ?_
      refine j_imul (pc' := 33) rfl rfl ?_
      refine j_iload_n (pc' := 34) rfl rfl rfl ?_
      refine j_iadd (pc' := 35) rfl rfl ?_
      refine j_iconst (v := 0) (pc' := 36) rfl rfl (by decide) ?_
      obtain ⟨c36, hf⟩ := o_chk hf
      obtain ⟨μ36, e36, hf⟩ := o_let hf
      refine j_iast (pc' := 37) rfl rfl (gm_22 g μ) (by decide) (vin_ok c36) ?_
      rw [gs_22]; rw [e36]
      refine j_iinc (pc' := 40) (d := 1) (ls' := [(2, _), (0, _), (1, _)]) rfl rfl rfl (by decide) (Nat.le_of_ble_eq_true rfl) rfl ?_
      refine j_goto (tgt := 19) rfl rfl ?_
      refine j_sub (ls' := [(0, .ref 5000), (1, .int _), (2, .int _)]) ⟨rfl, rfl, rfl, trivial⟩ ?_
      exact ih _ _ _ _ hf k0
def f_X7_order_L56 : Nat → mS → Int32 → Int32 → Int32 → Option (Int32 × mS)
  | 0, _, _, _, _ => none
  | n + 1, μ, x1, x2, x3 => if x3 = 0 then some (x3, μ) else if (μ.1 20 0) ≤ (μ.1 26 0) then some (x3, μ) else if 6 ≤ x2 then f_X7_order_L56 n μ x1 (x2 + 1) 0 else (f_X7_takes μ 59).bind fun r80 => if r80.1 = 0 then f_X7_order_L56 n r80.2 x1 (x2 + 1) 0 else (f_X7_clause r80.2 x1).bind fun r88 => if r88.1 = 0 then f_X7_order_L56 n r88.2 x1 (x2 + 1) 0 else f_X7_order_L56 n r88.2 x1 (x2 + 1) 1
set_option maxHeartbeats 4000000 in
set_option maxRecDepth 100000 in
theorem s_X7_order_L56 {Q : Option Value → hH → Prop} (g : hH) : ∀ (n : Nat) (μ : mS) (x1 : Int32) (x2 : Int32) (x3 : Int32) (r : Int32 × mS), f_X7_order_L56 n μ x1 x2 x3 = some r → (J mX7_order rX7_order Q 0 0 (gm g r.2) 106 [(0, .ref 5000), (1, .int x1), (3, .int r.1)] []) → J mX7_order rX7_order Q 0 0 (gm g μ) 56 [(0, .ref 5000), (1, .int x1), (2, .int x2), (3, .int x3)] [] := by
  intro n
  induction n with
  | zero =>
    intro μ x1 x2 x3 r hf
    cases hf
  | succ n ih =>
    intro μ x1 x2 x3 r hf k0
    rw [f_X7_order_L56] at hf
    refine j_iload_n (pc' := 57) rfl rfl rfl ?_
    refine j_if_eq (tgt := 106) (pc' := 60) rfl rfl rfl (fun c57 => ?_) (fun c57 => ?_)
    · rw [if_pos c57] at hf
      have hf := Option.some.inj hf; subst hf
      exact j_sub (ls' := [(0, .ref 5000), (1, .int _), (3, .int _)]) ⟨rfl, rfl, rfl, trivial⟩ (k0)
    · rw [if_neg c57] at hf
      refine j_aload_n (pc' := 61) rfl rfl rfl ?_
      refine j_get (pc' := 64) rfl rfl flX7_182 (gm_o g μ) (mF_26 μ) ?_
      refine j_aload_n (pc' := 65) rfl rfl rfl ?_
      refine j_get (pc' := 68) rfl rfl flX7_179 (gm_o g μ) (mF_20 μ) ?_
      refine j_icmp_ge (tgt := 106) (pc' := 71) rfl rfl rfl (fun c68 => ?_) (fun c68 => ?_)
      · rw [if_pos c68] at hf
        have hf := Option.some.inj hf; subst hf
        exact j_sub (ls' := [(0, .ref 5000), (1, .int _), (3, .int _)]) ⟨rfl, rfl, rfl, trivial⟩ (k0)
      · rw [if_neg c68] at hf
        refine j_iload_n (pc' := 72) rfl rfl rfl ?_
        refine j_bipush (v := 6) (pc' := 74) rfl rfl (by decide) ?_
        refine j_icmp_ge (tgt := 98) (pc' := 77) rfl rfl rfl (fun c74 => ?_) (fun c74 => ?_)
        · rw [if_pos c74] at hf
          refine j_iconst (v := 0) (pc' := 99) rfl rfl (by decide) ?_
          refine j_istore_n (pc' := 100) (ls' := [(3, _), (0, _), (1, _), (2, _)]) rfl rfl (Nat.le_of_ble_eq_true rfl) rfl ?_
          refine j_iinc (pc' := 103) (d := 1) (ls' := [(2, _), (3, _), (0, _), (1, _)]) rfl rfl rfl (by decide) (Nat.le_of_ble_eq_true rfl) rfl ?_
          refine j_goto (tgt := 56) rfl rfl ?_
          refine j_sub (ls' := [(0, .ref 5000), (1, .int _), (2, .int _), (3, .int _)]) ⟨rfl, rfl, rfl, rfl, trivial⟩ ?_
          exact ih _ _ _ _ _ hf k0
        · rw [if_neg c74] at hf
          refine j_aload_n (pc' := 78) rfl rfl rfl ?_
          refine j_bipush (v := 59) (pc' := 80) rfl rfl (by decide) ?_
          obtain ⟨r80, e80, hf⟩ := o_bind hf
          refine j_v1 (pc' := 83) rfl rfl miX7_takes lnX7_191 (gm_o g μ) rfl (s_X7_takes g μ 59 _ e80) (h_rm_of rfl) (Nat.le_of_ble_eq_true rfl) (c' := 0) (s' := 0) rfl rfl ?_
          refine j_if_eq (tgt := 98) (pc' := 86) rfl rfl rfl (fun c83 => ?_) (fun c83 => ?_)
          · rw [if_pos c83] at hf
            refine j_iconst (v := 0) (pc' := 99) rfl rfl (by decide) ?_
            refine j_istore_n (pc' := 100) (ls' := [(3, _), (0, _), (1, _), (2, _)]) rfl rfl (Nat.le_of_ble_eq_true rfl) rfl ?_
            refine j_iinc (pc' := 103) (d := 1) (ls' := [(2, _), (3, _), (0, _), (1, _)]) rfl rfl rfl (by decide) (Nat.le_of_ble_eq_true rfl) rfl ?_
            refine j_goto (tgt := 56) rfl rfl ?_
            refine j_sub (ls' := [(0, .ref 5000), (1, .int _), (2, .int _), (3, .int _)]) ⟨rfl, rfl, rfl, rfl, trivial⟩ ?_
            exact ih _ _ _ _ _ hf k0
          · rw [if_neg c83] at hf
            refine j_aload_n (pc' := 87) rfl rfl rfl ?_
            refine j_iload_n (pc' := 88) rfl rfl rfl ?_
            obtain ⟨r88, e88, hf⟩ := o_bind hf
            refine j_v1 (pc' := 91) rfl rfl miX7_clause lnX7_208 (gm_o g r80.2) rfl (s_X7_clause g r80.2 x1 _ e88) (h_rm_of rfl) (Nat.le_of_ble_eq_true rfl) (c' := 0) (s' := 0) rfl rfl ?_
            refine j_if_eq (tgt := 98) (pc' := 94) rfl rfl rfl (fun c91 => ?_) (fun c91 => ?_)
            · rw [if_pos c91] at hf
              refine j_iconst (v := 0) (pc' := 99) rfl rfl (by decide) ?_
              refine j_istore_n (pc' := 100) (ls' := [(3, _), (0, _), (1, _), (2, _)]) rfl rfl (Nat.le_of_ble_eq_true rfl) rfl ?_
              refine j_iinc (pc' := 103) (d := 1) (ls' := [(2, _), (3, _), (0, _), (1, _)]) rfl rfl rfl (by decide) (Nat.le_of_ble_eq_true rfl) rfl ?_
              refine j_goto (tgt := 56) rfl rfl ?_
              refine j_sub (ls' := [(0, .ref 5000), (1, .int _), (2, .int _), (3, .int _)]) ⟨rfl, rfl, rfl, rfl, trivial⟩ ?_
              exact ih _ _ _ _ _ hf k0
            · rw [if_neg c91] at hf
              refine j_iconst (v := 1) (pc' := 95) rfl rfl (by decide) ?_
              refine j_goto (tgt := 99) rfl rfl ?_
              refine j_istore_n (pc' := 100) (ls' := [(3, _), (0, _), (1, _), (2, _)]) rfl rfl (Nat.le_of_ble_eq_true rfl) rfl ?_
              refine j_iinc (pc' := 103) (d := 1) (ls' := [(2, _), (3, _), (0, _), (1, _)]) rfl rfl rfl (by decide) (Nat.le_of_ble_eq_true rfl) rfl ?_
              refine j_goto (tgt := 56) rfl rfl ?_
              refine j_sub (ls' := [(0, .ref 5000), (1, .int _), (2, .int _), (3, .int _)]) ⟨rfl, rfl, rfl, rfl, trivial⟩ ?_
              exact ih _ _ _ _ _ hf k0
def f_X7_order_L126 : Nat → mS → Int32 → Int32 → Option (mS)
  | 0, _, _, _ => none
  | n + 1, μ, x1, x4 => if 6 ≤ x4 then some (μ) else bif vin ((6 * x1) + x4) 60 then letm (seti μ 25 (va_up (μ.1 25) (((6 * x1) + x4)).toNatClampNeg 0)) fun μ145 => f_X7_order_L126 n μ145 x1 (x4 + 1) else none
set_option maxHeartbeats 4000000 in
set_option maxRecDepth 100000 in
theorem s_X7_order_L126 {Q : Option Value → hH → Prop} (g : hH) : ∀ (n : Nat) (μ : mS) (x1 : Int32) (x4 : Int32) (r : mS), f_X7_order_L126 n μ x1 x4 = some r → (J mX7_order rX7_order Q 0 0 (gm g r) 152 [(0, .ref 5000), (1, .int x1)] []) → J mX7_order rX7_order Q 0 0 (gm g μ) 126 [(0, .ref 5000), (1, .int x1), (4, .int x4)] [] := by
  intro n
  induction n with
  | zero =>
    intro μ x1 x4 r hf
    cases hf
  | succ n ih =>
    intro μ x1 x4 r hf k0
    rw [f_X7_order_L126] at hf
    refine j_iload (pc' := 128) rfl rfl rfl ?_
    refine j_bipush (v := 6) (pc' := 130) rfl rfl (by decide) ?_
    refine j_icmp_ge (tgt := 152) (pc' := 133) rfl rfl rfl (fun c130 => ?_) (fun c130 => ?_)
    · rw [if_pos c130] at hf
      have hf := Option.some.inj hf; subst hf
      exact j_sub (ls' := [(0, .ref 5000), (1, .int _)]) ⟨rfl, rfl, trivial⟩ (k0)
    · rw [if_neg c130] at hf
      refine j_aload_n (pc' := 134) rfl rfl rfl ?_
      refine j_get (pc' := 137) rfl rfl flX7_69 (gm_o g μ) (mF_25 μ) ?_
      refine j_bipush (v := 6) (pc' := 139) rfl rfl (by decide) ?_
      refine j_iload_n (pc' := 140) rfl rfl rfl ?_
      refine j_imul (pc' := 141) rfl rfl ?_
      refine j_iload (pc' := 143) rfl rfl rfl ?_
      refine j_iadd (pc' := 144) rfl rfl ?_
      refine j_iconst (v := 0) (pc' := 145) rfl rfl (by decide) ?_
      obtain ⟨c145, hf⟩ := o_chk hf
      obtain ⟨μ145, e145, hf⟩ := o_let hf
      refine j_iast (pc' := 146) rfl rfl (gm_25 g μ) (by decide) (vin_ok c145) ?_
      rw [gs_25]; rw [e145]
      refine j_iinc (pc' := 149) (d := 1) (ls' := [(4, _), (0, _), (1, _)]) rfl rfl rfl (by decide) (Nat.le_of_ble_eq_true rfl) rfl ?_
      refine j_goto (tgt := 126) rfl rfl ?_
      refine j_sub (ls' := [(0, .ref 5000), (1, .int _), (4, .int _)]) ⟨rfl, rfl, rfl, trivial⟩ ?_
      exact ih _ _ _ _ hf k0
def f_X7_order (μ : mS) : Option (Int32 × mS) := if (μ.1 21 0) = 10 then some ((-4), μ) else (f_X7_order_L19 4000 μ (μ.1 21 0) 0).bind fun r19 => letm (seti r19 26 (fun _ => 0)) fun μ45 => (f_X7_clause μ45 (μ.1 21 0)).bind fun r52 => (f_X7_order_L56 4000 r52.2 (μ.1 21 0) 1 r52.1).bind fun r56 => letm (seti r56.2 20 (fun _ => 0)) fun μ108 => if r56.1 = 0 then some (((-10) - (μ108.1 26 0)), μ108) else (f_X7_order_L126 4000 μ108 (μ.1 21 0) 0).bind fun r126 => letm (seti r126 21 (fun _ => ((r126.1 21 0) + 1))) fun μ159 => some ((μ.1 21 0), μ159)
set_option maxHeartbeats 4000000 in
set_option maxRecDepth 100000 in
theorem s_X7_order (g : hH) (μ : mS) (r : (Int32 × mS)) (hf : f_X7_order μ = some r) : SpD mX7_order rX7_order [.ref 5000] (gm g μ) (some (.int r.1)) (gm g r.2) := by
  refine sp_of miX7_order (Nat.le_of_ble_eq_true rfl) ?_
  show J _ _ _ 0 0 _ 0 [(0, .ref 5000)] []
  unfold f_X7_order at hf
  refine j_aload_n (pc' := 1) rfl rfl rfl ?_
  refine j_get (pc' := 4) rfl rfl flX7_205 (gm_o g μ) (mF_21 μ) ?_
  refine j_bipush (v := 10) (pc' := 6) rfl rfl (by decide) ?_
  refine j_icmp_ne (tgt := 12) (pc' := 9) rfl rfl rfl (fun c6 => ?_) (fun c6 => ?_)
  · rw [if_neg c6] at hf
    refine j_aload_n (pc' := 13) rfl rfl rfl ?_
    refine j_get (pc' := 16) rfl rfl flX7_205 (gm_o g μ) (mF_21 μ) ?_
    refine j_istore_n (pc' := 17) (ls' := [(1, _), (0, _)]) rfl rfl (Nat.le_of_ble_eq_true rfl) rfl ?_
    refine j_iconst (v := 0) (pc' := 18) rfl rfl (by decide) ?_
    refine j_istore_n (pc' := 19) (ls' := [(2, _), (1, _), (0, _)]) rfl rfl (Nat.le_of_ble_eq_true rfl) rfl ?_
    obtain ⟨r19, e19, hf⟩ := o_bind hf
    refine j_sub (ls' := [(0, .ref 5000), (1, .int (μ.1 21 0)), (2, .int 0)]) ⟨rfl, rfl, rfl, trivial⟩ ?_
    refine s_X7_order_L19 g _ _ _ _ _ e19 ?_
    refine j_aload_n (pc' := 44) rfl rfl rfl ?_
    refine j_iconst (v := 0) (pc' := 45) rfl rfl (by decide) ?_
    obtain ⟨μ45, e45, hf⟩ := o_let hf
    refine j_put (pc' := 48) rfl rfl flX7_182 (gm_o g r19) (by decide) (Nat.le_of_ble_eq_true rfl) rfl rfl ?_
    rw [gs_26]; rw [e45]
    refine j_iconst (v := 1) (pc' := 49) rfl rfl (by decide) ?_
    refine j_istore_n (pc' := 50) (ls' := [(2, _), (0, _), (1, _)]) rfl rfl (Nat.le_of_ble_eq_true rfl) rfl ?_
    refine j_aload_n (pc' := 51) rfl rfl rfl ?_
    refine j_iload_n (pc' := 52) rfl rfl rfl ?_
    obtain ⟨r52, e52, hf⟩ := o_bind hf
    refine j_v1 (pc' := 55) rfl rfl miX7_clause lnX7_208 (gm_o g μ45) rfl (s_X7_clause g μ45 (μ.1 21 0) _ e52) (h_rm_of rfl) (Nat.le_of_ble_eq_true rfl) (c' := 0) (s' := 0) rfl rfl ?_
    refine j_istore_n (pc' := 56) (ls' := [(3, _), (2, _), (0, _), (1, _)]) rfl rfl (Nat.le_of_ble_eq_true rfl) rfl ?_
    obtain ⟨r56, e56, hf⟩ := o_bind hf
    refine j_sub (ls' := [(0, .ref 5000), (1, .int (μ.1 21 0)), (2, .int 1), (3, .int r52.1)]) ⟨rfl, rfl, rfl, rfl, trivial⟩ ?_
    refine s_X7_order_L56 g _ _ _ _ _ _ e56 ?_
    refine j_aload_n (pc' := 107) rfl rfl rfl ?_
    refine j_iconst (v := 0) (pc' := 108) rfl rfl (by decide) ?_
    obtain ⟨μ108, e108, hf⟩ := o_let hf
    refine j_put (pc' := 111) rfl rfl flX7_179 (gm_o g r56.2) (by decide) (Nat.le_of_ble_eq_true rfl) rfl rfl ?_
    rw [gs_20]; rw [e108]
    refine j_iload_n (pc' := 112) rfl rfl rfl ?_
    refine j_if_ne (tgt := 123) (pc' := 115) rfl rfl rfl (fun c112 => ?_) (fun c112 => ?_)
    · rw [if_neg c112] at hf
      refine j_iconst (v := 0) (pc' := 124) rfl rfl (by decide) ?_
      refine j_istore (pc' := 126) (ls' := [(4, _), (0, _), (1, _), (3, _)]) rfl rfl (Nat.le_of_ble_eq_true rfl) rfl ?_
      obtain ⟨r126, e126, hf⟩ := o_bind hf
      refine j_sub (ls' := [(0, .ref 5000), (1, .int (μ.1 21 0)), (4, .int 0)]) ⟨rfl, rfl, rfl, trivial⟩ ?_
      refine s_X7_order_L126 g _ _ _ _ _ e126 ?_
      refine j_aload_n (pc' := 153) rfl rfl rfl ?_
      refine j_dup (pc' := 154) rfl rfl rfl ?_
      refine j_get (pc' := 157) rfl rfl flX7_205 (gm_o g r126) (mF_21 r126) ?_
      refine j_iconst (v := 1) (pc' := 158) rfl rfl (by decide) ?_
      refine j_iadd (pc' := 159) rfl rfl ?_
      obtain ⟨μ159, e159, hf⟩ := o_let hf
      refine j_put (pc' := 162) rfl rfl flX7_205 (gm_o g r126) (by decide) (Nat.le_of_ble_eq_true rfl) rfl rfl ?_
      rw [gs_21]; rw [e159]
      refine j_iload_n (pc' := 163) rfl rfl rfl ?_
      have hf := Option.some.inj hf; subst hf
      exact j_iret rfl rfl (Nat.zero_le _) (Nat.zero_le _) ⟨rfl, rfl⟩
    · rw [if_pos c112] at hf
      refine j_bipush (v := (-10)) (pc' := 117) rfl rfl (by decide) ?_
      refine j_aload_n (pc' := 118) rfl rfl rfl ?_
      refine j_get (pc' := 121) rfl rfl flX7_182 (gm_o g μ108) (mF_26 μ108) ?_
      refine j_isub (pc' := 122) rfl rfl ?_
      have hf := Option.some.inj hf; subst hf
      exact j_iret rfl rfl (Nat.zero_le _) (Nat.zero_le _) ⟨rfl, rfl⟩
  · rw [if_pos c6] at hf
    refine j_bipush (v := (-4)) (pc' := 11) rfl rfl (by decide) ?_
    have hf := Option.some.inj hf; subst hf
    exact j_iret rfl rfl (Nat.zero_le _) (Nat.zero_le _) ⟨rfl, rfl⟩
def rX7_tell : Room := { frames := 2, cells := 0, slots := 0, locals := 43 }
def f_X7_tell (μ : mS) (x1 : Int32) (x2 : Int32) : Option (Int32 × mS) := (f_X7_isOrder μ x1).bind fun r2 => if r2 = 0 then some ((-1), μ) else (f_X7_isTown x2).bind fun r9 => if r9 = 0 then some ((-1), μ) else bif vin ((6 * x1) + x2) 60 then if (μ.1 25 (((6 * x1) + x2)).toNatClampNeg) ≤ 0 then bif vin ((6 * x1) + x2) 60 then letm (seti μ 25 (va_up (μ.1 25) (((6 * x1) + x2)).toNatClampNeg ((μ.1 6 0) + 1))) fun μ49 => some (1, μ49) else none else some (0, μ) else none
set_option maxHeartbeats 4000000 in
set_option maxRecDepth 100000 in
theorem s_X7_tell (g : hH) (μ : mS) (x1 : Int32) (x2 : Int32) (r : (Int32 × mS)) (hf : f_X7_tell μ x1 x2 = some r) : SpD mX7_tell rX7_tell [.ref 5000, .int x1, .int x2] (gm g μ) (some (.int r.1)) (gm g r.2) := by
  refine sp_of miX7_tell (Nat.le_of_ble_eq_true rfl) ?_
  show J _ _ _ 0 0 _ 0 [(0, .ref 5000), (1, .int x1), (2, .int x2)] []
  unfold f_X7_tell at hf
  refine j_aload_n (pc' := 1) rfl rfl rfl ?_
  refine j_iload_n (pc' := 2) rfl rfl rfl ?_
  obtain ⟨r2, e2, hf⟩ := o_bind hf
  refine j_v1 (pc' := 5) rfl rfl miX7_isOrder lnX7_211 (gm_o g μ) rfl (s_X7_isOrder g μ x1 _ e2) (h_rm_of rfl) (Nat.le_of_ble_eq_true rfl) (c' := 0) (s' := 0) rfl rfl ?_
  refine j_if_eq (tgt := 15) (pc' := 8) rfl rfl rfl (fun c5 => ?_) (fun c5 => ?_)
  · rw [if_pos c5] at hf
    refine j_iconst (v := (-1)) (pc' := 16) rfl rfl (by decide) ?_
    have hf := Option.some.inj hf; subst hf
    exact j_iret rfl rfl (Nat.zero_le _) (Nat.zero_le _) ⟨rfl, rfl⟩
  · rw [if_neg c5] at hf
    refine j_iload_n (pc' := 9) rfl rfl rfl ?_
    obtain ⟨r9, e9, hf⟩ := o_bind hf
    refine j_s1 (pc' := 12) rfl rfl miX7_isTown lnX7_149 (s_X7_isTown (gm g μ) x2 _ e9) (h_rm_of rfl) (Nat.le_of_ble_eq_true rfl) (c' := 0) (s' := 0) rfl rfl ?_
    refine j_if_ne (tgt := 17) (pc' := 15) rfl rfl rfl (fun c12 => ?_) (fun c12 => ?_)
    · rw [if_neg c12] at hf
      refine j_aload_n (pc' := 18) rfl rfl rfl ?_
      refine j_get (pc' := 21) rfl rfl flX7_69 (gm_o g μ) (mF_25 μ) ?_
      refine j_bipush (v := 6) (pc' := 23) rfl rfl (by decide) ?_
      refine j_iload_n (pc' := 24) rfl rfl rfl ?_
      refine j_imul (pc' := 25) rfl rfl ?_
      refine j_iload_n (pc' := 26) rfl rfl rfl ?_
      refine j_iadd (pc' := 27) rfl rfl ?_
      obtain ⟨c27, hf⟩ := o_chk hf
      refine j_iald (pc' := 28) rfl rfl (gm_25 g μ) (vin_ok c27) ?_
      refine j_if_le (tgt := 33) (pc' := 31) rfl rfl rfl (fun c28 => ?_) (fun c28 => ?_)
      · rw [if_pos c28] at hf
        refine j_aload_n (pc' := 34) rfl rfl rfl ?_
        refine j_get (pc' := 37) rfl rfl flX7_69 (gm_o g μ) (mF_25 μ) ?_
        refine j_bipush (v := 6) (pc' := 39) rfl rfl (by decide) ?_
        refine j_iload_n (pc' := 40) rfl rfl rfl ?_
        refine j_imul (pc' := 41) rfl rfl ?_
        refine j_iload_n (pc' := 42) rfl rfl rfl ?_
        refine j_iadd (pc' := 43) rfl rfl ?_
        refine j_aload_n (pc' := 44) rfl rfl rfl ?_
        refine j_get (pc' := 47) rfl rfl flX7_167 (gm_o g μ) (mF_6 μ) ?_
        refine j_iconst (v := 1) (pc' := 48) rfl rfl (by decide) ?_
        refine j_iadd (pc' := 49) rfl rfl ?_
        obtain ⟨c49, hf⟩ := o_chk hf
        obtain ⟨μ49, e49, hf⟩ := o_let hf
        refine j_iast (pc' := 50) rfl rfl (gm_25 g μ) (by decide) (vin_ok c49) ?_
        rw [gs_25]; rw [e49]
        refine j_iconst (v := 1) (pc' := 51) rfl rfl (by decide) ?_
        have hf := Option.some.inj hf; subst hf
        exact j_iret rfl rfl (Nat.zero_le _) (Nat.zero_le _) ⟨rfl, rfl⟩
      · rw [if_neg c28] at hf
        refine j_iconst (v := 0) (pc' := 32) rfl rfl (by decide) ?_
        have hf := Option.some.inj hf; subst hf
        exact j_iret rfl rfl (Nat.zero_le _) (Nat.zero_le _) ⟨rfl, rfl⟩
    · rw [if_pos c12] at hf
      refine j_iconst (v := (-1)) (pc' := 16) rfl rfl (by decide) ?_
      have hf := Option.some.inj hf; subst hf
      exact j_iret rfl rfl (Nat.zero_le _) (Nat.zero_le _) ⟨rfl, rfl⟩
def rX7_force : Room := { frames := 2, cells := 0, slots := 0, locals := 42 }
def f_X7_force (μ : mS) (x1 : Int32) (x2 : Int32) : Option Int32 := (f_X7_isTown x1).bind fun r1 => if r1 = 0 then some (-1) else (f_X7_forceIn μ x1 x2).bind fun r10 => some r10
set_option maxHeartbeats 4000000 in
set_option maxRecDepth 100000 in
theorem s_X7_force (g : hH) (μ : mS) (x1 : Int32) (x2 : Int32) (r : Int32) (hf : f_X7_force μ x1 x2 = some r) : SpD mX7_force rX7_force [.ref 5000, .int x1, .int x2] (gm g μ) (some (.int r)) (gm g μ) := by
  refine sp_of miX7_force (Nat.le_of_ble_eq_true rfl) ?_
  show J _ _ _ 0 0 _ 0 [(0, .ref 5000), (1, .int x1), (2, .int x2)] []
  unfold f_X7_force at hf
  refine j_iload_n (pc' := 1) rfl rfl rfl ?_
  obtain ⟨r1, e1, hf⟩ := o_bind hf
  refine j_s1 (pc' := 4) rfl rfl miX7_isTown lnX7_149 (s_X7_isTown (gm g μ) x1 _ e1) (h_rm_of rfl) (Nat.le_of_ble_eq_true rfl) (c' := 0) (s' := 0) rfl rfl ?_
  refine j_if_eq (tgt := 16) (pc' := 7) rfl rfl rfl (fun c4 => ?_) (fun c4 => ?_)
  · rw [if_pos c4] at hf
    refine j_iconst (v := (-1)) (pc' := 17) rfl rfl (by decide) ?_
    have hf := Option.some.inj hf; subst hf
    exact j_iret rfl rfl (Nat.zero_le _) (Nat.zero_le _) ⟨rfl, rfl⟩
  · rw [if_neg c4] at hf
    refine j_aload_n (pc' := 8) rfl rfl rfl ?_
    refine j_iload_n (pc' := 9) rfl rfl rfl ?_
    refine j_iload_n (pc' := 10) rfl rfl rfl ?_
    obtain ⟨r10, e10, hf⟩ := o_bind hf
    refine j_v2 (pc' := 13) rfl rfl miX7_forceIn lnX7_214 (gm_o g μ) rfl (s_X7_forceIn g μ x1 x2 _ e10) (h_rm_of rfl) (Nat.le_of_ble_eq_true rfl) (c' := 0) (s' := 0) rfl rfl ?_
    refine j_goto (tgt := 17) rfl rfl ?_
    have hf := Option.some.inj hf; subst hf
    exact j_iret rfl rfl (Nat.zero_le _) (Nat.zero_le _) ⟨rfl, rfl⟩
def rX7_pass : Room := { frames := 2, cells := 0, slots := 0, locals := 50 }
def f_X7_pass (μ : mS) (x1 : Int32) (x2 : Int32) (x3 : Int32) : Option Int32 := (f_X7_isLot μ x1).bind fun r2 => if r2 = 0 then some (-1) else (f_X7_isTown x2).bind fun r9 => if r9 = 0 then some (-1) else if 0 ≤ x3 then (f_X7_passes μ x1 x2 x3).bind fun r32 => some r32 else some (-2)
set_option maxHeartbeats 4000000 in
set_option maxRecDepth 100000 in
theorem s_X7_pass (g : hH) (μ : mS) (x1 : Int32) (x2 : Int32) (x3 : Int32) (r : Int32) (hf : f_X7_pass μ x1 x2 x3 = some r) : SpD mX7_pass rX7_pass [.ref 5000, .int x1, .int x2, .int x3] (gm g μ) (some (.int r)) (gm g μ) := by
  refine sp_of miX7_pass (Nat.le_of_ble_eq_true rfl) ?_
  show J _ _ _ 0 0 _ 0 [(0, .ref 5000), (1, .int x1), (2, .int x2), (3, .int x3)] []
  unfold f_X7_pass at hf
  refine j_aload_n (pc' := 1) rfl rfl rfl ?_
  refine j_iload_n (pc' := 2) rfl rfl rfl ?_
  obtain ⟨r2, e2, hf⟩ := o_bind hf
  refine j_v1 (pc' := 5) rfl rfl miX7_isLot lnX7_160 (gm_o g μ) rfl (s_X7_isLot g μ x1 _ e2) (h_rm_of rfl) (Nat.le_of_ble_eq_true rfl) (c' := 0) (s' := 0) rfl rfl ?_
  refine j_if_eq (tgt := 15) (pc' := 8) rfl rfl rfl (fun c5 => ?_) (fun c5 => ?_)
  · rw [if_pos c5] at hf
    refine j_iconst (v := (-1)) (pc' := 16) rfl rfl (by decide) ?_
    refine j_goto (tgt := 35) rfl rfl ?_
    have hf := Option.some.inj hf; subst hf
    exact j_iret rfl rfl (Nat.zero_le _) (Nat.zero_le _) ⟨rfl, rfl⟩
  · rw [if_neg c5] at hf
    refine j_iload_n (pc' := 9) rfl rfl rfl ?_
    obtain ⟨r9, e9, hf⟩ := o_bind hf
    refine j_s1 (pc' := 12) rfl rfl miX7_isTown lnX7_149 (s_X7_isTown (gm g μ) x2 _ e9) (h_rm_of rfl) (Nat.le_of_ble_eq_true rfl) (c' := 0) (s' := 0) rfl rfl ?_
    refine j_if_ne (tgt := 19) (pc' := 15) rfl rfl rfl (fun c12 => ?_) (fun c12 => ?_)
    · rw [if_neg c12] at hf
      refine j_iload_n (pc' := 20) rfl rfl rfl ?_
      refine j_if_ge (tgt := 28) (pc' := 23) rfl rfl rfl (fun c20 => ?_) (fun c20 => ?_)
      · rw [if_pos c20] at hf
        refine j_aload_n (pc' := 29) rfl rfl rfl ?_
        refine j_iload_n (pc' := 30) rfl rfl rfl ?_
        refine j_iload_n (pc' := 31) rfl rfl rfl ?_
        refine j_iload_n (pc' := 32) rfl rfl rfl ?_
        obtain ⟨r32, e32, hf⟩ := o_bind hf
        refine j_v3 (pc' := 35) rfl rfl miX7_passes lnX7_218 (gm_o g μ) rfl (s_X7_passes g μ x1 x2 x3 _ e32) (h_rm_of rfl) (Nat.le_of_ble_eq_true rfl) (c' := 0) (s' := 0) rfl rfl ?_
        have hf := Option.some.inj hf; subst hf
        exact j_iret rfl rfl (Nat.zero_le _) (Nat.zero_le _) ⟨rfl, rfl⟩
      · rw [if_neg c20] at hf
        refine j_bipush (v := (-2)) (pc' := 25) rfl rfl (by decide) ?_
        refine j_goto (tgt := 35) rfl rfl ?_
        have hf := Option.some.inj hf; subst hf
        exact j_iret rfl rfl (Nat.zero_le _) (Nat.zero_le _) ⟨rfl, rfl⟩
    · rw [if_pos c12] at hf
      refine j_iconst (v := (-1)) (pc' := 16) rfl rfl (by decide) ?_
      refine j_goto (tgt := 35) rfl rfl ?_
      have hf := Option.some.inj hf; subst hf
      exact j_iret rfl rfl (Nat.zero_le _) (Nat.zero_le _) ⟨rfl, rfl⟩
def rX7_light : Room := { frames := 2, cells := 0, slots := 0, locals := 45 }
def f_X7_light (μ : mS) (x1 : Int32) (x2 : Int32) (x3 : Int32) (x4 : Int32) : Option Int32 := (f_X7_isLot μ x1).bind fun r2 => if r2 = 0 then some (-1) else (f_X7_isTown x4).bind fun r10 => if r10 = 0 then some (-1) else (f_X7_isDrawn μ x1 x2 x3).bind fun r22 => if r22 = 0 then some (-2) else (f_X7_forceIn μ x4 (μ.1 6 0)).bind fun r38 => bif vin x1 30 then letm ((8 * r38) + (μ.1 9 (x1).toNatClampNeg)) fun y55 => if r38 < 0 then some 0 else bif vin y55 80 then if (μ.1 22 (y55).toNatClampNeg) = 2 then bif vin x1 30 then bif vin x1 30 then bif vin (μ.1 9 (x1).toNatClampNeg) 8 then bif vin y55 80 then bif vin x1 30 then if 0 ≤ (lg_cmp (((x3 + (((μ.1 10 (x1).toNatClampNeg) - x2) * (μ.1 3 ((μ.1 9 (x1).toNatClampNeg)).toNatClampNeg)))).toInt64) (((μ.1 24 (y55).toNatClampNeg)).toInt64 * ((μ.1 10 (x1).toNatClampNeg)).toInt64)) then some 0 else some 1 else none else none else none else none else none else some 0 else none else none
set_option maxHeartbeats 4000000 in
set_option maxRecDepth 100000 in
theorem s_X7_light (g : hH) (μ : mS) (x1 : Int32) (x2 : Int32) (x3 : Int32) (x4 : Int32) (r : Int32) (hf : f_X7_light μ x1 x2 x3 x4 = some r) : SpD mX7_light rX7_light [.ref 5000, .int x1, .int x2, .int x3, .int x4] (gm g μ) (some (.int r)) (gm g μ) := by
  refine sp_of miX7_light (Nat.le_of_ble_eq_true rfl) ?_
  show J _ _ _ 0 0 _ 0 [(0, .ref 5000), (1, .int x1), (2, .int x2), (3, .int x3), (4, .int x4)] []
  unfold f_X7_light at hf
  refine j_aload_n (pc' := 1) rfl rfl rfl ?_
  refine j_iload_n (pc' := 2) rfl rfl rfl ?_
  obtain ⟨r2, e2, hf⟩ := o_bind hf
  refine j_v1 (pc' := 5) rfl rfl miX7_isLot lnX7_160 (gm_o g μ) rfl (s_X7_isLot g μ x1 _ e2) (h_rm_of rfl) (Nat.le_of_ble_eq_true rfl) (c' := 0) (s' := 0) rfl rfl ?_
  refine j_if_eq (tgt := 16) (pc' := 8) rfl rfl rfl (fun c5 => ?_) (fun c5 => ?_)
  · rw [if_pos c5] at hf
    refine j_iconst (v := (-1)) (pc' := 17) rfl rfl (by decide) ?_
    have hf := Option.some.inj hf; subst hf
    exact j_iret rfl rfl (Nat.zero_le _) (Nat.zero_le _) ⟨rfl, rfl⟩
  · rw [if_neg c5] at hf
    refine j_iload (pc' := 10) rfl rfl rfl ?_
    obtain ⟨r10, e10, hf⟩ := o_bind hf
    refine j_s1 (pc' := 13) rfl rfl miX7_isTown lnX7_149 (s_X7_isTown (gm g μ) x4 _ e10) (h_rm_of rfl) (Nat.le_of_ble_eq_true rfl) (c' := 0) (s' := 0) rfl rfl ?_
    refine j_if_ne (tgt := 18) (pc' := 16) rfl rfl rfl (fun c13 => ?_) (fun c13 => ?_)
    · rw [if_neg c13] at hf
      refine j_aload_n (pc' := 19) rfl rfl rfl ?_
      refine j_iload_n (pc' := 20) rfl rfl rfl ?_
      refine j_iload_n (pc' := 21) rfl rfl rfl ?_
      refine j_iload_n (pc' := 22) rfl rfl rfl ?_
      obtain ⟨r22, e22, hf⟩ := o_bind hf
      refine j_v3 (pc' := 25) rfl rfl miX7_isDrawn lnX7_225 (gm_o g μ) rfl (s_X7_isDrawn g μ x1 x2 x3 _ e22) (h_rm_of rfl) (Nat.le_of_ble_eq_true rfl) (c' := 0) (s' := 0) rfl rfl ?_
      refine j_if_ne (tgt := 31) (pc' := 28) rfl rfl rfl (fun c25 => ?_) (fun c25 => ?_)
      · rw [if_neg c25] at hf
        refine j_aload_n (pc' := 32) rfl rfl rfl ?_
        refine j_iload (pc' := 34) rfl rfl rfl ?_
        refine j_aload_n (pc' := 35) rfl rfl rfl ?_
        refine j_get (pc' := 38) rfl rfl flX7_167 (gm_o g μ) (mF_6 μ) ?_
        obtain ⟨r38, e38, hf⟩ := o_bind hf
        refine j_v2 (pc' := 41) rfl rfl miX7_forceIn lnX7_214 (gm_o g μ) rfl (s_X7_forceIn g μ x4 (μ.1 6 0) _ e38) (h_rm_of rfl) (Nat.le_of_ble_eq_true rfl) (c' := 0) (s' := 0) rfl rfl ?_
        refine j_istore (pc' := 43) (ls' := [(5, _), (0, _), (1, _), (2, _), (3, _), (4, _)]) rfl rfl (Nat.le_of_ble_eq_true rfl) rfl ?_
        refine j_bipush (v := 8) (pc' := 45) rfl rfl (by decide) ?_
        refine j_iload (pc' := 47) rfl rfl rfl ?_
        refine j_imul (pc' := 48) rfl rfl ?_
        refine j_aload_n (pc' := 49) rfl rfl rfl ?_
        refine j_get (pc' := 52) rfl rfl flX7_25 (gm_o g μ) (mF_9 μ) ?_
        refine j_iload_n (pc' := 53) rfl rfl rfl ?_
        obtain ⟨c53, hf⟩ := o_chk hf
        refine j_iald (pc' := 54) rfl rfl (gm_9 g μ) (vin_ok c53) ?_
        refine j_iadd (pc' := 55) rfl rfl ?_
        obtain ⟨y55, e55, hf⟩ := o_let hf
        rw [e55]
        refine j_istore (pc' := 57) (ls' := [(6, _), (5, _), (0, _), (1, _), (2, _), (3, _), (4, _)]) rfl rfl (Nat.le_of_ble_eq_true rfl) rfl ?_
        refine j_iload (pc' := 59) rfl rfl rfl ?_
        refine j_if_lt (tgt := 73) (pc' := 62) rfl rfl rfl (fun c59 => ?_) (fun c59 => ?_)
        · rw [if_pos c59] at hf
          refine j_iconst (v := 0) (pc' := 74) rfl rfl (by decide) ?_
          have hf := Option.some.inj hf; subst hf
          exact j_iret rfl rfl (Nat.zero_le _) (Nat.zero_le _) ⟨rfl, rfl⟩
        · rw [if_neg c59] at hf
          refine j_aload_n (pc' := 63) rfl rfl rfl ?_
          refine j_get (pc' := 66) rfl rfl flX7_60 (gm_o g μ) (mF_22 μ) ?_
          refine j_iload (pc' := 68) rfl rfl rfl ?_
          obtain ⟨c68, hf⟩ := o_chk hf
          refine j_iald (pc' := 69) rfl rfl (gm_22 g μ) (vin_ok c68) ?_
          refine j_iconst (v := 2) (pc' := 70) rfl rfl (by decide) ?_
          refine j_icmp_eq (tgt := 75) (pc' := 73) rfl rfl rfl (fun c70 => ?_) (fun c70 => ?_)
          · rw [if_pos c70] at hf
            refine j_iload_n (pc' := 76) rfl rfl rfl ?_
            refine j_aload_n (pc' := 77) rfl rfl rfl ?_
            refine j_get (pc' := 80) rfl rfl flX7_28 (gm_o g μ) (mF_10 μ) ?_
            refine j_iload_n (pc' := 81) rfl rfl rfl ?_
            obtain ⟨c81, hf⟩ := o_chk hf
            refine j_iald (pc' := 82) rfl rfl (gm_10 g μ) (vin_ok c81) ?_
            refine j_iload_n (pc' := 83) rfl rfl rfl ?_
            refine j_isub (pc' := 84) rfl rfl ?_
            refine j_aload_n (pc' := 85) rfl rfl rfl ?_
            refine j_get (pc' := 88) rfl rfl flX7_13 (gm_o g μ) (mF_3 μ) ?_
            refine j_aload_n (pc' := 89) rfl rfl rfl ?_
            refine j_get (pc' := 92) rfl rfl flX7_25 (gm_o g μ) (mF_9 μ) ?_
            refine j_iload_n (pc' := 93) rfl rfl rfl ?_
            obtain ⟨c93, hf⟩ := o_chk hf
            refine j_iald (pc' := 94) rfl rfl (gm_9 g μ) (vin_ok c93) ?_
            obtain ⟨c94, hf⟩ := o_chk hf
            refine j_iald (pc' := 95) rfl rfl (gm_3 g μ) (vin_ok c94) ?_
            refine j_imul (pc' := 96) rfl rfl ?_
            refine j_iadd (pc' := 97) rfl rfl ?_
            refine j_i2l (pc' := 98) rfl rfl ?_
            refine j_aload_n (pc' := 99) rfl rfl rfl ?_
            refine j_get (pc' := 102) rfl rfl flX7_66 (gm_o g μ) (mF_24 μ) ?_
            refine j_iload (pc' := 104) rfl rfl rfl ?_
            obtain ⟨c104, hf⟩ := o_chk hf
            refine j_iald (pc' := 105) rfl rfl (gm_24 g μ) (vin_ok c104) ?_
            refine j_i2l (pc' := 106) rfl rfl ?_
            refine j_aload_n (pc' := 107) rfl rfl rfl ?_
            refine j_get (pc' := 110) rfl rfl flX7_28 (gm_o g μ) (mF_10 μ) ?_
            refine j_iload_n (pc' := 111) rfl rfl rfl ?_
            obtain ⟨c111, hf⟩ := o_chk hf
            refine j_iald (pc' := 112) rfl rfl (gm_10 g μ) (vin_ok c111) ?_
            refine j_i2l (pc' := 113) rfl rfl ?_
            refine j_lmul (pc' := 114) rfl rfl ?_
            refine j_lcmp (pc' := 115) rfl rfl ?_
            refine j_if_ge (tgt := 122) (pc' := 118) rfl rfl rfl (fun c115 => ?_) (fun c115 => ?_)
            · rw [if_pos c115] at hf
              refine j_iconst (v := 0) (pc' := 123) rfl rfl (by decide) ?_
              have hf := Option.some.inj hf; subst hf
              exact j_iret rfl rfl (Nat.zero_le _) (Nat.zero_le _) ⟨rfl, rfl⟩
            · rw [if_neg c115] at hf
              refine j_iconst (v := 1) (pc' := 119) rfl rfl (by decide) ?_
              refine j_goto (tgt := 123) rfl rfl ?_
              have hf := Option.some.inj hf; subst hf
              exact j_iret rfl rfl (Nat.zero_le _) (Nat.zero_le _) ⟨rfl, rfl⟩
          · rw [if_neg c70] at hf
            refine j_iconst (v := 0) (pc' := 74) rfl rfl (by decide) ?_
            have hf := Option.some.inj hf; subst hf
            exact j_iret rfl rfl (Nat.zero_le _) (Nat.zero_le _) ⟨rfl, rfl⟩
      · rw [if_pos c25] at hf
        refine j_bipush (v := (-2)) (pc' := 30) rfl rfl (by decide) ?_
        have hf := Option.some.inj hf; subst hf
        exact j_iret rfl rfl (Nat.zero_le _) (Nat.zero_le _) ⟨rfl, rfl⟩
    · rw [if_pos c13] at hf
      refine j_iconst (v := (-1)) (pc' := 17) rfl rfl (by decide) ?_
      have hf := Option.some.inj hf; subst hf
      exact j_iret rfl rfl (Nat.zero_le _) (Nat.zero_le _) ⟨rfl, rfl⟩
def rX7_pay : Room := { frames := 3, cells := 0, slots := 0, locals := 77 }
def f_X7_pay_L69 : Nat → mS → Int32 → Int32 → Int32 → Int64 → Int32 → Int32 → Option (Int32 × mS)
  | 0, _, _, _, _, _, _, _ => none
  | n + 1, μ, x1, x2, x3, x4, x6, x7 => if x7 ≤ 0 then some (x7, μ) else bif vin (x7 - 1) 30 then (f_X7_isWorse μ x6 (μ.1 31 ((x7 - 1)).toNatClampNeg) x1).bind fun r87 => if r87 = 0 then some (x7, μ) else bif vin (x7 - 1) 30 then bif vin x7 30 then letm (seti μ 31 (va_up (μ.1 31) (x7).toNatClampNeg (μ.1 31 ((x7 - 1)).toNatClampNeg))) fun μ108 => f_X7_pay_L69 n μ108 x1 x2 x3 x4 x6 (x7 + (-1)) else none else none else none
set_option maxHeartbeats 4000000 in
set_option maxRecDepth 100000 in
theorem s_X7_pay_L69 {Q : Option Value → hH → Prop} (g : hH) : ∀ (n : Nat) (μ : mS) (x1 : Int32) (x2 : Int32) (x3 : Int32) (x4 : Int64) (x6 : Int32) (x7 : Int32) (r : Int32 × mS), f_X7_pay_L69 n μ x1 x2 x3 x4 x6 x7 = some r → (J mX7_pay rX7_pay Q 0 0 (gm g r.2) 115 [(0, .ref 5000), (1, .int x1), (2, .int x2), (3, .int x3), (4, .long x4), (6, .int x6), (7, .int r.1)] []) → J mX7_pay rX7_pay Q 0 0 (gm g μ) 69 [(0, .ref 5000), (1, .int x1), (2, .int x2), (3, .int x3), (4, .long x4), (6, .int x6), (7, .int x7)] [] := by
  intro n
  induction n with
  | zero =>
    intro μ x1 x2 x3 x4 x6 x7 r hf
    cases hf
  | succ n ih =>
    intro μ x1 x2 x3 x4 x6 x7 r hf k0
    rw [f_X7_pay_L69] at hf
    refine j_iload (pc' := 71) rfl rfl rfl ?_
    refine j_if_le (tgt := 115) (pc' := 74) rfl rfl rfl (fun c71 => ?_) (fun c71 => ?_)
    · rw [if_pos c71] at hf
      have hf := Option.some.inj hf; subst hf
      exact j_sub (ls' := [(0, .ref 5000), (1, .int _), (2, .int _), (3, .int _), (4, .long _), (6, .int _), (7, .int _)]) ⟨rfl, rfl, rfl, rfl, rfl, rfl, rfl, trivial⟩ (k0)
    · rw [if_neg c71] at hf
      refine j_aload_n (pc' := 75) rfl rfl rfl ?_
      refine j_iload (pc' := 77) rfl rfl rfl ?_
      refine j_aload_n (pc' := 78) rfl rfl rfl ?_
      refine j_get (pc' := 81) rfl rfl flX7_79 (gm_o g μ) (mF_31 μ) ?_
      refine j_iload (pc' := 83) rfl rfl rfl ?_
      refine j_iconst (v := 1) (pc' := 84) rfl rfl (by decide) ?_
      refine j_isub (pc' := 85) rfl rfl ?_
      obtain ⟨c85, hf⟩ := o_chk hf
      refine j_iald (pc' := 86) rfl rfl (gm_31 g μ) (vin_ok c85) ?_
      refine j_iload_n (pc' := 87) rfl rfl rfl ?_
      obtain ⟨r87, e87, hf⟩ := o_bind hf
      refine j_v3 (pc' := 90) rfl rfl miX7_isWorse lnX7_232 (gm_o g μ) rfl (s_X7_isWorse g μ x6 (μ.1 31 ((x7 - 1)).toNatClampNeg) x1 _ e87) (h_rm_of rfl) (Nat.le_of_ble_eq_true rfl) (c' := 0) (s' := 0) rfl rfl ?_
      refine j_if_eq (tgt := 115) (pc' := 93) rfl rfl rfl (fun c90 => ?_) (fun c90 => ?_)
      · rw [if_pos c90] at hf
        have hf := Option.some.inj hf; subst hf
        exact j_sub (ls' := [(0, .ref 5000), (1, .int _), (2, .int _), (3, .int _), (4, .long _), (6, .int _), (7, .int _)]) ⟨rfl, rfl, rfl, rfl, rfl, rfl, rfl, trivial⟩ (k0)
      · rw [if_neg c90] at hf
        refine j_aload_n (pc' := 94) rfl rfl rfl ?_
        refine j_get (pc' := 97) rfl rfl flX7_79 (gm_o g μ) (mF_31 μ) ?_
        refine j_iload (pc' := 99) rfl rfl rfl ?_
        refine j_aload_n (pc' := 100) rfl rfl rfl ?_
        refine j_get (pc' := 103) rfl rfl flX7_79 (gm_o g μ) (mF_31 μ) ?_
        refine j_iload (pc' := 105) rfl rfl rfl ?_
        refine j_iconst (v := 1) (pc' := 106) rfl rfl (by decide) ?_
        refine j_isub (pc' := 107) rfl rfl ?_
        obtain ⟨c107, hf⟩ := o_chk hf
        refine j_iald (pc' := 108) rfl rfl (gm_31 g μ) (vin_ok c107) ?_
        obtain ⟨c108, hf⟩ := o_chk hf
        obtain ⟨μ108, e108, hf⟩ := o_let hf
        refine j_iast (pc' := 109) rfl rfl (gm_31 g μ) (by decide) (vin_ok c108) ?_
        rw [gs_31]; rw [e108]
        refine j_iinc (pc' := 112) (d := -1) (ls' := [(7, _), (0, _), (1, _), (2, _), (3, _), (4, _), (6, _)]) rfl rfl rfl (by decide) (Nat.le_of_ble_eq_true rfl) rfl ?_
        refine j_goto (tgt := 69) rfl rfl ?_
        refine j_sub (ls' := [(0, .ref 5000), (1, .int _), (2, .int _), (3, .int _), (4, .long _), (6, .int _), (7, .int _)]) ⟨rfl, rfl, rfl, rfl, rfl, rfl, rfl, trivial⟩ ?_
        exact ih _ _ _ _ _ _ _ _ hf k0
def f_X7_pay_L30 : Nat → mS → Int32 → Int32 → Int32 → Int64 → Int32 → Option (Int64 × mS)
  | 0, _, _, _, _, _, _ => none
  | n + 1, μ, x1, x2, x3, x4, x6 => if (μ.1 7 0) ≤ x6 then some (x4, μ) else (f_X7_isThere μ x6 x1).bind fun r43 => if r43 = 0 then f_X7_pay_L30 n μ x1 x2 x3 x4 (x6 + 1) else (f_X7_passes μ x6 x1 (μ.1 6 0)).bind fun r57 => if r57 = 0 then f_X7_pay_L30 n μ x1 x2 x3 x4 (x6 + 1) else (f_X7_pay_L69 4000 μ x1 x2 x3 x4 x6 x3).bind fun r69 => bif vin r69.1 30 then letm (seti r69.2 31 (va_up (r69.2.1 31) (r69.1).toNatClampNeg x6)) fun μ123 => (f_X7_passes μ123 x6 x1 (μ123.1 6 0)).bind fun r137 => f_X7_pay_L30 n μ123 x1 x2 (x3 + 1) (x4 + (r137).toInt64) (x6 + 1) else none
set_option maxHeartbeats 4000000 in
set_option maxRecDepth 100000 in
theorem s_X7_pay_L30 {Q : Option Value → hH → Prop} (g : hH) : ∀ (n : Nat) (μ : mS) (x1 : Int32) (x2 : Int32) (x3 : Int32) (x4 : Int64) (x6 : Int32) (r : Int64 × mS), f_X7_pay_L30 n μ x1 x2 x3 x4 x6 = some r → (J mX7_pay rX7_pay Q 0 0 (gm g r.2) 150 [(0, .ref 5000), (1, .int x1), (2, .int x2), (4, .long r.1)] []) → J mX7_pay rX7_pay Q 0 0 (gm g μ) 30 [(0, .ref 5000), (1, .int x1), (2, .int x2), (3, .int x3), (4, .long x4), (6, .int x6)] [] := by
  intro n
  induction n with
  | zero =>
    intro μ x1 x2 x3 x4 x6 r hf
    cases hf
  | succ n ih =>
    intro μ x1 x2 x3 x4 x6 r hf k0
    rw [f_X7_pay_L30] at hf
    refine j_iload (pc' := 32) rfl rfl rfl ?_
    refine j_aload_n (pc' := 33) rfl rfl rfl ?_
    refine j_get (pc' := 36) rfl rfl flX7_142 (gm_o g μ) (mF_7 μ) ?_
    refine j_icmp_ge (tgt := 150) (pc' := 39) rfl rfl rfl (fun c36 => ?_) (fun c36 => ?_)
    · rw [if_pos c36] at hf
      have hf := Option.some.inj hf; subst hf
      exact j_sub (ls' := [(0, .ref 5000), (1, .int _), (2, .int _), (4, .long _)]) ⟨rfl, rfl, rfl, rfl, trivial⟩ (k0)
    · rw [if_neg c36] at hf
      refine j_aload_n (pc' := 40) rfl rfl rfl ?_
      refine j_iload (pc' := 42) rfl rfl rfl ?_
      refine j_iload_n (pc' := 43) rfl rfl rfl ?_
      obtain ⟨r43, e43, hf⟩ := o_bind hf
      refine j_v2 (pc' := 46) rfl rfl miX7_isThere lnX7_229 (gm_o g μ) rfl (s_X7_isThere g μ x6 x1 _ e43) (h_rm_of rfl) (Nat.le_of_ble_eq_true rfl) (c' := 0) (s' := 0) rfl rfl ?_
      refine j_if_eq (tgt := 144) (pc' := 49) rfl rfl rfl (fun c46 => ?_) (fun c46 => ?_)
      · rw [if_pos c46] at hf
        refine j_iinc (pc' := 147) (d := 1) (ls' := [(6, _), (0, _), (1, _), (2, _), (3, _), (4, _)]) rfl rfl rfl (by decide) (Nat.le_of_ble_eq_true rfl) rfl ?_
        refine j_goto (tgt := 30) rfl rfl ?_
        refine j_sub (ls' := [(0, .ref 5000), (1, .int _), (2, .int _), (3, .int _), (4, .long _), (6, .int _)]) ⟨rfl, rfl, rfl, rfl, rfl, rfl, trivial⟩ ?_
        exact ih _ _ _ _ _ _ _ hf k0
      · rw [if_neg c46] at hf
        refine j_aload_n (pc' := 50) rfl rfl rfl ?_
        refine j_iload (pc' := 52) rfl rfl rfl ?_
        refine j_iload_n (pc' := 53) rfl rfl rfl ?_
        refine j_aload_n (pc' := 54) rfl rfl rfl ?_
        refine j_get (pc' := 57) rfl rfl flX7_167 (gm_o g μ) (mF_6 μ) ?_
        obtain ⟨r57, e57, hf⟩ := o_bind hf
        refine j_v3 (pc' := 60) rfl rfl miX7_passes lnX7_218 (gm_o g μ) rfl (s_X7_passes g μ x6 x1 (μ.1 6 0) _ e57) (h_rm_of rfl) (Nat.le_of_ble_eq_true rfl) (c' := 0) (s' := 0) rfl rfl ?_
        refine j_if_ne (tgt := 66) (pc' := 63) rfl rfl rfl (fun c60 => ?_) (fun c60 => ?_)
        · rw [if_neg c60] at hf
          refine j_iload_n (pc' := 67) rfl rfl rfl ?_
          refine j_istore (pc' := 69) (ls' := [(7, _), (0, _), (1, _), (2, _), (3, _), (4, _), (6, _)]) rfl rfl (Nat.le_of_ble_eq_true rfl) rfl ?_
          obtain ⟨r69, e69, hf⟩ := o_bind hf
          refine j_sub (ls' := [(0, .ref 5000), (1, .int x1), (2, .int x2), (3, .int x3), (4, .long x4), (6, .int x6), (7, .int x3)]) ⟨rfl, rfl, rfl, rfl, rfl, rfl, rfl, trivial⟩ ?_
          refine s_X7_pay_L69 g _ _ _ _ _ _ _ _ _ e69 ?_
          refine j_aload_n (pc' := 116) rfl rfl rfl ?_
          refine j_get (pc' := 119) rfl rfl flX7_79 (gm_o g r69.2) (mF_31 r69.2) ?_
          refine j_iload (pc' := 121) rfl rfl rfl ?_
          refine j_iload (pc' := 123) rfl rfl rfl ?_
          obtain ⟨c123, hf⟩ := o_chk hf
          obtain ⟨μ123, e123, hf⟩ := o_let hf
          refine j_iast (pc' := 124) rfl rfl (gm_31 g r69.2) (by decide) (vin_ok c123) ?_
          rw [gs_31]; rw [e123]
          refine j_iinc (pc' := 127) (d := 1) (ls' := [(3, _), (0, _), (1, _), (2, _), (4, _), (6, _), (7, _)]) rfl rfl rfl (by decide) (Nat.le_of_ble_eq_true rfl) rfl ?_
          refine j_lload (pc' := 129) rfl rfl rfl ?_
          refine j_aload_n (pc' := 130) rfl rfl rfl ?_
          refine j_iload (pc' := 132) rfl rfl rfl ?_
          refine j_iload_n (pc' := 133) rfl rfl rfl ?_
          refine j_aload_n (pc' := 134) rfl rfl rfl ?_
          refine j_get (pc' := 137) rfl rfl flX7_167 (gm_o g μ123) (mF_6 μ123) ?_
          obtain ⟨r137, e137, hf⟩ := o_bind hf
          refine j_v3 (pc' := 140) rfl rfl miX7_passes lnX7_218 (gm_o g μ123) rfl (s_X7_passes g μ123 x6 x1 (μ123.1 6 0) _ e137) (h_rm_of rfl) (Nat.le_of_ble_eq_true rfl) (c' := 0) (s' := 0) rfl rfl ?_
          refine j_i2l (pc' := 141) rfl rfl ?_
          refine j_ladd (pc' := 142) rfl rfl ?_
          refine j_lstore (pc' := 144) (ls' := [(4, _), (3, _), (0, _), (1, _), (2, _), (6, _), (7, _)]) rfl rfl (Nat.le_of_ble_eq_true rfl) rfl ?_
          refine j_iinc (pc' := 147) (d := 1) (ls' := [(6, _), (4, _), (3, _), (0, _), (1, _), (2, _), (7, _)]) rfl rfl rfl (by decide) (Nat.le_of_ble_eq_true rfl) rfl ?_
          refine j_goto (tgt := 30) rfl rfl ?_
          refine j_sub (ls' := [(0, .ref 5000), (1, .int _), (2, .int _), (3, .int _), (4, .long _), (6, .int _)]) ⟨rfl, rfl, rfl, rfl, rfl, rfl, trivial⟩ ?_
          exact ih _ _ _ _ _ _ _ hf k0
        · rw [if_pos c60] at hf
          refine j_goto (tgt := 144) rfl rfl ?_
          refine j_iinc (pc' := 147) (d := 1) (ls' := [(6, _), (0, _), (1, _), (2, _), (3, _), (4, _)]) rfl rfl rfl (by decide) (Nat.le_of_ble_eq_true rfl) rfl ?_
          refine j_goto (tgt := 30) rfl rfl ?_
          refine j_sub (ls' := [(0, .ref 5000), (1, .int _), (2, .int _), (3, .int _), (4, .long _), (6, .int _)]) ⟨rfl, rfl, rfl, rfl, rfl, rfl, trivial⟩ ?_
          exact ih _ _ _ _ _ _ _ hf k0
def f_X7_pay_L169 : Nat → mS → Int32 → Int32 → Int64 → Option (Int64 × mS)
  | 0, _, _, _, _ => none
  | n + 1, μ, x1, x2, x6 => if 0 ≤ (lg_cmp x6 ((x2).toInt64)) then some (x6, μ) else bif vin (μ.1 29 0) 30 then letm (μ.1 31 ((μ.1 29 0)).toNatClampNeg) fun y186 => (f_X7_passes μ y186 x1 (μ.1 6 0)).bind fun r198 => bif vin (μ.1 29 0) 30 then letm (seti μ 30 (va_up (μ.1 30) ((μ.1 29 0)).toNatClampNeg y186)) fun μ215 => letm (seti μ215 29 (fun _ => ((μ215.1 29 0) + 1))) fun μ223 => f_X7_pay_L169 n μ223 x1 x2 (x6 + (r198).toInt64) else none else none
set_option maxHeartbeats 4000000 in
set_option maxRecDepth 100000 in
theorem s_X7_pay_L169 {Q : Option Value → hH → Prop} (g : hH) : ∀ (n : Nat) (μ : mS) (x1 : Int32) (x2 : Int32) (x6 : Int64) (r : Int64 × mS), f_X7_pay_L169 n μ x1 x2 x6 = some r → (J mX7_pay rX7_pay Q 0 0 (gm g r.2) 229 [(0, .ref 5000), (1, .int x1), (2, .int x2), (6, .long r.1)] []) → J mX7_pay rX7_pay Q 0 0 (gm g μ) 169 [(0, .ref 5000), (1, .int x1), (2, .int x2), (6, .long x6)] [] := by
  intro n
  induction n with
  | zero =>
    intro μ x1 x2 x6 r hf
    cases hf
  | succ n ih =>
    intro μ x1 x2 x6 r hf k0
    rw [f_X7_pay_L169] at hf
    refine j_lload (pc' := 171) rfl rfl rfl ?_
    refine j_iload_n (pc' := 172) rfl rfl rfl ?_
    refine j_i2l (pc' := 173) rfl rfl ?_
    refine j_lcmp (pc' := 174) rfl rfl ?_
    refine j_if_ge (tgt := 229) (pc' := 177) rfl rfl rfl (fun c174 => ?_) (fun c174 => ?_)
    · rw [if_pos c174] at hf
      have hf := Option.some.inj hf; subst hf
      exact j_sub (ls' := [(0, .ref 5000), (1, .int _), (2, .int _), (6, .long _)]) ⟨rfl, rfl, rfl, rfl, trivial⟩ (k0)
    · rw [if_neg c174] at hf
      refine j_aload_n (pc' := 178) rfl rfl rfl ?_
      refine j_get (pc' := 181) rfl rfl flX7_79 (gm_o g μ) (mF_31 μ) ?_
      refine j_aload_n (pc' := 182) rfl rfl rfl ?_
      refine j_get (pc' := 185) rfl rfl flX7_235 (gm_o g μ) (mF_29 μ) ?_
      obtain ⟨c185, hf⟩ := o_chk hf
      refine j_iald (pc' := 186) rfl rfl (gm_31 g μ) (vin_ok c185) ?_
      obtain ⟨y186, e186, hf⟩ := o_let hf
      rw [e186]
      refine j_istore (pc' := 188) (ls' := [(8, _), (0, _), (1, _), (2, _), (6, _)]) rfl rfl (Nat.le_of_ble_eq_true rfl) rfl ?_
      refine j_lload (pc' := 190) rfl rfl rfl ?_
      refine j_aload_n (pc' := 191) rfl rfl rfl ?_
      refine j_iload (pc' := 193) rfl rfl rfl ?_
      refine j_iload_n (pc' := 194) rfl rfl rfl ?_
      refine j_aload_n (pc' := 195) rfl rfl rfl ?_
      refine j_get (pc' := 198) rfl rfl flX7_167 (gm_o g μ) (mF_6 μ) ?_
      obtain ⟨r198, e198, hf⟩ := o_bind hf
      refine j_v3 (pc' := 201) rfl rfl miX7_passes lnX7_218 (gm_o g μ) rfl (s_X7_passes g μ y186 x1 (μ.1 6 0) _ e198) (h_rm_of rfl) (Nat.le_of_ble_eq_true rfl) (c' := 0) (s' := 0) rfl rfl ?_
      refine j_i2l (pc' := 202) rfl rfl ?_
      refine j_ladd (pc' := 203) rfl rfl ?_
      refine j_lstore (pc' := 205) (ls' := [(6, _), (8, _), (0, _), (1, _), (2, _)]) rfl rfl (Nat.le_of_ble_eq_true rfl) rfl ?_
      refine j_aload_n (pc' := 206) rfl rfl rfl ?_
      refine j_get (pc' := 209) rfl rfl flX7_76 (gm_o g μ) (mF_30 μ) ?_
      refine j_aload_n (pc' := 210) rfl rfl rfl ?_
      refine j_get (pc' := 213) rfl rfl flX7_235 (gm_o g μ) (mF_29 μ) ?_
      refine j_iload (pc' := 215) rfl rfl rfl ?_
      obtain ⟨c215, hf⟩ := o_chk hf
      obtain ⟨μ215, e215, hf⟩ := o_let hf
      refine j_iast (pc' := 216) rfl rfl (gm_30 g μ) (by decide) (vin_ok c215) ?_
      rw [gs_30]; rw [e215]
      refine j_aload_n (pc' := 217) rfl rfl rfl ?_
      refine j_dup (pc' := 218) rfl rfl rfl ?_
      refine j_get (pc' := 221) rfl rfl flX7_235 (gm_o g μ215) (mF_29 μ215) ?_
      refine j_iconst (v := 1) (pc' := 222) rfl rfl (by decide) ?_
      refine j_iadd (pc' := 223) rfl rfl ?_
      obtain ⟨μ223, e223, hf⟩ := o_let hf
      refine j_put (pc' := 226) rfl rfl flX7_235 (gm_o g μ215) (by decide) (Nat.le_of_ble_eq_true rfl) rfl rfl ?_
      rw [gs_29]; rw [e223]
      refine j_goto (tgt := 169) rfl rfl ?_
      refine j_sub (ls' := [(0, .ref 5000), (1, .int _), (2, .int _), (6, .long _)]) ⟨rfl, rfl, rfl, rfl, trivial⟩ ?_
      exact ih _ _ _ _ _ hf k0
def f_X7_pay_L232 : Nat → mS → Int32 → Int32 → Int64 → Int32 → Option (mS)
  | 0, _, _, _, _, _ => none
  | n + 1, μ, x1, x2, x6, x8 => if (μ.1 29 0) ≤ x8 then some (μ) else bif vin x8 30 then bif vin (μ.1 30 (x8).toNatClampNeg) 30 then letm (seti μ 17 (va_up (μ.1 17) ((μ.1 30 (x8).toNatClampNeg)).toNatClampNeg (vp_nar .boolean 1))) fun μ253 => f_X7_pay_L232 n μ253 x1 x2 x6 (x8 + 1) else none else none
set_option maxHeartbeats 4000000 in
set_option maxRecDepth 100000 in
theorem s_X7_pay_L232 {Q : Option Value → hH → Prop} (g : hH) : ∀ (n : Nat) (μ : mS) (x1 : Int32) (x2 : Int32) (x6 : Int64) (x8 : Int32) (r : mS), f_X7_pay_L232 n μ x1 x2 x6 x8 = some r → (J mX7_pay rX7_pay Q 0 0 (gm g r) 260 [(0, .ref 5000), (1, .int x1), (2, .int x2), (6, .long x6)] []) → J mX7_pay rX7_pay Q 0 0 (gm g μ) 232 [(0, .ref 5000), (1, .int x1), (2, .int x2), (6, .long x6), (8, .int x8)] [] := by
  intro n
  induction n with
  | zero =>
    intro μ x1 x2 x6 x8 r hf
    cases hf
  | succ n ih =>
    intro μ x1 x2 x6 x8 r hf k0
    rw [f_X7_pay_L232] at hf
    refine j_iload (pc' := 234) rfl rfl rfl ?_
    refine j_aload_n (pc' := 235) rfl rfl rfl ?_
    refine j_get (pc' := 238) rfl rfl flX7_235 (gm_o g μ) (mF_29 μ) ?_
    refine j_icmp_ge (tgt := 260) (pc' := 241) rfl rfl rfl (fun c238 => ?_) (fun c238 => ?_)
    · rw [if_pos c238] at hf
      have hf := Option.some.inj hf; subst hf
      exact j_sub (ls' := [(0, .ref 5000), (1, .int _), (2, .int _), (6, .long _)]) ⟨rfl, rfl, rfl, rfl, trivial⟩ (k0)
    · rw [if_neg c238] at hf
      refine j_aload_n (pc' := 242) rfl rfl rfl ?_
      refine j_get (pc' := 245) rfl rfl flX7_50 (gm_o g μ) (mF_17 μ) ?_
      refine j_aload_n (pc' := 246) rfl rfl rfl ?_
      refine j_get (pc' := 249) rfl rfl flX7_76 (gm_o g μ) (mF_30 μ) ?_
      refine j_iload (pc' := 251) rfl rfl rfl ?_
      obtain ⟨c251, hf⟩ := o_chk hf
      refine j_iald (pc' := 252) rfl rfl (gm_30 g μ) (vin_ok c251) ?_
      refine j_iconst (v := 1) (pc' := 253) rfl rfl (by decide) ?_
      obtain ⟨c253, hf⟩ := o_chk hf
      obtain ⟨μ253, e253, hf⟩ := o_let hf
      refine j_zast (pc' := 254) rfl rfl (gm_17 g μ) (by decide) (vin_ok c253) ?_
      rw [gs_17]; rw [e253]
      refine j_iinc (pc' := 257) (d := 1) (ls' := [(8, _), (0, _), (1, _), (2, _), (6, _)]) rfl rfl rfl (by decide) (Nat.le_of_ble_eq_true rfl) rfl ?_
      refine j_goto (tgt := 232) rfl rfl ?_
      refine j_sub (ls' := [(0, .ref 5000), (1, .int _), (2, .int _), (6, .long _), (8, .int _)]) ⟨rfl, rfl, rfl, rfl, rfl, trivial⟩ ?_
      exact ih _ _ _ _ _ _ hf k0
def f_X7_pay (μ : mS) (x1 : Int32) (x2 : Int32) : Option (Int32 × mS) := (f_X7_isTown x1).bind fun r1 => if r1 = 0 then some ((-1), μ) else (f_X7_in x2 1 1000000).bind fun r13 => if r13 = 0 then some ((-2), μ) else (f_X7_pay_L30 4000 μ x1 x2 0 0 0).bind fun r30 => if 0 ≤ (lg_cmp r30.1 ((x2).toInt64)) then letm (seti r30.2 29 (fun _ => 0)) fun μ166 => (f_X7_pay_L169 4000 μ166 x1 x2 0).bind fun r169 => (f_X7_pay_L232 4000 r169.2 x1 x2 r169.1 0).bind fun r232 => bif vin x1 6 then bif vin x1 6 then letm (setl r232 28 (va_up (r232.2 28) (x1).toNatClampNeg ((r232.2 28 (x1).toNatClampNeg) + (r169.1 - (x2).toInt64)))) fun μ273 => some ((μ273.1 29 0), μ273) else none else none else some ((-3), r30.2)
set_option maxHeartbeats 4000000 in
set_option maxRecDepth 100000 in
theorem s_X7_pay (g : hH) (μ : mS) (x1 : Int32) (x2 : Int32) (r : (Int32 × mS)) (hf : f_X7_pay μ x1 x2 = some r) : SpD mX7_pay rX7_pay [.ref 5000, .int x1, .int x2] (gm g μ) (some (.int r.1)) (gm g r.2) := by
  refine sp_of miX7_pay (Nat.le_of_ble_eq_true rfl) ?_
  show J _ _ _ 0 0 _ 0 [(0, .ref 5000), (1, .int x1), (2, .int x2)] []
  unfold f_X7_pay at hf
  refine j_iload_n (pc' := 1) rfl rfl rfl ?_
  obtain ⟨r1, e1, hf⟩ := o_bind hf
  refine j_s1 (pc' := 4) rfl rfl miX7_isTown lnX7_149 (s_X7_isTown (gm g μ) x1 _ e1) (h_rm_of rfl) (Nat.le_of_ble_eq_true rfl) (c' := 0) (s' := 0) rfl rfl ?_
  refine j_if_ne (tgt := 9) (pc' := 7) rfl rfl rfl (fun c4 => ?_) (fun c4 => ?_)
  · rw [if_neg c4] at hf
    refine j_iload_n (pc' := 10) rfl rfl rfl ?_
    refine j_iconst (v := 1) (pc' := 11) rfl rfl (by decide) ?_
    refine j_ldc (pc' := 13) rfl rfl kcX7_228 ?_
    obtain ⟨r13, e13, hf⟩ := o_bind hf
    refine j_s3 (pc' := 16) rfl rfl miX7_in lnX7_138 (s_X7_in (gm g μ) x2 1 1000000 _ e13) (h_rm_of rfl) (Nat.le_of_ble_eq_true rfl) (c' := 0) (s' := 0) rfl rfl ?_
    refine j_if_ne (tgt := 22) (pc' := 19) rfl rfl rfl (fun c16 => ?_) (fun c16 => ?_)
    · rw [if_neg c16] at hf
      refine j_iconst (v := 0) (pc' := 23) rfl rfl (by decide) ?_
      refine j_istore_n (pc' := 24) (ls' := [(3, _), (0, _), (1, _), (2, _)]) rfl rfl (Nat.le_of_ble_eq_true rfl) rfl ?_
      refine j_lconst (v := 0) (pc' := 25) rfl rfl (by decide) ?_
      refine j_lstore (pc' := 27) (ls' := [(4, _), (3, _), (0, _), (1, _), (2, _)]) rfl rfl (Nat.le_of_ble_eq_true rfl) rfl ?_
      refine j_iconst (v := 0) (pc' := 28) rfl rfl (by decide) ?_
      refine j_istore (pc' := 30) (ls' := [(6, _), (4, _), (3, _), (0, _), (1, _), (2, _)]) rfl rfl (Nat.le_of_ble_eq_true rfl) rfl ?_
      obtain ⟨r30, e30, hf⟩ := o_bind hf
      refine j_sub (ls' := [(0, .ref 5000), (1, .int x1), (2, .int x2), (3, .int 0), (4, .long 0), (6, .int 0)]) ⟨rfl, rfl, rfl, rfl, rfl, rfl, trivial⟩ ?_
      refine s_X7_pay_L30 g _ _ _ _ _ _ _ _ e30 ?_
      refine j_lload (pc' := 152) rfl rfl rfl ?_
      refine j_iload_n (pc' := 153) rfl rfl rfl ?_
      refine j_i2l (pc' := 154) rfl rfl ?_
      refine j_lcmp (pc' := 155) rfl rfl ?_
      refine j_if_ge (tgt := 161) (pc' := 158) rfl rfl rfl (fun c155 => ?_) (fun c155 => ?_)
      · rw [if_pos c155] at hf
        refine j_lconst (v := 0) (pc' := 162) rfl rfl (by decide) ?_
        refine j_lstore (pc' := 164) (ls' := [(6, _), (0, _), (1, _), (2, _), (4, _)]) rfl rfl (Nat.le_of_ble_eq_true rfl) rfl ?_
        refine j_aload_n (pc' := 165) rfl rfl rfl ?_
        refine j_iconst (v := 0) (pc' := 166) rfl rfl (by decide) ?_
        obtain ⟨μ166, e166, hf⟩ := o_let hf
        refine j_put (pc' := 169) rfl rfl flX7_235 (gm_o g r30.2) (by decide) (Nat.le_of_ble_eq_true rfl) rfl rfl ?_
        rw [gs_29]; rw [e166]
        obtain ⟨r169, e169, hf⟩ := o_bind hf
        refine j_sub (ls' := [(0, .ref 5000), (1, .int x1), (2, .int x2), (6, .long 0)]) ⟨rfl, rfl, rfl, rfl, trivial⟩ ?_
        refine s_X7_pay_L169 g _ _ _ _ _ _ e169 ?_
        refine j_iconst (v := 0) (pc' := 230) rfl rfl (by decide) ?_
        refine j_istore (pc' := 232) (ls' := [(8, _), (0, _), (1, _), (2, _), (6, _)]) rfl rfl (Nat.le_of_ble_eq_true rfl) rfl ?_
        obtain ⟨r232, e232, hf⟩ := o_bind hf
        refine j_sub (ls' := [(0, .ref 5000), (1, .int x1), (2, .int x2), (6, .long r169.1), (8, .int 0)]) ⟨rfl, rfl, rfl, rfl, rfl, trivial⟩ ?_
        refine s_X7_pay_L232 g _ _ _ _ _ _ _ e232 ?_
        refine j_aload_n (pc' := 261) rfl rfl rfl ?_
        refine j_get (pc' := 264) rfl rfl flX7_72 (gm_o g r232) (mF_28 r232) ?_
        refine j_iload_n (pc' := 265) rfl rfl rfl ?_
        refine j_dup2_11 (pc' := 266) rfl rfl rfl rfl ?_
        obtain ⟨c266, hf⟩ := o_chk hf
        refine j_lald (pc' := 267) rfl rfl (gm_28 g r232) (vin_ok c266) ?_
        refine j_lload (pc' := 269) rfl rfl rfl ?_
        refine j_iload_n (pc' := 270) rfl rfl rfl ?_
        refine j_i2l (pc' := 271) rfl rfl ?_
        refine j_lsub (pc' := 272) rfl rfl ?_
        refine j_ladd (pc' := 273) rfl rfl ?_
        obtain ⟨c273, hf⟩ := o_chk hf
        obtain ⟨μ273, e273, hf⟩ := o_let hf
        refine j_last (pc' := 274) rfl rfl (gm_28 g r232) (by decide) (vin_ok c273) ?_
        rw [gs_28]; rw [e273]
        refine j_aload_n (pc' := 275) rfl rfl rfl ?_
        refine j_get (pc' := 278) rfl rfl flX7_235 (gm_o g μ273) (mF_29 μ273) ?_
        have hf := Option.some.inj hf; subst hf
        exact j_iret rfl rfl (Nat.zero_le _) (Nat.zero_le _) ⟨rfl, rfl⟩
      · rw [if_neg c155] at hf
        refine j_bipush (v := (-3)) (pc' := 160) rfl rfl (by decide) ?_
        have hf := Option.some.inj hf; subst hf
        exact j_iret rfl rfl (Nat.zero_le _) (Nat.zero_le _) ⟨rfl, rfl⟩
    · rw [if_pos c16] at hf
      refine j_bipush (v := (-2)) (pc' := 21) rfl rfl (by decide) ?_
      have hf := Option.some.inj hf; subst hf
      exact j_iret rfl rfl (Nat.zero_le _) (Nat.zero_le _) ⟨rfl, rfl⟩
  · rw [if_pos c4] at hf
    refine j_iconst (v := (-1)) (pc' := 8) rfl rfl (by decide) ?_
    have hf := Option.some.inj hf; subst hf
    exact j_iret rfl rfl (Nat.zero_le _) (Nat.zero_le _) ⟨rfl, rfl⟩
end MODEL3
end
section
section MODEL4
def rX7_paid : Room := { frames := 1, cells := 0, slots := 0, locals := 22 }
def f_X7_paid (μ : mS) (x1 : Int32) : Option Int32 := (f_X7_in x1 0 ((μ.1 29 0) - 1)).bind fun r8 => if r8 = 0 then some (-1) else bif vin x1 30 then some (μ.1 30 (x1).toNatClampNeg) else none
set_option maxHeartbeats 4000000 in
set_option maxRecDepth 100000 in
theorem s_X7_paid (g : hH) (μ : mS) (x1 : Int32) (r : Int32) (hf : f_X7_paid μ x1 = some r) : SpD mX7_paid rX7_paid [.ref 5000, .int x1] (gm g μ) (some (.int r)) (gm g μ) := by
  refine sp_of miX7_paid (Nat.le_of_ble_eq_true rfl) ?_
  show J _ _ _ 0 0 _ 0 [(0, .ref 5000), (1, .int x1)] []
  unfold f_X7_paid at hf
  refine j_iload_n (pc' := 1) rfl rfl rfl ?_
  refine j_iconst (v := 0) (pc' := 2) rfl rfl (by decide) ?_
  refine j_aload_n (pc' := 3) rfl rfl rfl ?_
  refine j_get (pc' := 6) rfl rfl flX7_235 (gm_o g μ) (mF_29 μ) ?_
  refine j_iconst (v := 1) (pc' := 7) rfl rfl (by decide) ?_
  refine j_isub (pc' := 8) rfl rfl ?_
  obtain ⟨r8, e8, hf⟩ := o_bind hf
  refine j_s3 (pc' := 11) rfl rfl miX7_in lnX7_138 (s_X7_in (gm g μ) x1 0 ((μ.1 29 0) - 1) _ e8) (h_rm_of rfl) (Nat.le_of_ble_eq_true rfl) (c' := 0) (s' := 0) rfl rfl ?_
  refine j_if_eq (tgt := 23) (pc' := 14) rfl rfl rfl (fun c11 => ?_) (fun c11 => ?_)
  · rw [if_pos c11] at hf
    refine j_iconst (v := (-1)) (pc' := 24) rfl rfl (by decide) ?_
    have hf := Option.some.inj hf; subst hf
    exact j_iret rfl rfl (Nat.zero_le _) (Nat.zero_le _) ⟨rfl, rfl⟩
  · rw [if_neg c11] at hf
    refine j_aload_n (pc' := 15) rfl rfl rfl ?_
    refine j_get (pc' := 18) rfl rfl flX7_76 (gm_o g μ) (mF_30 μ) ?_
    refine j_iload_n (pc' := 19) rfl rfl rfl ?_
    obtain ⟨c19, hf⟩ := o_chk hf
    refine j_iald (pc' := 20) rfl rfl (gm_30 g μ) (vin_ok c19) ?_
    refine j_goto (tgt := 24) rfl rfl ?_
    have hf := Option.some.inj hf; subst hf
    exact j_iret rfl rfl (Nat.zero_le _) (Nat.zero_le _) ⟨rfl, rfl⟩
def rX7_credit : Room := { frames := 2, cells := 0, slots := 0, locals := 42 }
def f_X7_credit (μ : mS) (x1 : Int32) : Option Int64 := (f_X7_isTown x1).bind fun r1 => if r1 = 0 then some (-1) else bif vin x1 6 then some (μ.2 28 (x1).toNatClampNeg) else none
set_option maxHeartbeats 4000000 in
set_option maxRecDepth 100000 in
theorem s_X7_credit (g : hH) (μ : mS) (x1 : Int32) (r : Int64) (hf : f_X7_credit μ x1 = some r) : SpD mX7_credit rX7_credit [.ref 5000, .int x1] (gm g μ) (some (.long r)) (gm g μ) := by
  refine sp_of miX7_credit (Nat.le_of_ble_eq_true rfl) ?_
  show J _ _ _ 0 0 _ 0 [(0, .ref 5000), (1, .int x1)] []
  unfold f_X7_credit at hf
  refine j_iload_n (pc' := 1) rfl rfl rfl ?_
  obtain ⟨r1, e1, hf⟩ := o_bind hf
  refine j_s1 (pc' := 4) rfl rfl miX7_isTown lnX7_149 (s_X7_isTown (gm g μ) x1 _ e1) (h_rm_of rfl) (Nat.le_of_ble_eq_true rfl) (c' := 0) (s' := 0) rfl rfl ?_
  refine j_if_eq (tgt := 16) (pc' := 7) rfl rfl rfl (fun c4 => ?_) (fun c4 => ?_)
  · rw [if_pos c4] at hf
    refine j_ldc2 (pc' := 19) rfl rfl kcX7_177 ?_
    have hf := Option.some.inj hf; subst hf
    exact j_lret rfl rfl (Nat.zero_le _) (Nat.zero_le _) ⟨rfl, rfl⟩
  · rw [if_neg c4] at hf
    refine j_aload_n (pc' := 8) rfl rfl rfl ?_
    refine j_get (pc' := 11) rfl rfl flX7_72 (gm_o g μ) (mF_28 μ) ?_
    refine j_iload_n (pc' := 12) rfl rfl rfl ?_
    obtain ⟨c12, hf⟩ := o_chk hf
    refine j_lald (pc' := 13) rfl rfl (gm_28 g μ) (vin_ok c12) ?_
    refine j_goto (tgt := 19) rfl rfl ?_
    have hf := Option.some.inj hf; subst hf
    exact j_lret rfl rfl (Nat.zero_le _) (Nat.zero_le _) ⟨rfl, rfl⟩
def rX7_give : Room := { frames := 2, cells := 0, slots := 0, locals := 42 }
def f_X7_give_L13 : Nat → mS → Int32 → Int32 → Int32 → Option (Int32 × mS)
  | 0, _, _, _, _ => none
  | n + 1, μ, x1, x2, x3 => if (μ.1 7 0) ≤ x3 then some (x2, μ) else bif vin x3 30 then if (μ.1 17 (x3).toNatClampNeg) = 0 then f_X7_give_L13 n μ x1 x2 (x3 + 1) else bif vin x3 30 then if (μ.1 13 (x3).toNatClampNeg) = x1 then bif vin x3 30 then letm (seti μ 17 (va_up (μ.1 17) (x3).toNatClampNeg (vp_nar .boolean 0))) fun μ49 => f_X7_give_L13 n μ49 x1 (x2 + 1) (x3 + 1) else none else f_X7_give_L13 n μ x1 x2 (x3 + 1) else none else none
set_option maxHeartbeats 4000000 in
set_option maxRecDepth 100000 in
theorem s_X7_give_L13 {Q : Option Value → hH → Prop} (g : hH) : ∀ (n : Nat) (μ : mS) (x1 : Int32) (x2 : Int32) (x3 : Int32) (r : Int32 × mS), f_X7_give_L13 n μ x1 x2 x3 = some r → (J mX7_give rX7_give Q 0 0 (gm g r.2) 59 [(2, .int r.1)] []) → J mX7_give rX7_give Q 0 0 (gm g μ) 13 [(0, .ref 5000), (1, .int x1), (2, .int x2), (3, .int x3)] [] := by
  intro n
  induction n with
  | zero =>
    intro μ x1 x2 x3 r hf
    cases hf
  | succ n ih =>
    intro μ x1 x2 x3 r hf k0
    rw [f_X7_give_L13] at hf
    refine j_iload_n (pc' := 14) rfl rfl rfl ?_
    refine j_aload_n (pc' := 15) rfl rfl rfl ?_
    refine j_get (pc' := 18) rfl rfl flX7_142 (gm_o g μ) (mF_7 μ) ?_
    refine j_icmp_ge (tgt := 59) (pc' := 21) rfl rfl rfl (fun c18 => ?_) (fun c18 => ?_)
    · rw [if_pos c18] at hf
      have hf := Option.some.inj hf; subst hf
      exact j_sub (ls' := [(2, .int _)]) ⟨rfl, trivial⟩ (k0)
    · rw [if_neg c18] at hf
      refine j_aload_n (pc' := 22) rfl rfl rfl ?_
      refine j_get (pc' := 25) rfl rfl flX7_50 (gm_o g μ) (mF_17 μ) ?_
      refine j_iload_n (pc' := 26) rfl rfl rfl ?_
      obtain ⟨c26, hf⟩ := o_chk hf
      refine j_zald (pc' := 27) rfl rfl (gm_17 g μ) (vin_ok c26) ?_
      refine j_if_eq (tgt := 53) (pc' := 30) rfl rfl rfl (fun c27 => ?_) (fun c27 => ?_)
      · rw [if_pos c27] at hf
        refine j_iinc (pc' := 56) (d := 1) (ls' := [(3, _), (0, _), (1, _), (2, _)]) rfl rfl rfl (by decide) (Nat.le_of_ble_eq_true rfl) rfl ?_
        refine j_goto (tgt := 13) rfl rfl ?_
        refine j_sub (ls' := [(0, .ref 5000), (1, .int _), (2, .int _), (3, .int _)]) ⟨rfl, rfl, rfl, rfl, trivial⟩ ?_
        exact ih _ _ _ _ _ hf k0
      · rw [if_neg c27] at hf
        refine j_aload_n (pc' := 31) rfl rfl rfl ?_
        refine j_get (pc' := 34) rfl rfl flX7_37 (gm_o g μ) (mF_13 μ) ?_
        refine j_iload_n (pc' := 35) rfl rfl rfl ?_
        obtain ⟨c35, hf⟩ := o_chk hf
        refine j_iald (pc' := 36) rfl rfl (gm_13 g μ) (vin_ok c35) ?_
        refine j_iload_n (pc' := 37) rfl rfl rfl ?_
        refine j_icmp_eq (tgt := 43) (pc' := 40) rfl rfl rfl (fun c37 => ?_) (fun c37 => ?_)
        · rw [if_pos c37] at hf
          refine j_aload_n (pc' := 44) rfl rfl rfl ?_
          refine j_get (pc' := 47) rfl rfl flX7_50 (gm_o g μ) (mF_17 μ) ?_
          refine j_iload_n (pc' := 48) rfl rfl rfl ?_
          refine j_iconst (v := 0) (pc' := 49) rfl rfl (by decide) ?_
          obtain ⟨c49, hf⟩ := o_chk hf
          obtain ⟨μ49, e49, hf⟩ := o_let hf
          refine j_zast (pc' := 50) rfl rfl (gm_17 g μ) (by decide) (vin_ok c49) ?_
          rw [gs_17]; rw [e49]
          refine j_iinc (pc' := 53) (d := 1) (ls' := [(2, _), (0, _), (1, _), (3, _)]) rfl rfl rfl (by decide) (Nat.le_of_ble_eq_true rfl) rfl ?_
          refine j_iinc (pc' := 56) (d := 1) (ls' := [(3, _), (2, _), (0, _), (1, _)]) rfl rfl rfl (by decide) (Nat.le_of_ble_eq_true rfl) rfl ?_
          refine j_goto (tgt := 13) rfl rfl ?_
          refine j_sub (ls' := [(0, .ref 5000), (1, .int _), (2, .int _), (3, .int _)]) ⟨rfl, rfl, rfl, rfl, trivial⟩ ?_
          exact ih _ _ _ _ _ hf k0
        · rw [if_neg c37] at hf
          refine j_goto (tgt := 53) rfl rfl ?_
          refine j_iinc (pc' := 56) (d := 1) (ls' := [(3, _), (0, _), (1, _), (2, _)]) rfl rfl rfl (by decide) (Nat.le_of_ble_eq_true rfl) rfl ?_
          refine j_goto (tgt := 13) rfl rfl ?_
          refine j_sub (ls' := [(0, .ref 5000), (1, .int _), (2, .int _), (3, .int _)]) ⟨rfl, rfl, rfl, rfl, trivial⟩ ?_
          exact ih _ _ _ _ _ hf k0
def f_X7_give (μ : mS) (x1 : Int32) : Option (Int32 × mS) := (f_X7_isTown x1).bind fun r1 => if r1 = 0 then some ((-1), μ) else (f_X7_give_L13 4000 μ x1 0 0).bind fun r13 => some (r13.1, r13.2)
set_option maxHeartbeats 4000000 in
set_option maxRecDepth 100000 in
theorem s_X7_give (g : hH) (μ : mS) (x1 : Int32) (r : (Int32 × mS)) (hf : f_X7_give μ x1 = some r) : SpD mX7_give rX7_give [.ref 5000, .int x1] (gm g μ) (some (.int r.1)) (gm g r.2) := by
  refine sp_of miX7_give (Nat.le_of_ble_eq_true rfl) ?_
  show J _ _ _ 0 0 _ 0 [(0, .ref 5000), (1, .int x1)] []
  unfold f_X7_give at hf
  refine j_iload_n (pc' := 1) rfl rfl rfl ?_
  obtain ⟨r1, e1, hf⟩ := o_bind hf
  refine j_s1 (pc' := 4) rfl rfl miX7_isTown lnX7_149 (s_X7_isTown (gm g μ) x1 _ e1) (h_rm_of rfl) (Nat.le_of_ble_eq_true rfl) (c' := 0) (s' := 0) rfl rfl ?_
  refine j_if_ne (tgt := 9) (pc' := 7) rfl rfl rfl (fun c4 => ?_) (fun c4 => ?_)
  · rw [if_neg c4] at hf
    refine j_iconst (v := 0) (pc' := 10) rfl rfl (by decide) ?_
    refine j_istore_n (pc' := 11) (ls' := [(2, _), (0, _), (1, _)]) rfl rfl (Nat.le_of_ble_eq_true rfl) rfl ?_
    refine j_iconst (v := 0) (pc' := 12) rfl rfl (by decide) ?_
    refine j_istore_n (pc' := 13) (ls' := [(3, _), (2, _), (0, _), (1, _)]) rfl rfl (Nat.le_of_ble_eq_true rfl) rfl ?_
    obtain ⟨r13, e13, hf⟩ := o_bind hf
    refine j_sub (ls' := [(0, .ref 5000), (1, .int x1), (2, .int 0), (3, .int 0)]) ⟨rfl, rfl, rfl, rfl, trivial⟩ ?_
    refine s_X7_give_L13 g _ _ _ _ _ _ e13 ?_
    refine j_iload_n (pc' := 60) rfl rfl rfl ?_
    have hf := Option.some.inj hf; subst hf
    exact j_iret rfl rfl (Nat.zero_le _) (Nat.zero_le _) ⟨rfl, rfl⟩
  · rw [if_pos c4] at hf
    refine j_iconst (v := (-1)) (pc' := 8) rfl rfl (by decide) ?_
    have hf := Option.some.inj hf; subst hf
    exact j_iret rfl rfl (Nat.zero_le _) (Nat.zero_le _) ⟨rfl, rfl⟩
def rX7_lack : Room := { frames := 2, cells := 0, slots := 0, locals := 50 }
def f_X7_lack_L28 : Nat → mS → Int32 → Int64 → Int32 → Option (Int64)
  | 0, _, _, _, _ => none
  | n + 1, μ, x1, x3, x5 => if (μ.1 7 0) ≤ x5 then some (x3) else (f_X7_isThere μ x5 x1).bind fun r42 => if r42 = 0 then f_X7_lack_L28 n μ x1 (x3 - 0) (x5 + 1) else (f_X7_passes μ x5 x1 (μ.1 6 0)).bind fun r56 => f_X7_lack_L28 n μ x1 (x3 - (r56).toInt64) (x5 + 1)
set_option maxHeartbeats 4000000 in
set_option maxRecDepth 100000 in
theorem s_X7_lack_L28 {Q : Option Value → hH → Prop} (g : hH) : ∀ (n : Nat) (μ : mS) (x1 : Int32) (x3 : Int64) (x5 : Int32) (r : Int64), f_X7_lack_L28 n μ x1 x3 x5 = some r → (J mX7_lack rX7_lack Q 0 0 (gm g μ) 72 [(3, .long r)] []) → J mX7_lack rX7_lack Q 0 0 (gm g μ) 28 [(0, .ref 5000), (1, .int x1), (3, .long x3), (5, .int x5)] [] := by
  intro n
  induction n with
  | zero =>
    intro μ x1 x3 x5 r hf
    cases hf
  | succ n ih =>
    intro μ x1 x3 x5 r hf k0
    rw [f_X7_lack_L28] at hf
    refine j_iload (pc' := 30) rfl rfl rfl ?_
    refine j_aload_n (pc' := 31) rfl rfl rfl ?_
    refine j_get (pc' := 34) rfl rfl flX7_142 (gm_o g μ) (mF_7 μ) ?_
    refine j_icmp_ge (tgt := 72) (pc' := 37) rfl rfl rfl (fun c34 => ?_) (fun c34 => ?_)
    · rw [if_pos c34] at hf
      have hf := Option.some.inj hf; subst hf
      exact j_sub (ls' := [(3, .long _)]) ⟨rfl, trivial⟩ (k0)
    · rw [if_neg c34] at hf
      refine j_lload_n (pc' := 38) rfl rfl rfl ?_
      refine j_aload_n (pc' := 39) rfl rfl rfl ?_
      refine j_iload (pc' := 41) rfl rfl rfl ?_
      refine j_iload_n (pc' := 42) rfl rfl rfl ?_
      obtain ⟨r42, e42, hf⟩ := o_bind hf
      refine j_v2 (pc' := 45) rfl rfl miX7_isThere lnX7_229 (gm_o g μ) rfl (s_X7_isThere g μ x5 x1 _ e42) (h_rm_of rfl) (Nat.le_of_ble_eq_true rfl) (c' := 0) (s' := 0) rfl rfl ?_
      refine j_if_eq (tgt := 63) (pc' := 48) rfl rfl rfl (fun c45 => ?_) (fun c45 => ?_)
      · rw [if_pos c45] at hf
        refine j_lconst (v := 0) (pc' := 64) rfl rfl (by decide) ?_
        refine j_lsub (pc' := 65) rfl rfl ?_
        refine j_lstore_n (pc' := 66) (ls' := [(3, _), (0, _), (1, _), (5, _)]) rfl rfl (Nat.le_of_ble_eq_true rfl) rfl ?_
        refine j_iinc (pc' := 69) (d := 1) (ls' := [(5, _), (3, _), (0, _), (1, _)]) rfl rfl rfl (by decide) (Nat.le_of_ble_eq_true rfl) rfl ?_
        refine j_goto (tgt := 28) rfl rfl ?_
        refine j_sub (ls' := [(0, .ref 5000), (1, .int _), (3, .long _), (5, .int _)]) ⟨rfl, rfl, rfl, rfl, trivial⟩ ?_
        exact ih _ _ _ _ _ hf k0
      · rw [if_neg c45] at hf
        refine j_aload_n (pc' := 49) rfl rfl rfl ?_
        refine j_iload (pc' := 51) rfl rfl rfl ?_
        refine j_iload_n (pc' := 52) rfl rfl rfl ?_
        refine j_aload_n (pc' := 53) rfl rfl rfl ?_
        refine j_get (pc' := 56) rfl rfl flX7_167 (gm_o g μ) (mF_6 μ) ?_
        obtain ⟨r56, e56, hf⟩ := o_bind hf
        refine j_v3 (pc' := 59) rfl rfl miX7_passes lnX7_218 (gm_o g μ) rfl (s_X7_passes g μ x5 x1 (μ.1 6 0) _ e56) (h_rm_of rfl) (Nat.le_of_ble_eq_true rfl) (c' := 0) (s' := 0) rfl rfl ?_
        refine j_i2l (pc' := 60) rfl rfl ?_
        refine j_goto (tgt := 64) rfl rfl ?_
        refine j_lsub (pc' := 65) rfl rfl ?_
        refine j_lstore_n (pc' := 66) (ls' := [(3, _), (0, _), (1, _), (5, _)]) rfl rfl (Nat.le_of_ble_eq_true rfl) rfl ?_
        refine j_iinc (pc' := 69) (d := 1) (ls' := [(5, _), (3, _), (0, _), (1, _)]) rfl rfl rfl (by decide) (Nat.le_of_ble_eq_true rfl) rfl ?_
        refine j_goto (tgt := 28) rfl rfl ?_
        refine j_sub (ls' := [(0, .ref 5000), (1, .int _), (3, .long _), (5, .int _)]) ⟨rfl, rfl, rfl, rfl, trivial⟩ ?_
        exact ih _ _ _ _ _ hf k0
def f_X7_lack (μ : mS) (x1 : Int32) (x2 : Int32) : Option Int32 := (f_X7_isTown x1).bind fun r1 => if r1 = 0 then some (-1) else (f_X7_in x2 0 100000).bind fun r13 => if r13 = 0 then some (-2) else (f_X7_lack_L28 4000 μ x1 ((x2).toInt64) 0).bind fun r28 => if 0 ≤ (lg_cmp r28 0) then some ((r28).toInt32) else some 0
set_option maxHeartbeats 4000000 in
set_option maxRecDepth 100000 in
theorem s_X7_lack (g : hH) (μ : mS) (x1 : Int32) (x2 : Int32) (r : Int32) (hf : f_X7_lack μ x1 x2 = some r) : SpD mX7_lack rX7_lack [.ref 5000, .int x1, .int x2] (gm g μ) (some (.int r)) (gm g μ) := by
  refine sp_of miX7_lack (Nat.le_of_ble_eq_true rfl) ?_
  show J _ _ _ 0 0 _ 0 [(0, .ref 5000), (1, .int x1), (2, .int x2)] []
  unfold f_X7_lack at hf
  refine j_iload_n (pc' := 1) rfl rfl rfl ?_
  obtain ⟨r1, e1, hf⟩ := o_bind hf
  refine j_s1 (pc' := 4) rfl rfl miX7_isTown lnX7_149 (s_X7_isTown (gm g μ) x1 _ e1) (h_rm_of rfl) (Nat.le_of_ble_eq_true rfl) (c' := 0) (s' := 0) rfl rfl ?_
  refine j_if_ne (tgt := 9) (pc' := 7) rfl rfl rfl (fun c4 => ?_) (fun c4 => ?_)
  · rw [if_neg c4] at hf
    refine j_iload_n (pc' := 10) rfl rfl rfl ?_
    refine j_iconst (v := 0) (pc' := 11) rfl rfl (by decide) ?_
    refine j_ldc (pc' := 13) rfl rfl kcX7_100 ?_
    obtain ⟨r13, e13, hf⟩ := o_bind hf
    refine j_s3 (pc' := 16) rfl rfl miX7_in lnX7_138 (s_X7_in (gm g μ) x2 0 100000 _ e13) (h_rm_of rfl) (Nat.le_of_ble_eq_true rfl) (c' := 0) (s' := 0) rfl rfl ?_
    refine j_if_ne (tgt := 22) (pc' := 19) rfl rfl rfl (fun c16 => ?_) (fun c16 => ?_)
    · rw [if_neg c16] at hf
      refine j_iload_n (pc' := 23) rfl rfl rfl ?_
      refine j_i2l (pc' := 24) rfl rfl ?_
      refine j_lstore_n (pc' := 25) (ls' := [(3, _), (0, _), (1, _), (2, _)]) rfl rfl (Nat.le_of_ble_eq_true rfl) rfl ?_
      refine j_iconst (v := 0) (pc' := 26) rfl rfl (by decide) ?_
      refine j_istore (pc' := 28) (ls' := [(5, _), (3, _), (0, _), (1, _), (2, _)]) rfl rfl (Nat.le_of_ble_eq_true rfl) rfl ?_
      obtain ⟨r28, e28, hf⟩ := o_bind hf
      refine j_sub (ls' := [(0, .ref 5000), (1, .int x1), (3, .long (x2).toInt64), (5, .int 0)]) ⟨rfl, rfl, rfl, rfl, trivial⟩ ?_
      refine s_X7_lack_L28 g _ _ _ _ _ _ e28 ?_
      refine j_lload_n (pc' := 73) rfl rfl rfl ?_
      refine j_lconst (v := 0) (pc' := 74) rfl rfl (by decide) ?_
      refine j_lcmp (pc' := 75) rfl rfl ?_
      refine j_if_ge (tgt := 82) (pc' := 78) rfl rfl rfl (fun c75 => ?_) (fun c75 => ?_)
      · rw [if_pos c75] at hf
        refine j_lload_n (pc' := 83) rfl rfl rfl ?_
        refine j_l2i (pc' := 84) rfl rfl ?_
        have hf := Option.some.inj hf; subst hf
        exact j_iret rfl rfl (Nat.zero_le _) (Nat.zero_le _) ⟨rfl, rfl⟩
      · rw [if_neg c75] at hf
        refine j_iconst (v := 0) (pc' := 79) rfl rfl (by decide) ?_
        refine j_goto (tgt := 84) rfl rfl ?_
        have hf := Option.some.inj hf; subst hf
        exact j_iret rfl rfl (Nat.zero_le _) (Nat.zero_le _) ⟨rfl, rfl⟩
    · rw [if_pos c16] at hf
      refine j_bipush (v := (-2)) (pc' := 21) rfl rfl (by decide) ?_
      have hf := Option.some.inj hf; subst hf
      exact j_iret rfl rfl (Nat.zero_le _) (Nat.zero_le _) ⟨rfl, rfl⟩
  · rw [if_pos c4] at hf
    refine j_iconst (v := (-1)) (pc' := 8) rfl rfl (by decide) ?_
    have hf := Option.some.inj hf; subst hf
    exact j_iret rfl rfl (Nat.zero_le _) (Nat.zero_le _) ⟨rfl, rfl⟩
def rX7_road : Room := { frames := 2, cells := 0, slots := 0, locals := 42 }
def f_X7_road (μ : mS) (x1 : Int32) (x2 : Int32) (x3 : Int32) : Option (Int32 × mS) := (f_X7_isTown x1).bind fun r1 => if r1 = 0 then some ((-1), μ) else (f_X7_isMint x2).bind fun r8 => if r8 = 0 then some ((-1), μ) else (f_X7_in x3 1 30).bind fun r20 => if r20 = 0 then some ((-2), μ) else bif vin ((3 * x1) + x2) 18 then letm (μ.1 32 (((3 * x1) + x2)).toNatClampNeg) fun y39 => bif vin ((3 * x1) + x2) 18 then letm (seti μ 32 (va_up (μ.1 32) (((3 * x1) + x2)).toNatClampNeg x3)) fun μ51 => some (y39, μ51) else none else none
set_option maxHeartbeats 4000000 in
set_option maxRecDepth 100000 in
theorem s_X7_road (g : hH) (μ : mS) (x1 : Int32) (x2 : Int32) (x3 : Int32) (r : (Int32 × mS)) (hf : f_X7_road μ x1 x2 x3 = some r) : SpD mX7_road rX7_road [.ref 5000, .int x1, .int x2, .int x3] (gm g μ) (some (.int r.1)) (gm g r.2) := by
  refine sp_of miX7_road (Nat.le_of_ble_eq_true rfl) ?_
  show J _ _ _ 0 0 _ 0 [(0, .ref 5000), (1, .int x1), (2, .int x2), (3, .int x3)] []
  unfold f_X7_road at hf
  refine j_iload_n (pc' := 1) rfl rfl rfl ?_
  obtain ⟨r1, e1, hf⟩ := o_bind hf
  refine j_s1 (pc' := 4) rfl rfl miX7_isTown lnX7_149 (s_X7_isTown (gm g μ) x1 _ e1) (h_rm_of rfl) (Nat.le_of_ble_eq_true rfl) (c' := 0) (s' := 0) rfl rfl ?_
  refine j_if_eq (tgt := 14) (pc' := 7) rfl rfl rfl (fun c4 => ?_) (fun c4 => ?_)
  · rw [if_pos c4] at hf
    refine j_iconst (v := (-1)) (pc' := 15) rfl rfl (by decide) ?_
    have hf := Option.some.inj hf; subst hf
    exact j_iret rfl rfl (Nat.zero_le _) (Nat.zero_le _) ⟨rfl, rfl⟩
  · rw [if_neg c4] at hf
    refine j_iload_n (pc' := 8) rfl rfl rfl ?_
    obtain ⟨r8, e8, hf⟩ := o_bind hf
    refine j_s1 (pc' := 11) rfl rfl miX7_isMint lnX7_238 (s_X7_isMint (gm g μ) x2 _ e8) (h_rm_of rfl) (Nat.le_of_ble_eq_true rfl) (c' := 0) (s' := 0) rfl rfl ?_
    refine j_if_ne (tgt := 16) (pc' := 14) rfl rfl rfl (fun c11 => ?_) (fun c11 => ?_)
    · rw [if_neg c11] at hf
      refine j_iload_n (pc' := 17) rfl rfl rfl ?_
      refine j_iconst (v := 1) (pc' := 18) rfl rfl (by decide) ?_
      refine j_bipush (v := 30) (pc' := 20) rfl rfl (by decide) ?_
      obtain ⟨r20, e20, hf⟩ := o_bind hf
      refine j_s3 (pc' := 23) rfl rfl miX7_in lnX7_138 (s_X7_in (gm g μ) x3 1 30 _ e20) (h_rm_of rfl) (Nat.le_of_ble_eq_true rfl) (c' := 0) (s' := 0) rfl rfl ?_
      refine j_if_ne (tgt := 29) (pc' := 26) rfl rfl rfl (fun c23 => ?_) (fun c23 => ?_)
      · rw [if_neg c23] at hf
        refine j_aload_n (pc' := 30) rfl rfl rfl ?_
        refine j_get (pc' := 33) rfl rfl flX7_82 (gm_o g μ) (mF_32 μ) ?_
        refine j_iconst (v := 3) (pc' := 34) rfl rfl (by decide) ?_
        refine j_iload_n (pc' := 35) rfl rfl rfl ?_
        refine j_imul (pc' := 36) rfl rfl ?_
        refine j_iload_n (pc' := 37) rfl rfl rfl ?_
        refine j_iadd (pc' := 38) rfl rfl ?_
        obtain ⟨c38, hf⟩ := o_chk hf
        refine j_iald (pc' := 39) rfl rfl (gm_32 g μ) (vin_ok c38) ?_
        obtain ⟨y39, e39, hf⟩ := o_let hf
        rw [e39]
        refine j_istore (pc' := 41) (ls' := [(4, _), (0, _), (1, _), (2, _), (3, _)]) rfl rfl (Nat.le_of_ble_eq_true rfl) rfl ?_
        refine j_aload_n (pc' := 42) rfl rfl rfl ?_
        refine j_get (pc' := 45) rfl rfl flX7_82 (gm_o g μ) (mF_32 μ) ?_
        refine j_iconst (v := 3) (pc' := 46) rfl rfl (by decide) ?_
        refine j_iload_n (pc' := 47) rfl rfl rfl ?_
        refine j_imul (pc' := 48) rfl rfl ?_
        refine j_iload_n (pc' := 49) rfl rfl rfl ?_
        refine j_iadd (pc' := 50) rfl rfl ?_
        refine j_iload_n (pc' := 51) rfl rfl rfl ?_
        obtain ⟨c51, hf⟩ := o_chk hf
        obtain ⟨μ51, e51, hf⟩ := o_let hf
        refine j_iast (pc' := 52) rfl rfl (gm_32 g μ) (by decide) (vin_ok c51) ?_
        rw [gs_32]; rw [e51]
        refine j_iload (pc' := 54) rfl rfl rfl ?_
        have hf := Option.some.inj hf; subst hf
        exact j_iret rfl rfl (Nat.zero_le _) (Nat.zero_le _) ⟨rfl, rfl⟩
      · rw [if_pos c23] at hf
        refine j_bipush (v := (-2)) (pc' := 28) rfl rfl (by decide) ?_
        have hf := Option.some.inj hf; subst hf
        exact j_iret rfl rfl (Nat.zero_le _) (Nat.zero_le _) ⟨rfl, rfl⟩
    · rw [if_pos c11] at hf
      refine j_iconst (v := (-1)) (pc' := 15) rfl rfl (by decide) ?_
      have hf := Option.some.inj hf; subst hf
      exact j_iret rfl rfl (Nat.zero_le _) (Nat.zero_le _) ⟨rfl, rfl⟩
def rX7_send : Room := { frames := 2, cells := 0, slots := 0, locals := 43 }
def f_X7_send (μ : mS) (x1 : Int32) (x2 : Int32) : Option (Int32 × mS) := (f_X7_isLot μ x1).bind fun r2 => if r2 = 0 then some ((-1), μ) else (f_X7_isMint x2).bind fun r9 => if r9 = 0 then some ((-1), μ) else bif vin x1 30 then if (μ.1 13 (x1).toNatClampNeg) < 0 then some ((-3), μ) else (f_X7_isUnderWay μ x1).bind fun r28 => if r28 = 0 then bif vin x1 30 then if (μ.1 16 (x1).toNatClampNeg) = 0 then bif vin x1 30 then if (μ.1 17 (x1).toNatClampNeg) = 0 then bif vin x1 30 then bif vin ((3 * (μ.1 13 (x1).toNatClampNeg)) + x2) 18 then bif vin x1 30 then letm (seti μ 15 (va_up (μ.1 15) (x1).toNatClampNeg ((μ.1 6 0) + (μ.1 32 (((3 * (μ.1 13 (x1).toNatClampNeg)) + x2)).toNatClampNeg)))) fun μ80 => bif vin x1 30 then letm (seti μ80 13 (va_up (μ80.1 13) (x1).toNatClampNeg (-1))) fun μ87 => bif vin x1 30 then letm (seti μ87 14 (va_up (μ87.1 14) (x1).toNatClampNeg x2)) fun μ94 => bif vin x1 30 then some ((μ94.1 15 (x1).toNatClampNeg), μ94) else none else none else none else none else none else none else some ((-3), μ) else none else some ((-3), μ) else none else some ((-3), μ) else none
set_option maxHeartbeats 4000000 in
set_option maxRecDepth 100000 in
theorem s_X7_send (g : hH) (μ : mS) (x1 : Int32) (x2 : Int32) (r : (Int32 × mS)) (hf : f_X7_send μ x1 x2 = some r) : SpD mX7_send rX7_send [.ref 5000, .int x1, .int x2] (gm g μ) (some (.int r.1)) (gm g r.2) := by
  refine sp_of miX7_send (Nat.le_of_ble_eq_true rfl) ?_
  show J _ _ _ 0 0 _ 0 [(0, .ref 5000), (1, .int x1), (2, .int x2)] []
  unfold f_X7_send at hf
  refine j_aload_n (pc' := 1) rfl rfl rfl ?_
  refine j_iload_n (pc' := 2) rfl rfl rfl ?_
  obtain ⟨r2, e2, hf⟩ := o_bind hf
  refine j_v1 (pc' := 5) rfl rfl miX7_isLot lnX7_160 (gm_o g μ) rfl (s_X7_isLot g μ x1 _ e2) (h_rm_of rfl) (Nat.le_of_ble_eq_true rfl) (c' := 0) (s' := 0) rfl rfl ?_
  refine j_if_eq (tgt := 15) (pc' := 8) rfl rfl rfl (fun c5 => ?_) (fun c5 => ?_)
  · rw [if_pos c5] at hf
    refine j_iconst (v := (-1)) (pc' := 16) rfl rfl (by decide) ?_
    have hf := Option.some.inj hf; subst hf
    exact j_iret rfl rfl (Nat.zero_le _) (Nat.zero_le _) ⟨rfl, rfl⟩
  · rw [if_neg c5] at hf
    refine j_iload_n (pc' := 9) rfl rfl rfl ?_
    obtain ⟨r9, e9, hf⟩ := o_bind hf
    refine j_s1 (pc' := 12) rfl rfl miX7_isMint lnX7_238 (s_X7_isMint (gm g μ) x2 _ e9) (h_rm_of rfl) (Nat.le_of_ble_eq_true rfl) (c' := 0) (s' := 0) rfl rfl ?_
    refine j_if_ne (tgt := 17) (pc' := 15) rfl rfl rfl (fun c12 => ?_) (fun c12 => ?_)
    · rw [if_neg c12] at hf
      refine j_aload_n (pc' := 18) rfl rfl rfl ?_
      refine j_get (pc' := 21) rfl rfl flX7_37 (gm_o g μ) (mF_13 μ) ?_
      refine j_iload_n (pc' := 22) rfl rfl rfl ?_
      obtain ⟨c22, hf⟩ := o_chk hf
      refine j_iald (pc' := 23) rfl rfl (gm_13 g μ) (vin_ok c22) ?_
      refine j_if_lt (tgt := 52) (pc' := 26) rfl rfl rfl (fun c23 => ?_) (fun c23 => ?_)
      · rw [if_pos c23] at hf
        refine j_bipush (v := (-3)) (pc' := 54) rfl rfl (by decide) ?_
        have hf := Option.some.inj hf; subst hf
        exact j_iret rfl rfl (Nat.zero_le _) (Nat.zero_le _) ⟨rfl, rfl⟩
      · rw [if_neg c23] at hf
        refine j_aload_n (pc' := 27) rfl rfl rfl ?_
        refine j_iload_n (pc' := 28) rfl rfl rfl ?_
        obtain ⟨r28, e28, hf⟩ := o_bind hf
        refine j_v1 (pc' := 31) rfl rfl miX7_isUnderWay lnX7_170 (gm_o g μ) rfl (s_X7_isUnderWay g μ x1 _ e28) (h_rm_of rfl) (Nat.le_of_ble_eq_true rfl) (c' := 0) (s' := 0) rfl rfl ?_
        refine j_if_ne (tgt := 52) (pc' := 34) rfl rfl rfl (fun c31 => ?_) (fun c31 => ?_)
        · rw [if_neg c31] at hf
          refine j_bipush (v := (-3)) (pc' := 54) rfl rfl (by decide) ?_
          have hf := Option.some.inj hf; subst hf
          exact j_iret rfl rfl (Nat.zero_le _) (Nat.zero_le _) ⟨rfl, rfl⟩
        · rw [if_pos c31] at hf
          refine j_aload_n (pc' := 35) rfl rfl rfl ?_
          refine j_get (pc' := 38) rfl rfl flX7_46 (gm_o g μ) (mF_16 μ) ?_
          refine j_iload_n (pc' := 39) rfl rfl rfl ?_
          obtain ⟨c39, hf⟩ := o_chk hf
          refine j_zald (pc' := 40) rfl rfl (gm_16 g μ) (vin_ok c39) ?_
          refine j_if_ne (tgt := 52) (pc' := 43) rfl rfl rfl (fun c40 => ?_) (fun c40 => ?_)
          · rw [if_neg c40] at hf
            refine j_bipush (v := (-3)) (pc' := 54) rfl rfl (by decide) ?_
            have hf := Option.some.inj hf; subst hf
            exact j_iret rfl rfl (Nat.zero_le _) (Nat.zero_le _) ⟨rfl, rfl⟩
          · rw [if_pos c40] at hf
            refine j_aload_n (pc' := 44) rfl rfl rfl ?_
            refine j_get (pc' := 47) rfl rfl flX7_50 (gm_o g μ) (mF_17 μ) ?_
            refine j_iload_n (pc' := 48) rfl rfl rfl ?_
            obtain ⟨c48, hf⟩ := o_chk hf
            refine j_zald (pc' := 49) rfl rfl (gm_17 g μ) (vin_ok c48) ?_
            refine j_if_eq (tgt := 55) (pc' := 52) rfl rfl rfl (fun c49 => ?_) (fun c49 => ?_)
            · rw [if_pos c49] at hf
              refine j_aload_n (pc' := 56) rfl rfl rfl ?_
              refine j_get (pc' := 59) rfl rfl flX7_43 (gm_o g μ) (mF_15 μ) ?_
              refine j_iload_n (pc' := 60) rfl rfl rfl ?_
              refine j_aload_n (pc' := 61) rfl rfl rfl ?_
              refine j_get (pc' := 64) rfl rfl flX7_167 (gm_o g μ) (mF_6 μ) ?_
              refine j_aload_n (pc' := 65) rfl rfl rfl ?_
              refine j_get (pc' := 68) rfl rfl flX7_82 (gm_o g μ) (mF_32 μ) ?_
              refine j_iconst (v := 3) (pc' := 69) rfl rfl (by decide) ?_
              refine j_aload_n (pc' := 70) rfl rfl rfl ?_
              refine j_get (pc' := 73) rfl rfl flX7_37 (gm_o g μ) (mF_13 μ) ?_
              refine j_iload_n (pc' := 74) rfl rfl rfl ?_
              obtain ⟨c74, hf⟩ := o_chk hf
              refine j_iald (pc' := 75) rfl rfl (gm_13 g μ) (vin_ok c74) ?_
              refine j_imul (pc' := 76) rfl rfl ?_
              refine j_iload_n (pc' := 77) rfl rfl rfl ?_
              refine j_iadd (pc' := 78) rfl rfl ?_
              obtain ⟨c78, hf⟩ := o_chk hf
              refine j_iald (pc' := 79) rfl rfl (gm_32 g μ) (vin_ok c78) ?_
              refine j_iadd (pc' := 80) rfl rfl ?_
              obtain ⟨c80, hf⟩ := o_chk hf
              obtain ⟨μ80, e80, hf⟩ := o_let hf
              refine j_iast (pc' := 81) rfl rfl (gm_15 g μ) (by decide) (vin_ok c80) ?_
              rw [gs_15]; rw [e80]
              refine j_aload_n (pc' := 82) rfl rfl rfl ?_
              refine j_get (pc' := 85) rfl rfl flX7_37 (gm_o g μ80) (mF_13 μ80) ?_
              refine j_iload_n (pc' := 86) rfl rfl rfl ?_
              refine j_iconst (v := (-1)) (pc' := 87) rfl rfl (by decide) ?_
              obtain ⟨c87, hf⟩ := o_chk hf
              obtain ⟨μ87, e87, hf⟩ := o_let hf
              refine j_iast (pc' := 88) rfl rfl (gm_13 g μ80) (by decide) (vin_ok c87) ?_
              rw [gs_13]; rw [e87]
              refine j_aload_n (pc' := 89) rfl rfl rfl ?_
              refine j_get (pc' := 92) rfl rfl flX7_40 (gm_o g μ87) (mF_14 μ87) ?_
              refine j_iload_n (pc' := 93) rfl rfl rfl ?_
              refine j_iload_n (pc' := 94) rfl rfl rfl ?_
              obtain ⟨c94, hf⟩ := o_chk hf
              obtain ⟨μ94, e94, hf⟩ := o_let hf
              refine j_iast (pc' := 95) rfl rfl (gm_14 g μ87) (by decide) (vin_ok c94) ?_
              rw [gs_14]; rw [e94]
              refine j_aload_n (pc' := 96) rfl rfl rfl ?_
              refine j_get (pc' := 99) rfl rfl flX7_43 (gm_o g μ94) (mF_15 μ94) ?_
              refine j_iload_n (pc' := 100) rfl rfl rfl ?_
              obtain ⟨c100, hf⟩ := o_chk hf
              refine j_iald (pc' := 101) rfl rfl (gm_15 g μ94) (vin_ok c100) ?_
              have hf := Option.some.inj hf; subst hf
              exact j_iret rfl rfl (Nat.zero_le _) (Nat.zero_le _) ⟨rfl, rfl⟩
            · rw [if_neg c49] at hf
              refine j_bipush (v := (-3)) (pc' := 54) rfl rfl (by decide) ?_
              have hf := Option.some.inj hf; subst hf
              exact j_iret rfl rfl (Nat.zero_le _) (Nat.zero_le _) ⟨rfl, rfl⟩
    · rw [if_pos c12] at hf
      refine j_iconst (v := (-1)) (pc' := 16) rfl rfl (by decide) ?_
      have hf := Option.some.inj hf; subst hf
      exact j_iret rfl rfl (Nat.zero_le _) (Nat.zero_le _) ⟨rfl, rfl⟩
def rX7_bring : Room := { frames := 2, cells := 0, slots := 0, locals := 43 }
def f_X7_bring (μ : mS) (x1 : Int32) (x2 : Int32) : Option (Int32 × mS) := (f_X7_isLot μ x1).bind fun r2 => if r2 = 0 then some ((-1), μ) else (f_X7_isTown x2).bind fun r9 => if r9 = 0 then some ((-1), μ) else (f_X7_isAtMint μ x1).bind fun r19 => if r19 = 0 then some ((-3), μ) else bif vin x1 30 then bif vin ((3 * x2) + (μ.1 14 (x1).toNatClampNeg)) 18 then bif vin x1 30 then letm (seti μ 15 (va_up (μ.1 15) (x1).toNatClampNeg ((μ.1 6 0) + (μ.1 32 (((3 * x2) + (μ.1 14 (x1).toNatClampNeg))).toNatClampNeg)))) fun μ53 => bif vin x1 30 then letm (seti μ53 14 (va_up (μ53.1 14) (x1).toNatClampNeg (-1))) fun μ60 => bif vin x1 30 then letm (seti μ60 13 (va_up (μ60.1 13) (x1).toNatClampNeg x2)) fun μ67 => bif vin x1 30 then some ((μ67.1 15 (x1).toNatClampNeg), μ67) else none else none else none else none else none else none
set_option maxHeartbeats 4000000 in
set_option maxRecDepth 100000 in
theorem s_X7_bring (g : hH) (μ : mS) (x1 : Int32) (x2 : Int32) (r : (Int32 × mS)) (hf : f_X7_bring μ x1 x2 = some r) : SpD mX7_bring rX7_bring [.ref 5000, .int x1, .int x2] (gm g μ) (some (.int r.1)) (gm g r.2) := by
  refine sp_of miX7_bring (Nat.le_of_ble_eq_true rfl) ?_
  show J _ _ _ 0 0 _ 0 [(0, .ref 5000), (1, .int x1), (2, .int x2)] []
  unfold f_X7_bring at hf
  refine j_aload_n (pc' := 1) rfl rfl rfl ?_
  refine j_iload_n (pc' := 2) rfl rfl rfl ?_
  obtain ⟨r2, e2, hf⟩ := o_bind hf
  refine j_v1 (pc' := 5) rfl rfl miX7_isLot lnX7_160 (gm_o g μ) rfl (s_X7_isLot g μ x1 _ e2) (h_rm_of rfl) (Nat.le_of_ble_eq_true rfl) (c' := 0) (s' := 0) rfl rfl ?_
  refine j_if_eq (tgt := 15) (pc' := 8) rfl rfl rfl (fun c5 => ?_) (fun c5 => ?_)
  · rw [if_pos c5] at hf
    refine j_iconst (v := (-1)) (pc' := 16) rfl rfl (by decide) ?_
    have hf := Option.some.inj hf; subst hf
    exact j_iret rfl rfl (Nat.zero_le _) (Nat.zero_le _) ⟨rfl, rfl⟩
  · rw [if_neg c5] at hf
    refine j_iload_n (pc' := 9) rfl rfl rfl ?_
    obtain ⟨r9, e9, hf⟩ := o_bind hf
    refine j_s1 (pc' := 12) rfl rfl miX7_isTown lnX7_149 (s_X7_isTown (gm g μ) x2 _ e9) (h_rm_of rfl) (Nat.le_of_ble_eq_true rfl) (c' := 0) (s' := 0) rfl rfl ?_
    refine j_if_ne (tgt := 17) (pc' := 15) rfl rfl rfl (fun c12 => ?_) (fun c12 => ?_)
    · rw [if_neg c12] at hf
      refine j_aload_n (pc' := 18) rfl rfl rfl ?_
      refine j_iload_n (pc' := 19) rfl rfl rfl ?_
      obtain ⟨r19, e19, hf⟩ := o_bind hf
      refine j_v1 (pc' := 22) rfl rfl miX7_isAtMint lnX7_241 (gm_o g μ) rfl (s_X7_isAtMint g μ x1 _ e19) (h_rm_of rfl) (Nat.le_of_ble_eq_true rfl) (c' := 0) (s' := 0) rfl rfl ?_
      refine j_if_ne (tgt := 28) (pc' := 25) rfl rfl rfl (fun c22 => ?_) (fun c22 => ?_)
      · rw [if_neg c22] at hf
        refine j_aload_n (pc' := 29) rfl rfl rfl ?_
        refine j_get (pc' := 32) rfl rfl flX7_43 (gm_o g μ) (mF_15 μ) ?_
        refine j_iload_n (pc' := 33) rfl rfl rfl ?_
        refine j_aload_n (pc' := 34) rfl rfl rfl ?_
        refine j_get (pc' := 37) rfl rfl flX7_167 (gm_o g μ) (mF_6 μ) ?_
        refine j_aload_n (pc' := 38) rfl rfl rfl ?_
        refine j_get (pc' := 41) rfl rfl flX7_82 (gm_o g μ) (mF_32 μ) ?_
        refine j_iconst (v := 3) (pc' := 42) rfl rfl (by decide) ?_
        refine j_iload_n (pc' := 43) rfl rfl rfl ?_
        refine j_imul (pc' := 44) rfl rfl ?_
        refine j_aload_n (pc' := 45) rfl rfl rfl ?_
        refine j_get (pc' := 48) rfl rfl flX7_40 (gm_o g μ) (mF_14 μ) ?_
        refine j_iload_n (pc' := 49) rfl rfl rfl ?_
        obtain ⟨c49, hf⟩ := o_chk hf
        refine j_iald (pc' := 50) rfl rfl (gm_14 g μ) (vin_ok c49) ?_
        refine j_iadd (pc' := 51) rfl rfl ?_
        obtain ⟨c51, hf⟩ := o_chk hf
        refine j_iald (pc' := 52) rfl rfl (gm_32 g μ) (vin_ok c51) ?_
        refine j_iadd (pc' := 53) rfl rfl ?_
        obtain ⟨c53, hf⟩ := o_chk hf
        obtain ⟨μ53, e53, hf⟩ := o_let hf
        refine j_iast (pc' := 54) rfl rfl (gm_15 g μ) (by decide) (vin_ok c53) ?_
        rw [gs_15]; rw [e53]
        refine j_aload_n (pc' := 55) rfl rfl rfl ?_
        refine j_get (pc' := 58) rfl rfl flX7_40 (gm_o g μ53) (mF_14 μ53) ?_
        refine j_iload_n (pc' := 59) rfl rfl rfl ?_
        refine j_iconst (v := (-1)) (pc' := 60) rfl rfl (by decide) ?_
        obtain ⟨c60, hf⟩ := o_chk hf
        obtain ⟨μ60, e60, hf⟩ := o_let hf
        refine j_iast (pc' := 61) rfl rfl (gm_14 g μ53) (by decide) (vin_ok c60) ?_
        rw [gs_14]; rw [e60]
        refine j_aload_n (pc' := 62) rfl rfl rfl ?_
        refine j_get (pc' := 65) rfl rfl flX7_37 (gm_o g μ60) (mF_13 μ60) ?_
        refine j_iload_n (pc' := 66) rfl rfl rfl ?_
        refine j_iload_n (pc' := 67) rfl rfl rfl ?_
        obtain ⟨c67, hf⟩ := o_chk hf
        obtain ⟨μ67, e67, hf⟩ := o_let hf
        refine j_iast (pc' := 68) rfl rfl (gm_13 g μ60) (by decide) (vin_ok c67) ?_
        rw [gs_13]; rw [e67]
        refine j_aload_n (pc' := 69) rfl rfl rfl ?_
        refine j_get (pc' := 72) rfl rfl flX7_43 (gm_o g μ67) (mF_15 μ67) ?_
        refine j_iload_n (pc' := 73) rfl rfl rfl ?_
        obtain ⟨c73, hf⟩ := o_chk hf
        refine j_iald (pc' := 74) rfl rfl (gm_15 g μ67) (vin_ok c73) ?_
        have hf := Option.some.inj hf; subst hf
        exact j_iret rfl rfl (Nat.zero_le _) (Nat.zero_le _) ⟨rfl, rfl⟩
      · rw [if_pos c22] at hf
        refine j_bipush (v := (-3)) (pc' := 27) rfl rfl (by decide) ?_
        have hf := Option.some.inj hf; subst hf
        exact j_iret rfl rfl (Nat.zero_le _) (Nat.zero_le _) ⟨rfl, rfl⟩
    · rw [if_pos c12] at hf
      refine j_iconst (v := (-1)) (pc' := 16) rfl rfl (by decide) ?_
      have hf := Option.some.inj hf; subst hf
      exact j_iret rfl rfl (Nat.zero_le _) (Nat.zero_le _) ⟨rfl, rfl⟩
def rX7_melt : Room := { frames := 2, cells := 0, slots := 0, locals := 43 }
def f_X7_melt_L33 : Nat → mS → Int32 → Int32 → Option (mS)
  | 0, _, _, _ => none
  | n + 1, μ, x1, x2 => if (μ.1 7 0) ≤ x2 then some (μ) else bif vin x2 30 then if (μ.1 18 (x2).toNatClampNeg) = 0 then bif vin x2 30 then if (μ.1 8 (x2).toNatClampNeg) = 5 then bif vin x2 30 then bif vin x1 30 then if (μ.1 9 (x2).toNatClampNeg) = (μ.1 9 (x1).toNatClampNeg) then bif vin x2 30 then letm (seti μ 18 (va_up (μ.1 18) (x2).toNatClampNeg (vp_nar .boolean 1))) fun μ85 => f_X7_melt_L33 n μ85 x1 (x2 + 1) else none else bif vin x2 30 then letm (seti μ 18 (va_up (μ.1 18) (x2).toNatClampNeg (vp_nar .boolean 0))) fun μ85 => f_X7_melt_L33 n μ85 x1 (x2 + 1) else none else none else none else bif vin x2 30 then letm (seti μ 18 (va_up (μ.1 18) (x2).toNatClampNeg (vp_nar .boolean 0))) fun μ85 => f_X7_melt_L33 n μ85 x1 (x2 + 1) else none else none else bif vin x2 30 then letm (seti μ 18 (va_up (μ.1 18) (x2).toNatClampNeg (vp_nar .boolean 1))) fun μ85 => f_X7_melt_L33 n μ85 x1 (x2 + 1) else none else none
set_option maxHeartbeats 4000000 in
set_option maxRecDepth 100000 in
theorem s_X7_melt_L33 {Q : Option Value → hH → Prop} (g : hH) : ∀ (n : Nat) (μ : mS) (x1 : Int32) (x2 : Int32) (r : mS), f_X7_melt_L33 n μ x1 x2 = some r → (J mX7_melt rX7_melt Q 0 0 (gm g r) 92 [] []) → J mX7_melt rX7_melt Q 0 0 (gm g μ) 33 [(0, .ref 5000), (1, .int x1), (2, .int x2)] [] := by
  intro n
  induction n with
  | zero =>
    intro μ x1 x2 r hf
    cases hf
  | succ n ih =>
    intro μ x1 x2 r hf k0
    rw [f_X7_melt_L33] at hf
    refine j_iload_n (pc' := 34) rfl rfl rfl ?_
    refine j_aload_n (pc' := 35) rfl rfl rfl ?_
    refine j_get (pc' := 38) rfl rfl flX7_142 (gm_o g μ) (mF_7 μ) ?_
    refine j_icmp_ge (tgt := 92) (pc' := 41) rfl rfl rfl (fun c38 => ?_) (fun c38 => ?_)
    · rw [if_pos c38] at hf
      have hf := Option.some.inj hf; subst hf
      exact j_sub (ls' := []) trivial (k0)
    · rw [if_neg c38] at hf
      refine j_aload_n (pc' := 42) rfl rfl rfl ?_
      refine j_get (pc' := 45) rfl rfl flX7_53 (gm_o g μ) (mF_18 μ) ?_
      refine j_iload_n (pc' := 46) rfl rfl rfl ?_
      refine j_aload_n (pc' := 47) rfl rfl rfl ?_
      refine j_get (pc' := 50) rfl rfl flX7_53 (gm_o g μ) (mF_18 μ) ?_
      refine j_iload_n (pc' := 51) rfl rfl rfl ?_
      obtain ⟨c51, hf⟩ := o_chk hf
      refine j_zald (pc' := 52) rfl rfl (gm_18 g μ) (vin_ok c51) ?_
      refine j_if_ne (tgt := 80) (pc' := 55) rfl rfl rfl (fun c52 => ?_) (fun c52 => ?_)
      · rw [if_neg c52] at hf
        refine j_iconst (v := 1) (pc' := 81) rfl rfl (by decide) ?_
        refine j_goto (tgt := 85) rfl rfl ?_
        obtain ⟨c85, hf⟩ := o_chk hf
        obtain ⟨μ85, e85, hf⟩ := o_let hf
        refine j_zast (pc' := 86) rfl rfl (gm_18 g μ) (by decide) (vin_ok c85) ?_
        rw [gs_18]; rw [e85]
        refine j_iinc (pc' := 89) (d := 1) (ls' := [(2, _), (0, _), (1, _)]) rfl rfl rfl (by decide) (Nat.le_of_ble_eq_true rfl) rfl ?_
        refine j_goto (tgt := 33) rfl rfl ?_
        refine j_sub (ls' := [(0, .ref 5000), (1, .int _), (2, .int _)]) ⟨rfl, rfl, rfl, trivial⟩ ?_
        exact ih _ _ _ _ hf k0
      · rw [if_pos c52] at hf
        refine j_aload_n (pc' := 56) rfl rfl rfl ?_
        refine j_get (pc' := 59) rfl rfl flX7_22 (gm_o g μ) (mF_8 μ) ?_
        refine j_iload_n (pc' := 60) rfl rfl rfl ?_
        obtain ⟨c60, hf⟩ := o_chk hf
        refine j_iald (pc' := 61) rfl rfl (gm_8 g μ) (vin_ok c60) ?_
        refine j_iconst (v := 5) (pc' := 62) rfl rfl (by decide) ?_
        refine j_icmp_ne (tgt := 84) (pc' := 65) rfl rfl rfl (fun c62 => ?_) (fun c62 => ?_)
        · rw [if_neg c62] at hf
          refine j_iconst (v := 0) (pc' := 85) rfl rfl (by decide) ?_
          obtain ⟨c85, hf⟩ := o_chk hf
          obtain ⟨μ85, e85, hf⟩ := o_let hf
          refine j_zast (pc' := 86) rfl rfl (gm_18 g μ) (by decide) (vin_ok c85) ?_
          rw [gs_18]; rw [e85]
          refine j_iinc (pc' := 89) (d := 1) (ls' := [(2, _), (0, _), (1, _)]) rfl rfl rfl (by decide) (Nat.le_of_ble_eq_true rfl) rfl ?_
          refine j_goto (tgt := 33) rfl rfl ?_
          refine j_sub (ls' := [(0, .ref 5000), (1, .int _), (2, .int _)]) ⟨rfl, rfl, rfl, trivial⟩ ?_
          exact ih _ _ _ _ hf k0
        · rw [if_pos c62] at hf
          refine j_aload_n (pc' := 66) rfl rfl rfl ?_
          refine j_get (pc' := 69) rfl rfl flX7_25 (gm_o g μ) (mF_9 μ) ?_
          refine j_iload_n (pc' := 70) rfl rfl rfl ?_
          obtain ⟨c70, hf⟩ := o_chk hf
          refine j_iald (pc' := 71) rfl rfl (gm_9 g μ) (vin_ok c70) ?_
          refine j_aload_n (pc' := 72) rfl rfl rfl ?_
          refine j_get (pc' := 75) rfl rfl flX7_25 (gm_o g μ) (mF_9 μ) ?_
          refine j_iload_n (pc' := 76) rfl rfl rfl ?_
          obtain ⟨c76, hf⟩ := o_chk hf
          refine j_iald (pc' := 77) rfl rfl (gm_9 g μ) (vin_ok c76) ?_
          refine j_icmp_ne (tgt := 84) (pc' := 80) rfl rfl rfl (fun c77 => ?_) (fun c77 => ?_)
          · rw [if_neg c77] at hf
            refine j_iconst (v := 0) (pc' := 85) rfl rfl (by decide) ?_
            obtain ⟨c85, hf⟩ := o_chk hf
            obtain ⟨μ85, e85, hf⟩ := o_let hf
            refine j_zast (pc' := 86) rfl rfl (gm_18 g μ) (by decide) (vin_ok c85) ?_
            rw [gs_18]; rw [e85]
            refine j_iinc (pc' := 89) (d := 1) (ls' := [(2, _), (0, _), (1, _)]) rfl rfl rfl (by decide) (Nat.le_of_ble_eq_true rfl) rfl ?_
            refine j_goto (tgt := 33) rfl rfl ?_
            refine j_sub (ls' := [(0, .ref 5000), (1, .int _), (2, .int _)]) ⟨rfl, rfl, rfl, trivial⟩ ?_
            exact ih _ _ _ _ hf k0
          · rw [if_pos c77] at hf
            refine j_iconst (v := 1) (pc' := 81) rfl rfl (by decide) ?_
            refine j_goto (tgt := 85) rfl rfl ?_
            obtain ⟨c85, hf⟩ := o_chk hf
            obtain ⟨μ85, e85, hf⟩ := o_let hf
            refine j_zast (pc' := 86) rfl rfl (gm_18 g μ) (by decide) (vin_ok c85) ?_
            rw [gs_18]; rw [e85]
            refine j_iinc (pc' := 89) (d := 1) (ls' := [(2, _), (0, _), (1, _)]) rfl rfl rfl (by decide) (Nat.le_of_ble_eq_true rfl) rfl ?_
            refine j_goto (tgt := 33) rfl rfl ?_
            refine j_sub (ls' := [(0, .ref 5000), (1, .int _), (2, .int _)]) ⟨rfl, rfl, rfl, trivial⟩ ?_
            exact ih _ _ _ _ hf k0
def f_X7_melt (μ : mS) (x1 : Int32) : Option (Int32 × mS) := (f_X7_isLot μ x1).bind fun r2 => if r2 = 0 then some ((-1), μ) else (f_X7_isAtMint μ x1).bind fun r12 => if r12 = 0 then some ((-3), μ) else bif vin x1 30 then if (μ.1 8 (x1).toNatClampNeg) = 5 then (f_X7_melt_L33 4000 μ x1 0).bind fun r33 => some (0, r33) else bif vin x1 30 then (f_X7_meltedToday μ (μ.1 14 (x1).toNatClampNeg)).bind fun r103 => bif vin x1 30 then bif vin (μ.1 14 (x1).toNatClampNeg) 3 then if (r103 + (μ.1 11 (x1).toNatClampNeg)) ≤ (μ.1 38 ((μ.1 14 (x1).toNatClampNeg)).toNatClampNeg) then (f_X7_meltedToday μ (μ.1 14 (x1).toNatClampNeg)).bind fun r132 => bif vin x1 30 then bif vin (μ.1 14 (x1).toNatClampNeg) 3 then letm (seti μ 39 (va_up (μ.1 39) ((μ.1 14 (x1).toNatClampNeg)).toNatClampNeg (r132 + (μ.1 11 (x1).toNatClampNeg)))) fun μ142 => bif vin (μ.1 14 (x1).toNatClampNeg) 3 then letm (seti μ142 40 (va_up (μ142.1 40) ((μ.1 14 (x1).toNatClampNeg)).toNatClampNeg (μ142.1 6 0))) fun μ152 => bif vin (μ.1 14 (x1).toNatClampNeg) 3 then bif vin x1 30 then bif vin (μ.1 14 (x1).toNatClampNeg) 3 then letm (setl μ152 33 (va_up (μ152.2 33) ((μ.1 14 (x1).toNatClampNeg)).toNatClampNeg ((μ152.2 33 ((μ.1 14 (x1).toNatClampNeg)).toNatClampNeg) + ((μ152.1 11 (x1).toNatClampNeg)).toInt64))) fun μ168 => bif vin (μ.1 14 (x1).toNatClampNeg) 3 then (f_X7_silverOf μ168 x1).bind fun r178 => bif vin (μ.1 14 (x1).toNatClampNeg) 3 then letm (setl μ168 34 (va_up (μ168.2 34) ((μ.1 14 (x1).toNatClampNeg)).toNatClampNeg ((μ168.2 34 ((μ.1 14 (x1).toNatClampNeg)).toNatClampNeg) + r178))) fun μ182 => bif vin (μ.1 14 (x1).toNatClampNeg) 3 then letm (seti μ182 35 (va_up (μ182.1 35) ((μ.1 14 (x1).toNatClampNeg)).toNatClampNeg (vp_nar .boolean 0))) fun μ189 => bif vin x1 30 then letm (seti μ189 16 (va_up (μ189.1 16) (x1).toNatClampNeg (vp_nar .boolean 1))) fun μ196 => some (1, μ196) else none else none else none else none else none else none else none else none else none else none else some ((-4), μ) else none else none else none else none
set_option maxHeartbeats 4000000 in
set_option maxRecDepth 100000 in
theorem s_X7_melt (g : hH) (μ : mS) (x1 : Int32) (r : (Int32 × mS)) (hf : f_X7_melt μ x1 = some r) : SpD mX7_melt rX7_melt [.ref 5000, .int x1] (gm g μ) (some (.int r.1)) (gm g r.2) := by
  refine sp_of miX7_melt (Nat.le_of_ble_eq_true rfl) ?_
  show J _ _ _ 0 0 _ 0 [(0, .ref 5000), (1, .int x1)] []
  unfold f_X7_melt at hf
  refine j_aload_n (pc' := 1) rfl rfl rfl ?_
  refine j_iload_n (pc' := 2) rfl rfl rfl ?_
  obtain ⟨r2, e2, hf⟩ := o_bind hf
  refine j_v1 (pc' := 5) rfl rfl miX7_isLot lnX7_160 (gm_o g μ) rfl (s_X7_isLot g μ x1 _ e2) (h_rm_of rfl) (Nat.le_of_ble_eq_true rfl) (c' := 0) (s' := 0) rfl rfl ?_
  refine j_if_ne (tgt := 10) (pc' := 8) rfl rfl rfl (fun c5 => ?_) (fun c5 => ?_)
  · rw [if_neg c5] at hf
    refine j_aload_n (pc' := 11) rfl rfl rfl ?_
    refine j_iload_n (pc' := 12) rfl rfl rfl ?_
    obtain ⟨r12, e12, hf⟩ := o_bind hf
    refine j_v1 (pc' := 15) rfl rfl miX7_isAtMint lnX7_241 (gm_o g μ) rfl (s_X7_isAtMint g μ x1 _ e12) (h_rm_of rfl) (Nat.le_of_ble_eq_true rfl) (c' := 0) (s' := 0) rfl rfl ?_
    refine j_if_ne (tgt := 21) (pc' := 18) rfl rfl rfl (fun c15 => ?_) (fun c15 => ?_)
    · rw [if_neg c15] at hf
      refine j_aload_n (pc' := 22) rfl rfl rfl ?_
      refine j_get (pc' := 25) rfl rfl flX7_22 (gm_o g μ) (mF_8 μ) ?_
      refine j_iload_n (pc' := 26) rfl rfl rfl ?_
      obtain ⟨c26, hf⟩ := o_chk hf
      refine j_iald (pc' := 27) rfl rfl (gm_8 g μ) (vin_ok c26) ?_
      refine j_iconst (v := 5) (pc' := 28) rfl rfl (by decide) ?_
      refine j_icmp_ne (tgt := 94) (pc' := 31) rfl rfl rfl (fun c28 => ?_) (fun c28 => ?_)
      · rw [if_neg c28] at hf
        refine j_aload_n (pc' := 95) rfl rfl rfl ?_
        refine j_get (pc' := 98) rfl rfl flX7_40 (gm_o g μ) (mF_14 μ) ?_
        refine j_iload_n (pc' := 99) rfl rfl rfl ?_
        obtain ⟨c99, hf⟩ := o_chk hf
        refine j_iald (pc' := 100) rfl rfl (gm_14 g μ) (vin_ok c99) ?_
        refine j_istore_n (pc' := 101) (ls' := [(2, _), (0, _), (1, _)]) rfl rfl (Nat.le_of_ble_eq_true rfl) rfl ?_
        refine j_aload_n (pc' := 102) rfl rfl rfl ?_
        refine j_iload_n (pc' := 103) rfl rfl rfl ?_
        obtain ⟨r103, e103, hf⟩ := o_bind hf
        refine j_v1 (pc' := 106) rfl rfl miX7_meltedToday lnX7_244 (gm_o g μ) rfl (s_X7_meltedToday g μ (μ.1 14 (x1).toNatClampNeg) _ e103) (h_rm_of rfl) (Nat.le_of_ble_eq_true rfl) (c' := 0) (s' := 0) rfl rfl ?_
        refine j_aload_n (pc' := 107) rfl rfl rfl ?_
        refine j_get (pc' := 110) rfl rfl flX7_31 (gm_o g μ) (mF_11 μ) ?_
        refine j_iload_n (pc' := 111) rfl rfl rfl ?_
        obtain ⟨c111, hf⟩ := o_chk hf
        refine j_iald (pc' := 112) rfl rfl (gm_11 g μ) (vin_ok c111) ?_
        refine j_iadd (pc' := 113) rfl rfl ?_
        refine j_aload_n (pc' := 114) rfl rfl rfl ?_
        refine j_get (pc' := 117) rfl rfl flX7_101 (gm_o g μ) (mF_38 μ) ?_
        refine j_iload_n (pc' := 118) rfl rfl rfl ?_
        obtain ⟨c118, hf⟩ := o_chk hf
        refine j_iald (pc' := 119) rfl rfl (gm_38 g μ) (vin_ok c118) ?_
        refine j_icmp_le (tgt := 125) (pc' := 122) rfl rfl rfl (fun c119 => ?_) (fun c119 => ?_)
        · rw [if_pos c119] at hf
          refine j_aload_n (pc' := 126) rfl rfl rfl ?_
          refine j_get (pc' := 129) rfl rfl flX7_104 (gm_o g μ) (mF_39 μ) ?_
          refine j_iload_n (pc' := 130) rfl rfl rfl ?_
          refine j_aload_n (pc' := 131) rfl rfl rfl ?_
          refine j_iload_n (pc' := 132) rfl rfl rfl ?_
          obtain ⟨r132, e132, hf⟩ := o_bind hf
          refine j_v1 (pc' := 135) rfl rfl miX7_meltedToday lnX7_244 (gm_o g μ) rfl (s_X7_meltedToday g μ (μ.1 14 (x1).toNatClampNeg) _ e132) (h_rm_of rfl) (Nat.le_of_ble_eq_true rfl) (c' := 0) (s' := 0) rfl rfl ?_
          refine j_aload_n (pc' := 136) rfl rfl rfl ?_
          refine j_get (pc' := 139) rfl rfl flX7_31 (gm_o g μ) (mF_11 μ) ?_
          refine j_iload_n (pc' := 140) rfl rfl rfl ?_
          obtain ⟨c140, hf⟩ := o_chk hf
          refine j_iald (pc' := 141) rfl rfl (gm_11 g μ) (vin_ok c140) ?_
          refine j_iadd (pc' := 142) rfl rfl ?_
          obtain ⟨c142, hf⟩ := o_chk hf
          obtain ⟨μ142, e142, hf⟩ := o_let hf
          refine j_iast (pc' := 143) rfl rfl (gm_39 g μ) (by decide) (vin_ok c142) ?_
          rw [gs_39]; rw [e142]
          refine j_aload_n (pc' := 144) rfl rfl rfl ?_
          refine j_get (pc' := 147) rfl rfl flX7_107 (gm_o g μ142) (mF_40 μ142) ?_
          refine j_iload_n (pc' := 148) rfl rfl rfl ?_
          refine j_aload_n (pc' := 149) rfl rfl rfl ?_
          refine j_get (pc' := 152) rfl rfl flX7_167 (gm_o g μ142) (mF_6 μ142) ?_
          obtain ⟨c152, hf⟩ := o_chk hf
          obtain ⟨μ152, e152, hf⟩ := o_let hf
          refine j_iast (pc' := 153) rfl rfl (gm_40 g μ142) (by decide) (vin_ok c152) ?_
          rw [gs_40]; rw [e152]
          refine j_aload_n (pc' := 154) rfl rfl rfl ?_
          refine j_get (pc' := 157) rfl rfl flX7_85 (gm_o g μ152) (mF_33 μ152) ?_
          refine j_iload_n (pc' := 158) rfl rfl rfl ?_
          refine j_dup2_11 (pc' := 159) rfl rfl rfl rfl ?_
          obtain ⟨c159, hf⟩ := o_chk hf
          refine j_lald (pc' := 160) rfl rfl (gm_33 g μ152) (vin_ok c159) ?_
          refine j_aload_n (pc' := 161) rfl rfl rfl ?_
          refine j_get (pc' := 164) rfl rfl flX7_31 (gm_o g μ152) (mF_11 μ152) ?_
          refine j_iload_n (pc' := 165) rfl rfl rfl ?_
          obtain ⟨c165, hf⟩ := o_chk hf
          refine j_iald (pc' := 166) rfl rfl (gm_11 g μ152) (vin_ok c165) ?_
          refine j_i2l (pc' := 167) rfl rfl ?_
          refine j_ladd (pc' := 168) rfl rfl ?_
          obtain ⟨c168, hf⟩ := o_chk hf
          obtain ⟨μ168, e168, hf⟩ := o_let hf
          refine j_last (pc' := 169) rfl rfl (gm_33 g μ152) (by decide) (vin_ok c168) ?_
          rw [gs_33]; rw [e168]
          refine j_aload_n (pc' := 170) rfl rfl rfl ?_
          refine j_get (pc' := 173) rfl rfl flX7_88 (gm_o g μ168) (mF_34 μ168) ?_
          refine j_iload_n (pc' := 174) rfl rfl rfl ?_
          refine j_dup2_11 (pc' := 175) rfl rfl rfl rfl ?_
          obtain ⟨c175, hf⟩ := o_chk hf
          refine j_lald (pc' := 176) rfl rfl (gm_34 g μ168) (vin_ok c175) ?_
          refine j_aload_n (pc' := 177) rfl rfl rfl ?_
          refine j_iload_n (pc' := 178) rfl rfl rfl ?_
          obtain ⟨r178, e178, hf⟩ := o_bind hf
          refine j_v1 (pc' := 181) rfl rfl miX7_silverOf lnX7_173 (gm_o g μ168) rfl (s_X7_silverOf g μ168 x1 _ e178) (h_rm_of rfl) (Nat.le_of_ble_eq_true rfl) (c' := 0) (s' := 0) rfl rfl ?_
          refine j_ladd (pc' := 182) rfl rfl ?_
          obtain ⟨c182, hf⟩ := o_chk hf
          obtain ⟨μ182, e182, hf⟩ := o_let hf
          refine j_last (pc' := 183) rfl rfl (gm_34 g μ168) (by decide) (vin_ok c182) ?_
          rw [gs_34]; rw [e182]
          refine j_aload_n (pc' := 184) rfl rfl rfl ?_
          refine j_get (pc' := 187) rfl rfl flX7_91 (gm_o g μ182) (mF_35 μ182) ?_
          refine j_iload_n (pc' := 188) rfl rfl rfl ?_
          refine j_iconst (v := 0) (pc' := 189) rfl rfl (by decide) ?_
          obtain ⟨c189, hf⟩ := o_chk hf
          obtain ⟨μ189, e189, hf⟩ := o_let hf
          refine j_zast (pc' := 190) rfl rfl (gm_35 g μ182) (by decide) (vin_ok c189) ?_
          rw [gs_35]; rw [e189]
          refine j_aload_n (pc' := 191) rfl rfl rfl ?_
          refine j_get (pc' := 194) rfl rfl flX7_46 (gm_o g μ189) (mF_16 μ189) ?_
          refine j_iload_n (pc' := 195) rfl rfl rfl ?_
          refine j_iconst (v := 1) (pc' := 196) rfl rfl (by decide) ?_
          obtain ⟨c196, hf⟩ := o_chk hf
          obtain ⟨μ196, e196, hf⟩ := o_let hf
          refine j_zast (pc' := 197) rfl rfl (gm_16 g μ189) (by decide) (vin_ok c196) ?_
          rw [gs_16]; rw [e196]
          refine j_iconst (v := 1) (pc' := 198) rfl rfl (by decide) ?_
          have hf := Option.some.inj hf; subst hf
          exact j_iret rfl rfl (Nat.zero_le _) (Nat.zero_le _) ⟨rfl, rfl⟩
        · rw [if_neg c119] at hf
          refine j_bipush (v := (-4)) (pc' := 124) rfl rfl (by decide) ?_
          have hf := Option.some.inj hf; subst hf
          exact j_iret rfl rfl (Nat.zero_le _) (Nat.zero_le _) ⟨rfl, rfl⟩
      · rw [if_pos c28] at hf
        refine j_iconst (v := 0) (pc' := 32) rfl rfl (by decide) ?_
        refine j_istore_n (pc' := 33) (ls' := [(2, _), (0, _), (1, _)]) rfl rfl (Nat.le_of_ble_eq_true rfl) rfl ?_
        obtain ⟨r33, e33, hf⟩ := o_bind hf
        refine j_sub (ls' := [(0, .ref 5000), (1, .int x1), (2, .int 0)]) ⟨rfl, rfl, rfl, trivial⟩ ?_
        refine s_X7_melt_L33 g _ _ _ _ _ e33 ?_
        refine j_iconst (v := 0) (pc' := 93) rfl rfl (by decide) ?_
        have hf := Option.some.inj hf; subst hf
        exact j_iret rfl rfl (Nat.zero_le _) (Nat.zero_le _) ⟨rfl, rfl⟩
    · rw [if_pos c15] at hf
      refine j_bipush (v := (-3)) (pc' := 20) rfl rfl (by decide) ?_
      have hf := Option.some.inj hf; subst hf
      exact j_iret rfl rfl (Nat.zero_le _) (Nat.zero_le _) ⟨rfl, rfl⟩
  · rw [if_pos c5] at hf
    refine j_iconst (v := (-1)) (pc' := 9) rfl rfl (by decide) ?_
    have hf := Option.some.inj hf; subst hf
    exact j_iret rfl rfl (Nat.zero_le _) (Nat.zero_le _) ⟨rfl, rfl⟩
def rX7_furnace : Room := { frames := 2, cells := 0, slots := 0, locals := 42 }
def f_X7_furnace (μ : mS) (x1 : Int32) (x2 : Int32) : Option (Int32 × mS) := (f_X7_isMint x1).bind fun r1 => if r1 = 0 then some ((-1), μ) else (f_X7_in x2 1 1000000).bind fun r13 => if r13 = 0 then some ((-2), μ) else bif vin x1 3 then bif vin x1 3 then letm (seti μ 38 (va_up (μ.1 38) (x1).toNatClampNeg x2)) fun μ35 => some ((μ.1 38 (x1).toNatClampNeg), μ35) else none else none
set_option maxHeartbeats 4000000 in
set_option maxRecDepth 100000 in
theorem s_X7_furnace (g : hH) (μ : mS) (x1 : Int32) (x2 : Int32) (r : (Int32 × mS)) (hf : f_X7_furnace μ x1 x2 = some r) : SpD mX7_furnace rX7_furnace [.ref 5000, .int x1, .int x2] (gm g μ) (some (.int r.1)) (gm g r.2) := by
  refine sp_of miX7_furnace (Nat.le_of_ble_eq_true rfl) ?_
  show J _ _ _ 0 0 _ 0 [(0, .ref 5000), (1, .int x1), (2, .int x2)] []
  unfold f_X7_furnace at hf
  refine j_iload_n (pc' := 1) rfl rfl rfl ?_
  obtain ⟨r1, e1, hf⟩ := o_bind hf
  refine j_s1 (pc' := 4) rfl rfl miX7_isMint lnX7_238 (s_X7_isMint (gm g μ) x1 _ e1) (h_rm_of rfl) (Nat.le_of_ble_eq_true rfl) (c' := 0) (s' := 0) rfl rfl ?_
  refine j_if_ne (tgt := 9) (pc' := 7) rfl rfl rfl (fun c4 => ?_) (fun c4 => ?_)
  · rw [if_neg c4] at hf
    refine j_iload_n (pc' := 10) rfl rfl rfl ?_
    refine j_iconst (v := 1) (pc' := 11) rfl rfl (by decide) ?_
    refine j_ldc (pc' := 13) rfl rfl kcX7_228 ?_
    obtain ⟨r13, e13, hf⟩ := o_bind hf
    refine j_s3 (pc' := 16) rfl rfl miX7_in lnX7_138 (s_X7_in (gm g μ) x2 1 1000000 _ e13) (h_rm_of rfl) (Nat.le_of_ble_eq_true rfl) (c' := 0) (s' := 0) rfl rfl ?_
    refine j_if_ne (tgt := 22) (pc' := 19) rfl rfl rfl (fun c16 => ?_) (fun c16 => ?_)
    · rw [if_neg c16] at hf
      refine j_aload_n (pc' := 23) rfl rfl rfl ?_
      refine j_get (pc' := 26) rfl rfl flX7_101 (gm_o g μ) (mF_38 μ) ?_
      refine j_iload_n (pc' := 27) rfl rfl rfl ?_
      obtain ⟨c27, hf⟩ := o_chk hf
      refine j_iald (pc' := 28) rfl rfl (gm_38 g μ) (vin_ok c27) ?_
      refine j_istore_n (pc' := 29) (ls' := [(3, _), (0, _), (1, _), (2, _)]) rfl rfl (Nat.le_of_ble_eq_true rfl) rfl ?_
      refine j_aload_n (pc' := 30) rfl rfl rfl ?_
      refine j_get (pc' := 33) rfl rfl flX7_101 (gm_o g μ) (mF_38 μ) ?_
      refine j_iload_n (pc' := 34) rfl rfl rfl ?_
      refine j_iload_n (pc' := 35) rfl rfl rfl ?_
      obtain ⟨c35, hf⟩ := o_chk hf
      obtain ⟨μ35, e35, hf⟩ := o_let hf
      refine j_iast (pc' := 36) rfl rfl (gm_38 g μ) (by decide) (vin_ok c35) ?_
      rw [gs_38]; rw [e35]
      refine j_iload_n (pc' := 37) rfl rfl rfl ?_
      have hf := Option.some.inj hf; subst hf
      exact j_iret rfl rfl (Nat.zero_le _) (Nat.zero_le _) ⟨rfl, rfl⟩
    · rw [if_pos c16] at hf
      refine j_bipush (v := (-2)) (pc' := 21) rfl rfl (by decide) ?_
      have hf := Option.some.inj hf; subst hf
      exact j_iret rfl rfl (Nat.zero_le _) (Nat.zero_le _) ⟨rfl, rfl⟩
  · rw [if_pos c4] at hf
    refine j_iconst (v := (-1)) (pc' := 8) rfl rfl (by decide) ?_
    have hf := Option.some.inj hf; subst hf
    exact j_iret rfl rfl (Nat.zero_le _) (Nat.zero_le _) ⟨rfl, rfl⟩
def rX7_refine : Room := { frames := 2, cells := 0, slots := 0, locals := 42 }
def f_X7_refine (μ : mS) (x1 : Int32) : Option (Int32 × mS) := (f_X7_isMint x1).bind fun r1 => if r1 = 0 then some ((-1), μ) else bif vin x1 3 then if (lg_cmp (μ.2 33 (x1).toNatClampNeg) 0) = 0 then some ((-3), μ) else bif vin x1 3 then bif vin x1 3 then letm ((925 * (μ.2 33 (x1).toNatClampNeg)) - (μ.2 34 (x1).toNatClampNeg)) fun y40 => if 0 < (lg_cmp y40 0) then letm ((((y40 + 1000) - 925) - 1) / 75) fun y84 => bif vin x1 3 then bif vin x1 3 then letm (setl μ 37 (va_up (μ.2 37) (x1).toNatClampNeg ((μ.2 37 (x1).toNatClampNeg) + y84))) fun μ96 => bif vin x1 3 then bif vin x1 3 then letm (setl μ96 34 (va_up (μ96.2 34) (x1).toNatClampNeg ((μ96.2 34 (x1).toNatClampNeg) + (1000 * y84)))) fun μ111 => bif vin x1 3 then bif vin x1 3 then letm (setl μ111 33 (va_up (μ111.2 33) (x1).toNatClampNeg ((μ111.2 33 (x1).toNatClampNeg) + y84))) fun μ122 => bif vin x1 3 then bif vin x1 3 then letm (setl μ122 41 (fun _ => ((μ122.2 41 0) + ((μ122.2 34 (x1).toNatClampNeg) - (925 * (μ122.2 33 (x1).toNatClampNeg)))))) fun μ146 => bif vin x1 3 then bif vin x1 3 then letm (setl μ146 34 (va_up (μ146.2 34) (x1).toNatClampNeg (925 * (μ146.2 33 (x1).toNatClampNeg)))) fun μ164 => bif vin x1 3 then letm (seti μ164 35 (va_up (μ164.1 35) (x1).toNatClampNeg (vp_nar .boolean 1))) fun μ171 => some ((y84).toInt32, μ171) else none else none else none else none else none else none else none else none else none else none else none else bif vin x1 3 then bif vin x1 3 then letm (setl μ 36 (va_up (μ.2 36) (x1).toNatClampNeg ((μ.2 36 (x1).toNatClampNeg) + ((-y40) / 925)))) fun μ65 => bif vin x1 3 then bif vin x1 3 then letm (setl μ65 33 (va_up (μ65.2 33) (x1).toNatClampNeg ((μ65.2 33 (x1).toNatClampNeg) + ((-y40) / 925)))) fun μ122 => bif vin x1 3 then bif vin x1 3 then letm (setl μ122 41 (fun _ => ((μ122.2 41 0) + ((μ122.2 34 (x1).toNatClampNeg) - (925 * (μ122.2 33 (x1).toNatClampNeg)))))) fun μ146 => bif vin x1 3 then bif vin x1 3 then letm (setl μ146 34 (va_up (μ146.2 34) (x1).toNatClampNeg (925 * (μ146.2 33 (x1).toNatClampNeg)))) fun μ164 => bif vin x1 3 then letm (seti μ164 35 (va_up (μ164.1 35) (x1).toNatClampNeg (vp_nar .boolean 1))) fun μ171 => some ((((-y40) / 925)).toInt32, μ171) else none else none else none else none else none else none else none else none else none else none else none else none
set_option maxHeartbeats 4000000 in
set_option maxRecDepth 100000 in
theorem s_X7_refine (g : hH) (μ : mS) (x1 : Int32) (r : (Int32 × mS)) (hf : f_X7_refine μ x1 = some r) : SpD mX7_refine rX7_refine [.ref 5000, .int x1] (gm g μ) (some (.int r.1)) (gm g r.2) := by
  refine sp_of miX7_refine (Nat.le_of_ble_eq_true rfl) ?_
  show J _ _ _ 0 0 _ 0 [(0, .ref 5000), (1, .int x1)] []
  unfold f_X7_refine at hf
  refine j_iload_n (pc' := 1) rfl rfl rfl ?_
  obtain ⟨r1, e1, hf⟩ := o_bind hf
  refine j_s1 (pc' := 4) rfl rfl miX7_isMint lnX7_238 (s_X7_isMint (gm g μ) x1 _ e1) (h_rm_of rfl) (Nat.le_of_ble_eq_true rfl) (c' := 0) (s' := 0) rfl rfl ?_
  refine j_if_ne (tgt := 9) (pc' := 7) rfl rfl rfl (fun c4 => ?_) (fun c4 => ?_)
  · rw [if_neg c4] at hf
    refine j_aload_n (pc' := 10) rfl rfl rfl ?_
    refine j_get (pc' := 13) rfl rfl flX7_85 (gm_o g μ) (mF_33 μ) ?_
    refine j_iload_n (pc' := 14) rfl rfl rfl ?_
    obtain ⟨c14, hf⟩ := o_chk hf
    refine j_lald (pc' := 15) rfl rfl (gm_33 g μ) (vin_ok c14) ?_
    refine j_lconst (v := 0) (pc' := 16) rfl rfl (by decide) ?_
    refine j_lcmp (pc' := 17) rfl rfl ?_
    refine j_if_ne (tgt := 23) (pc' := 20) rfl rfl rfl (fun c17 => ?_) (fun c17 => ?_)
    · rw [if_neg c17] at hf
      refine j_ldc2 (pc' := 26) rfl rfl kcX7_247 ?_
      refine j_aload_n (pc' := 27) rfl rfl rfl ?_
      refine j_get (pc' := 30) rfl rfl flX7_85 (gm_o g μ) (mF_33 μ) ?_
      refine j_iload_n (pc' := 31) rfl rfl rfl ?_
      obtain ⟨c31, hf⟩ := o_chk hf
      refine j_lald (pc' := 32) rfl rfl (gm_33 g μ) (vin_ok c31) ?_
      refine j_lmul (pc' := 33) rfl rfl ?_
      refine j_aload_n (pc' := 34) rfl rfl rfl ?_
      refine j_get (pc' := 37) rfl rfl flX7_88 (gm_o g μ) (mF_34 μ) ?_
      refine j_iload_n (pc' := 38) rfl rfl rfl ?_
      obtain ⟨c38, hf⟩ := o_chk hf
      refine j_lald (pc' := 39) rfl rfl (gm_34 g μ) (vin_ok c38) ?_
      refine j_lsub (pc' := 40) rfl rfl ?_
      obtain ⟨y40, e40, hf⟩ := o_let hf
      rw [e40]
      refine j_lstore_n (pc' := 41) (ls' := [(2, _), (0, _), (1, _)]) rfl rfl (Nat.le_of_ble_eq_true rfl) rfl ?_
      refine j_lload_n (pc' := 42) rfl rfl rfl ?_
      refine j_lconst (v := 0) (pc' := 43) rfl rfl (by decide) ?_
      refine j_lcmp (pc' := 44) rfl rfl ?_
      refine j_if_gt (tgt := 69) (pc' := 47) rfl rfl rfl (fun c44 => ?_) (fun c44 => ?_)
      · rw [if_pos c44] at hf
        refine j_lload_n (pc' := 70) rfl rfl rfl ?_
        refine j_ldc2 (pc' := 73) rfl rfl kcX7_249 ?_
        refine j_ladd (pc' := 74) rfl rfl ?_
        refine j_ldc2 (pc' := 77) rfl rfl kcX7_247 ?_
        refine j_lsub (pc' := 78) rfl rfl ?_
        refine j_lconst (v := 1) (pc' := 79) rfl rfl (by decide) ?_
        refine j_lsub (pc' := 80) rfl rfl ?_
        refine j_ldc2 (pc' := 83) rfl rfl kcX7_251 ?_
        refine j_ldiv (pc' := 84) rfl rfl (by decide) ?_
        obtain ⟨y84, e84, hf⟩ := o_let hf
        rw [e84]
        refine j_lstore (pc' := 86) (ls' := [(4, _), (2, _), (0, _), (1, _)]) rfl rfl (Nat.le_of_ble_eq_true rfl) rfl ?_
        refine j_aload_n (pc' := 87) rfl rfl rfl ?_
        refine j_get (pc' := 90) rfl rfl flX7_97 (gm_o g μ) (mF_37 μ) ?_
        refine j_iload_n (pc' := 91) rfl rfl rfl ?_
        refine j_dup2_11 (pc' := 92) rfl rfl rfl rfl ?_
        obtain ⟨c92, hf⟩ := o_chk hf
        refine j_lald (pc' := 93) rfl rfl (gm_37 g μ) (vin_ok c92) ?_
        refine j_lload (pc' := 95) rfl rfl rfl ?_
        refine j_ladd (pc' := 96) rfl rfl ?_
        obtain ⟨c96, hf⟩ := o_chk hf
        obtain ⟨μ96, e96, hf⟩ := o_let hf
        refine j_last (pc' := 97) rfl rfl (gm_37 g μ) (by decide) (vin_ok c96) ?_
        rw [gs_37]; rw [e96]
        refine j_aload_n (pc' := 98) rfl rfl rfl ?_
        refine j_get (pc' := 101) rfl rfl flX7_88 (gm_o g μ96) (mF_34 μ96) ?_
        refine j_iload_n (pc' := 102) rfl rfl rfl ?_
        refine j_dup2_11 (pc' := 103) rfl rfl rfl rfl ?_
        obtain ⟨c103, hf⟩ := o_chk hf
        refine j_lald (pc' := 104) rfl rfl (gm_34 g μ96) (vin_ok c103) ?_
        refine j_ldc2 (pc' := 107) rfl rfl kcX7_249 ?_
        refine j_lload (pc' := 109) rfl rfl rfl ?_
        refine j_lmul (pc' := 110) rfl rfl ?_
        refine j_ladd (pc' := 111) rfl rfl ?_
        obtain ⟨c111, hf⟩ := o_chk hf
        obtain ⟨μ111, e111, hf⟩ := o_let hf
        refine j_last (pc' := 112) rfl rfl (gm_34 g μ96) (by decide) (vin_ok c111) ?_
        rw [gs_34]; rw [e111]
        refine j_aload_n (pc' := 113) rfl rfl rfl ?_
        refine j_get (pc' := 116) rfl rfl flX7_85 (gm_o g μ111) (mF_33 μ111) ?_
        refine j_iload_n (pc' := 117) rfl rfl rfl ?_
        refine j_dup2_11 (pc' := 118) rfl rfl rfl rfl ?_
        obtain ⟨c118, hf⟩ := o_chk hf
        refine j_lald (pc' := 119) rfl rfl (gm_33 g μ111) (vin_ok c118) ?_
        refine j_lload (pc' := 121) rfl rfl rfl ?_
        refine j_ladd (pc' := 122) rfl rfl ?_
        obtain ⟨c122, hf⟩ := o_chk hf
        obtain ⟨μ122, e122, hf⟩ := o_let hf
        refine j_last (pc' := 123) rfl rfl (gm_33 g μ111) (by decide) (vin_ok c122) ?_
        rw [gs_33]; rw [e122]
        refine j_aload_n (pc' := 124) rfl rfl rfl ?_
        refine j_dup (pc' := 125) rfl rfl rfl ?_
        refine j_get (pc' := 128) rfl rfl flX7_253 (gm_o g μ122) (mF_41 μ122) ?_
        refine j_aload_n (pc' := 129) rfl rfl rfl ?_
        refine j_get (pc' := 132) rfl rfl flX7_88 (gm_o g μ122) (mF_34 μ122) ?_
        refine j_iload_n (pc' := 133) rfl rfl rfl ?_
        obtain ⟨c133, hf⟩ := o_chk hf
        refine j_lald (pc' := 134) rfl rfl (gm_34 g μ122) (vin_ok c133) ?_
        refine j_ldc2 (pc' := 137) rfl rfl kcX7_247 ?_
        refine j_aload_n (pc' := 138) rfl rfl rfl ?_
        refine j_get (pc' := 141) rfl rfl flX7_85 (gm_o g μ122) (mF_33 μ122) ?_
        refine j_iload_n (pc' := 142) rfl rfl rfl ?_
        obtain ⟨c142, hf⟩ := o_chk hf
        refine j_lald (pc' := 143) rfl rfl (gm_33 g μ122) (vin_ok c142) ?_
        refine j_lmul (pc' := 144) rfl rfl ?_
        refine j_lsub (pc' := 145) rfl rfl ?_
        refine j_ladd (pc' := 146) rfl rfl ?_
        obtain ⟨μ146, e146, hf⟩ := o_let hf
        refine j_put (pc' := 149) rfl rfl flX7_253 (gm_o g μ122) (by decide) (Nat.le_of_ble_eq_true rfl) rfl rfl ?_
        rw [gs_41]; rw [e146]
        refine j_aload_n (pc' := 150) rfl rfl rfl ?_
        refine j_get (pc' := 153) rfl rfl flX7_88 (gm_o g μ146) (mF_34 μ146) ?_
        refine j_iload_n (pc' := 154) rfl rfl rfl ?_
        refine j_ldc2 (pc' := 157) rfl rfl kcX7_247 ?_
        refine j_aload_n (pc' := 158) rfl rfl rfl ?_
        refine j_get (pc' := 161) rfl rfl flX7_85 (gm_o g μ146) (mF_33 μ146) ?_
        refine j_iload_n (pc' := 162) rfl rfl rfl ?_
        obtain ⟨c162, hf⟩ := o_chk hf
        refine j_lald (pc' := 163) rfl rfl (gm_33 g μ146) (vin_ok c162) ?_
        refine j_lmul (pc' := 164) rfl rfl ?_
        obtain ⟨c164, hf⟩ := o_chk hf
        obtain ⟨μ164, e164, hf⟩ := o_let hf
        refine j_last (pc' := 165) rfl rfl (gm_34 g μ146) (by decide) (vin_ok c164) ?_
        rw [gs_34]; rw [e164]
        refine j_aload_n (pc' := 166) rfl rfl rfl ?_
        refine j_get (pc' := 169) rfl rfl flX7_91 (gm_o g μ164) (mF_35 μ164) ?_
        refine j_iload_n (pc' := 170) rfl rfl rfl ?_
        refine j_iconst (v := 1) (pc' := 171) rfl rfl (by decide) ?_
        obtain ⟨c171, hf⟩ := o_chk hf
        obtain ⟨μ171, e171, hf⟩ := o_let hf
        refine j_zast (pc' := 172) rfl rfl (gm_35 g μ164) (by decide) (vin_ok c171) ?_
        rw [gs_35]; rw [e171]
        refine j_lload (pc' := 174) rfl rfl rfl ?_
        refine j_l2i (pc' := 175) rfl rfl ?_
        have hf := Option.some.inj hf; subst hf
        exact j_iret rfl rfl (Nat.zero_le _) (Nat.zero_le _) ⟨rfl, rfl⟩
      · rw [if_neg c44] at hf
        refine j_lload_n (pc' := 48) rfl rfl rfl ?_
        refine j_lneg (pc' := 49) rfl rfl ?_
        refine j_ldc2 (pc' := 52) rfl rfl kcX7_247 ?_
        refine j_ldiv (pc' := 53) rfl rfl (by decide) ?_
        refine j_lstore (pc' := 55) (ls' := [(4, _), (2, _), (0, _), (1, _)]) rfl rfl (Nat.le_of_ble_eq_true rfl) rfl ?_
        refine j_aload_n (pc' := 56) rfl rfl rfl ?_
        refine j_get (pc' := 59) rfl rfl flX7_94 (gm_o g μ) (mF_36 μ) ?_
        refine j_iload_n (pc' := 60) rfl rfl rfl ?_
        refine j_dup2_11 (pc' := 61) rfl rfl rfl rfl ?_
        obtain ⟨c61, hf⟩ := o_chk hf
        refine j_lald (pc' := 62) rfl rfl (gm_36 g μ) (vin_ok c61) ?_
        refine j_lload (pc' := 64) rfl rfl rfl ?_
        refine j_ladd (pc' := 65) rfl rfl ?_
        obtain ⟨c65, hf⟩ := o_chk hf
        obtain ⟨μ65, e65, hf⟩ := o_let hf
        refine j_last (pc' := 66) rfl rfl (gm_36 g μ) (by decide) (vin_ok c65) ?_
        rw [gs_36]; rw [e65]
        refine j_goto (tgt := 112) rfl rfl ?_
        refine j_aload_n (pc' := 113) rfl rfl rfl ?_
        refine j_get (pc' := 116) rfl rfl flX7_85 (gm_o g μ65) (mF_33 μ65) ?_
        refine j_iload_n (pc' := 117) rfl rfl rfl ?_
        refine j_dup2_11 (pc' := 118) rfl rfl rfl rfl ?_
        obtain ⟨c118, hf⟩ := o_chk hf
        refine j_lald (pc' := 119) rfl rfl (gm_33 g μ65) (vin_ok c118) ?_
        refine j_lload (pc' := 121) rfl rfl rfl ?_
        refine j_ladd (pc' := 122) rfl rfl ?_
        obtain ⟨c122, hf⟩ := o_chk hf
        obtain ⟨μ122, e122, hf⟩ := o_let hf
        refine j_last (pc' := 123) rfl rfl (gm_33 g μ65) (by decide) (vin_ok c122) ?_
        rw [gs_33]; rw [e122]
        refine j_aload_n (pc' := 124) rfl rfl rfl ?_
        refine j_dup (pc' := 125) rfl rfl rfl ?_
        refine j_get (pc' := 128) rfl rfl flX7_253 (gm_o g μ122) (mF_41 μ122) ?_
        refine j_aload_n (pc' := 129) rfl rfl rfl ?_
        refine j_get (pc' := 132) rfl rfl flX7_88 (gm_o g μ122) (mF_34 μ122) ?_
        refine j_iload_n (pc' := 133) rfl rfl rfl ?_
        obtain ⟨c133, hf⟩ := o_chk hf
        refine j_lald (pc' := 134) rfl rfl (gm_34 g μ122) (vin_ok c133) ?_
        refine j_ldc2 (pc' := 137) rfl rfl kcX7_247 ?_
        refine j_aload_n (pc' := 138) rfl rfl rfl ?_
        refine j_get (pc' := 141) rfl rfl flX7_85 (gm_o g μ122) (mF_33 μ122) ?_
        refine j_iload_n (pc' := 142) rfl rfl rfl ?_
        obtain ⟨c142, hf⟩ := o_chk hf
        refine j_lald (pc' := 143) rfl rfl (gm_33 g μ122) (vin_ok c142) ?_
        refine j_lmul (pc' := 144) rfl rfl ?_
        refine j_lsub (pc' := 145) rfl rfl ?_
        refine j_ladd (pc' := 146) rfl rfl ?_
        obtain ⟨μ146, e146, hf⟩ := o_let hf
        refine j_put (pc' := 149) rfl rfl flX7_253 (gm_o g μ122) (by decide) (Nat.le_of_ble_eq_true rfl) rfl rfl ?_
        rw [gs_41]; rw [e146]
        refine j_aload_n (pc' := 150) rfl rfl rfl ?_
        refine j_get (pc' := 153) rfl rfl flX7_88 (gm_o g μ146) (mF_34 μ146) ?_
        refine j_iload_n (pc' := 154) rfl rfl rfl ?_
        refine j_ldc2 (pc' := 157) rfl rfl kcX7_247 ?_
        refine j_aload_n (pc' := 158) rfl rfl rfl ?_
        refine j_get (pc' := 161) rfl rfl flX7_85 (gm_o g μ146) (mF_33 μ146) ?_
        refine j_iload_n (pc' := 162) rfl rfl rfl ?_
        obtain ⟨c162, hf⟩ := o_chk hf
        refine j_lald (pc' := 163) rfl rfl (gm_33 g μ146) (vin_ok c162) ?_
        refine j_lmul (pc' := 164) rfl rfl ?_
        obtain ⟨c164, hf⟩ := o_chk hf
        obtain ⟨μ164, e164, hf⟩ := o_let hf
        refine j_last (pc' := 165) rfl rfl (gm_34 g μ146) (by decide) (vin_ok c164) ?_
        rw [gs_34]; rw [e164]
        refine j_aload_n (pc' := 166) rfl rfl rfl ?_
        refine j_get (pc' := 169) rfl rfl flX7_91 (gm_o g μ164) (mF_35 μ164) ?_
        refine j_iload_n (pc' := 170) rfl rfl rfl ?_
        refine j_iconst (v := 1) (pc' := 171) rfl rfl (by decide) ?_
        obtain ⟨c171, hf⟩ := o_chk hf
        obtain ⟨μ171, e171, hf⟩ := o_let hf
        refine j_zast (pc' := 172) rfl rfl (gm_35 g μ164) (by decide) (vin_ok c171) ?_
        rw [gs_35]; rw [e171]
        refine j_lload (pc' := 174) rfl rfl rfl ?_
        refine j_l2i (pc' := 175) rfl rfl ?_
        have hf := Option.some.inj hf; subst hf
        exact j_iret rfl rfl (Nat.zero_le _) (Nat.zero_le _) ⟨rfl, rfl⟩
    · rw [if_pos c17] at hf
      refine j_bipush (v := (-3)) (pc' := 22) rfl rfl (by decide) ?_
      have hf := Option.some.inj hf; subst hf
      exact j_iret rfl rfl (Nat.zero_le _) (Nat.zero_le _) ⟨rfl, rfl⟩
  · rw [if_pos c4] at hf
    refine j_iconst (v := (-1)) (pc' := 8) rfl rfl (by decide) ?_
    have hf := Option.some.inj hf; subst hf
    exact j_iret rfl rfl (Nat.zero_le _) (Nat.zero_le _) ⟨rfl, rfl⟩
end MODEL4
end
section
section MODEL5
def rX7_strike : Room := { frames := 2, cells := 0, slots := 0, locals := 43 }
def f_X7_strike (μ : mS) (x1 : Int32) (x2 : Int32) (x3 : Int32) : Option (Int32 × mS) := (f_X7_isMint x1).bind fun r1 => if r1 = 0 then some ((-1), μ) else (f_X7_isSort μ x2).bind fun r9 => if r9 = 0 then some ((-1), μ) else (f_X7_in x3 1 1000).bind fun r22 => if r22 = 0 then some ((-2), μ) else bif vin x2 8 then if (μ.1 4 (x2).toNatClampNeg) = 925 then bif vin x2 8 then letm (x3 * (μ.1 3 (x2).toNatClampNeg)) fun y51 => bif vin x1 3 then if (μ.1 35 (x1).toNatClampNeg) = 0 then some ((-3), μ) else bif vin x1 3 then if 0 ≤ (lg_cmp (μ.2 33 (x1).toNatClampNeg) ((y51).toInt64)) then if (μ.1 7 0) = 30 then some ((-4), μ) else bif vin x1 3 then bif vin x1 3 then letm (setl μ 33 (va_up (μ.2 33) (x1).toNatClampNeg ((μ.2 33 (x1).toNatClampNeg) - (y51).toInt64))) fun μ101 => bif vin x1 3 then bif vin x1 3 then letm (setl μ101 34 (va_up (μ101.2 34) (x1).toNatClampNeg ((μ101.2 34 (x1).toNatClampNeg) - (925 * (y51).toInt64)))) fun μ117 => (f_X7_newLot μ117 4 x2 x3 y51 0 (-1) x1).bind fun r127 => some (r127.1, r127.2) else none else none else none else none else some ((-3), μ) else none else none else none else some ((-2), μ) else none
set_option maxHeartbeats 4000000 in
set_option maxRecDepth 100000 in
theorem s_X7_strike (g : hH) (μ : mS) (x1 : Int32) (x2 : Int32) (x3 : Int32) (r : (Int32 × mS)) (hf : f_X7_strike μ x1 x2 x3 = some r) : SpD mX7_strike rX7_strike [.ref 5000, .int x1, .int x2, .int x3] (gm g μ) (some (.int r.1)) (gm g r.2) := by
  refine sp_of miX7_strike (Nat.le_of_ble_eq_true rfl) ?_
  show J _ _ _ 0 0 _ 0 [(0, .ref 5000), (1, .int x1), (2, .int x2), (3, .int x3)] []
  unfold f_X7_strike at hf
  refine j_iload_n (pc' := 1) rfl rfl rfl ?_
  obtain ⟨r1, e1, hf⟩ := o_bind hf
  refine j_s1 (pc' := 4) rfl rfl miX7_isMint lnX7_238 (s_X7_isMint (gm g μ) x1 _ e1) (h_rm_of rfl) (Nat.le_of_ble_eq_true rfl) (c' := 0) (s' := 0) rfl rfl ?_
  refine j_if_eq (tgt := 15) (pc' := 7) rfl rfl rfl (fun c4 => ?_) (fun c4 => ?_)
  · rw [if_pos c4] at hf
    refine j_iconst (v := (-1)) (pc' := 16) rfl rfl (by decide) ?_
    have hf := Option.some.inj hf; subst hf
    exact j_iret rfl rfl (Nat.zero_le _) (Nat.zero_le _) ⟨rfl, rfl⟩
  · rw [if_neg c4] at hf
    refine j_aload_n (pc' := 8) rfl rfl rfl ?_
    refine j_iload_n (pc' := 9) rfl rfl rfl ?_
    obtain ⟨r9, e9, hf⟩ := o_bind hf
    refine j_v1 (pc' := 12) rfl rfl miX7_isSort lnX7_145 (gm_o g μ) rfl (s_X7_isSort g μ x2 _ e9) (h_rm_of rfl) (Nat.le_of_ble_eq_true rfl) (c' := 0) (s' := 0) rfl rfl ?_
    refine j_if_ne (tgt := 17) (pc' := 15) rfl rfl rfl (fun c12 => ?_) (fun c12 => ?_)
    · rw [if_neg c12] at hf
      refine j_iload_n (pc' := 18) rfl rfl rfl ?_
      refine j_iconst (v := 1) (pc' := 19) rfl rfl (by decide) ?_
      refine j_sipush (v := 1000) (pc' := 22) rfl rfl (by decide) ?_
      obtain ⟨r22, e22, hf⟩ := o_bind hf
      refine j_s3 (pc' := 25) rfl rfl miX7_in lnX7_138 (s_X7_in (gm g μ) x3 1 1000 _ e22) (h_rm_of rfl) (Nat.le_of_ble_eq_true rfl) (c' := 0) (s' := 0) rfl rfl ?_
      refine j_if_eq (tgt := 40) (pc' := 28) rfl rfl rfl (fun c25 => ?_) (fun c25 => ?_)
      · rw [if_pos c25] at hf
        refine j_bipush (v := (-2)) (pc' := 42) rfl rfl (by decide) ?_
        have hf := Option.some.inj hf; subst hf
        exact j_iret rfl rfl (Nat.zero_le _) (Nat.zero_le _) ⟨rfl, rfl⟩
      · rw [if_neg c25] at hf
        refine j_aload_n (pc' := 29) rfl rfl rfl ?_
        refine j_get (pc' := 32) rfl rfl flX7_16 (gm_o g μ) (mF_4 μ) ?_
        refine j_iload_n (pc' := 33) rfl rfl rfl ?_
        obtain ⟨c33, hf⟩ := o_chk hf
        refine j_iald (pc' := 34) rfl rfl (gm_4 g μ) (vin_ok c33) ?_
        refine j_sipush (v := 925) (pc' := 37) rfl rfl (by decide) ?_
        refine j_icmp_eq (tgt := 43) (pc' := 40) rfl rfl rfl (fun c37 => ?_) (fun c37 => ?_)
        · rw [if_pos c37] at hf
          refine j_iload_n (pc' := 44) rfl rfl rfl ?_
          refine j_aload_n (pc' := 45) rfl rfl rfl ?_
          refine j_get (pc' := 48) rfl rfl flX7_13 (gm_o g μ) (mF_3 μ) ?_
          refine j_iload_n (pc' := 49) rfl rfl rfl ?_
          obtain ⟨c49, hf⟩ := o_chk hf
          refine j_iald (pc' := 50) rfl rfl (gm_3 g μ) (vin_ok c49) ?_
          refine j_imul (pc' := 51) rfl rfl ?_
          obtain ⟨y51, e51, hf⟩ := o_let hf
          rw [e51]
          refine j_istore (pc' := 53) (ls' := [(4, _), (0, _), (1, _), (2, _), (3, _)]) rfl rfl (Nat.le_of_ble_eq_true rfl) rfl ?_
          refine j_aload_n (pc' := 54) rfl rfl rfl ?_
          refine j_get (pc' := 57) rfl rfl flX7_91 (gm_o g μ) (mF_35 μ) ?_
          refine j_iload_n (pc' := 58) rfl rfl rfl ?_
          obtain ⟨c58, hf⟩ := o_chk hf
          refine j_zald (pc' := 59) rfl rfl (gm_35 g μ) (vin_ok c58) ?_
          refine j_if_eq (tgt := 75) (pc' := 62) rfl rfl rfl (fun c59 => ?_) (fun c59 => ?_)
          · rw [if_pos c59] at hf
            refine j_bipush (v := (-3)) (pc' := 77) rfl rfl (by decide) ?_
            have hf := Option.some.inj hf; subst hf
            exact j_iret rfl rfl (Nat.zero_le _) (Nat.zero_le _) ⟨rfl, rfl⟩
          · rw [if_neg c59] at hf
            refine j_aload_n (pc' := 63) rfl rfl rfl ?_
            refine j_get (pc' := 66) rfl rfl flX7_85 (gm_o g μ) (mF_33 μ) ?_
            refine j_iload_n (pc' := 67) rfl rfl rfl ?_
            obtain ⟨c67, hf⟩ := o_chk hf
            refine j_lald (pc' := 68) rfl rfl (gm_33 g μ) (vin_ok c67) ?_
            refine j_iload (pc' := 70) rfl rfl rfl ?_
            refine j_i2l (pc' := 71) rfl rfl ?_
            refine j_lcmp (pc' := 72) rfl rfl ?_
            refine j_if_ge (tgt := 78) (pc' := 75) rfl rfl rfl (fun c72 => ?_) (fun c72 => ?_)
            · rw [if_pos c72] at hf
              refine j_aload_n (pc' := 79) rfl rfl rfl ?_
              refine j_get (pc' := 82) rfl rfl flX7_142 (gm_o g μ) (mF_7 μ) ?_
              refine j_bipush (v := 30) (pc' := 84) rfl rfl (by decide) ?_
              refine j_icmp_ne (tgt := 90) (pc' := 87) rfl rfl rfl (fun c84 => ?_) (fun c84 => ?_)
              · rw [if_neg c84] at hf
                refine j_aload_n (pc' := 91) rfl rfl rfl ?_
                refine j_get (pc' := 94) rfl rfl flX7_85 (gm_o g μ) (mF_33 μ) ?_
                refine j_iload_n (pc' := 95) rfl rfl rfl ?_
                refine j_dup2_11 (pc' := 96) rfl rfl rfl rfl ?_
                obtain ⟨c96, hf⟩ := o_chk hf
                refine j_lald (pc' := 97) rfl rfl (gm_33 g μ) (vin_ok c96) ?_
                refine j_iload (pc' := 99) rfl rfl rfl ?_
                refine j_i2l (pc' := 100) rfl rfl ?_
                refine j_lsub (pc' := 101) rfl rfl ?_
                obtain ⟨c101, hf⟩ := o_chk hf
                obtain ⟨μ101, e101, hf⟩ := o_let hf
                refine j_last (pc' := 102) rfl rfl (gm_33 g μ) (by decide) (vin_ok c101) ?_
                rw [gs_33]; rw [e101]
                refine j_aload_n (pc' := 103) rfl rfl rfl ?_
                refine j_get (pc' := 106) rfl rfl flX7_88 (gm_o g μ101) (mF_34 μ101) ?_
                refine j_iload_n (pc' := 107) rfl rfl rfl ?_
                refine j_dup2_11 (pc' := 108) rfl rfl rfl rfl ?_
                obtain ⟨c108, hf⟩ := o_chk hf
                refine j_lald (pc' := 109) rfl rfl (gm_34 g μ101) (vin_ok c108) ?_
                refine j_ldc2 (pc' := 112) rfl rfl kcX7_247 ?_
                refine j_iload (pc' := 114) rfl rfl rfl ?_
                refine j_i2l (pc' := 115) rfl rfl ?_
                refine j_lmul (pc' := 116) rfl rfl ?_
                refine j_lsub (pc' := 117) rfl rfl ?_
                obtain ⟨c117, hf⟩ := o_chk hf
                obtain ⟨μ117, e117, hf⟩ := o_let hf
                refine j_last (pc' := 118) rfl rfl (gm_34 g μ101) (by decide) (vin_ok c117) ?_
                rw [gs_34]; rw [e117]
                refine j_aload_n (pc' := 119) rfl rfl rfl ?_
                refine j_iconst (v := 4) (pc' := 120) rfl rfl (by decide) ?_
                refine j_iload_n (pc' := 121) rfl rfl rfl ?_
                refine j_iload_n (pc' := 122) rfl rfl rfl ?_
                refine j_iload (pc' := 124) rfl rfl rfl ?_
                refine j_iconst (v := 0) (pc' := 125) rfl rfl (by decide) ?_
                refine j_iconst (v := (-1)) (pc' := 126) rfl rfl (by decide) ?_
                refine j_iload_n (pc' := 127) rfl rfl rfl ?_
                obtain ⟨r127, e127, hf⟩ := o_bind hf
                refine j_v7 (pc' := 130) rfl rfl miX7_newLot lnX7_156 (gm_o g μ117) rfl (s_X7_newLot g μ117 4 x2 x3 y51 0 (-1) x1 _ e127) (h_rm_of rfl) (Nat.le_of_ble_eq_true rfl) (c' := 0) (s' := 0) rfl rfl ?_
                have hf := Option.some.inj hf; subst hf
                exact j_iret rfl rfl (Nat.zero_le _) (Nat.zero_le _) ⟨rfl, rfl⟩
              · rw [if_pos c84] at hf
                refine j_bipush (v := (-4)) (pc' := 89) rfl rfl (by decide) ?_
                have hf := Option.some.inj hf; subst hf
                exact j_iret rfl rfl (Nat.zero_le _) (Nat.zero_le _) ⟨rfl, rfl⟩
            · rw [if_neg c72] at hf
              refine j_bipush (v := (-3)) (pc' := 77) rfl rfl (by decide) ?_
              have hf := Option.some.inj hf; subst hf
              exact j_iret rfl rfl (Nat.zero_le _) (Nat.zero_le _) ⟨rfl, rfl⟩
        · rw [if_neg c37] at hf
          refine j_bipush (v := (-2)) (pc' := 42) rfl rfl (by decide) ?_
          have hf := Option.some.inj hf; subst hf
          exact j_iret rfl rfl (Nat.zero_le _) (Nat.zero_le _) ⟨rfl, rfl⟩
    · rw [if_pos c12] at hf
      refine j_iconst (v := (-1)) (pc' := 16) rfl rfl (by decide) ?_
      have hf := Option.some.inj hf; subst hf
      exact j_iret rfl rfl (Nat.zero_le _) (Nat.zero_le _) ⟨rfl, rfl⟩
def rX7_mint : Room := { frames := 2, cells := 0, slots := 0, locals := 42 }
def f_X7_mint (μ : mS) (x1 : Int32) (x2 : Int32) : Option Int64 := (f_X7_isMint x1).bind fun r1 => if r1 = 0 then some (-1) else if x2 = 0 then bif vin x1 3 then some (μ.2 33 (x1).toNatClampNeg) else none else if x2 = 1 then bif vin x1 3 then some (μ.2 34 (x1).toNatClampNeg) else none else if x2 = 2 then bif vin x1 3 then if (μ.1 35 (x1).toNatClampNeg) = 0 then some 0 else some 1 else none else if x2 = 3 then bif vin x1 3 then some (μ.2 36 (x1).toNatClampNeg) else none else if x2 = 4 then bif vin x1 3 then some (μ.2 37 (x1).toNatClampNeg) else none else if x2 = 5 then (f_X7_meltedToday μ x1).bind fun r97 => some ((r97).toInt64) else some (-1)
set_option maxHeartbeats 4000000 in
set_option maxRecDepth 100000 in
theorem s_X7_mint (g : hH) (μ : mS) (x1 : Int32) (x2 : Int32) (r : Int64) (hf : f_X7_mint μ x1 x2 = some r) : SpD mX7_mint rX7_mint [.ref 5000, .int x1, .int x2] (gm g μ) (some (.long r)) (gm g μ) := by
  refine sp_of miX7_mint (Nat.le_of_ble_eq_true rfl) ?_
  show J _ _ _ 0 0 _ 0 [(0, .ref 5000), (1, .int x1), (2, .int x2)] []
  unfold f_X7_mint at hf
  refine j_iload_n (pc' := 1) rfl rfl rfl ?_
  obtain ⟨r1, e1, hf⟩ := o_bind hf
  refine j_s1 (pc' := 4) rfl rfl miX7_isMint lnX7_238 (s_X7_isMint (gm g μ) x1 _ e1) (h_rm_of rfl) (Nat.le_of_ble_eq_true rfl) (c' := 0) (s' := 0) rfl rfl ?_
  refine j_if_ne (tgt := 11) (pc' := 7) rfl rfl rfl (fun c4 => ?_) (fun c4 => ?_)
  · rw [if_neg c4] at hf
    refine j_iload_n (pc' := 12) rfl rfl rfl ?_
    by_cases w12_0 : x2 = 0
    · rw [if_pos w12_0] at hf
      rw [w12_0]
      refine j_tableIn (tgt := 52) rfl (by decide) (by decide) rfl rfl ?_
      refine j_aload_n (pc' := 53) rfl rfl rfl ?_
      refine j_get (pc' := 56) rfl rfl flX7_85 (gm_o g μ) (mF_33 μ) ?_
      refine j_iload_n (pc' := 57) rfl rfl rfl ?_
      obtain ⟨c57, hf⟩ := o_chk hf
      refine j_lald (pc' := 58) rfl rfl (gm_33 g μ) (vin_ok c57) ?_
      have hf := Option.some.inj hf; subst hf
      exact j_lret rfl rfl (Nat.zero_le _) (Nat.zero_le _) ⟨rfl, rfl⟩
    rw [if_neg w12_0] at hf
    by_cases w12_1 : x2 = 1
    · rw [if_pos w12_1] at hf
      rw [w12_1]
      refine j_tableIn (tgt := 59) rfl (by decide) (by decide) rfl rfl ?_
      refine j_aload_n (pc' := 60) rfl rfl rfl ?_
      refine j_get (pc' := 63) rfl rfl flX7_88 (gm_o g μ) (mF_34 μ) ?_
      refine j_iload_n (pc' := 64) rfl rfl rfl ?_
      obtain ⟨c64, hf⟩ := o_chk hf
      refine j_lald (pc' := 65) rfl rfl (gm_34 g μ) (vin_ok c64) ?_
      have hf := Option.some.inj hf; subst hf
      exact j_lret rfl rfl (Nat.zero_le _) (Nat.zero_le _) ⟨rfl, rfl⟩
    rw [if_neg w12_1] at hf
    by_cases w12_2 : x2 = 2
    · rw [if_pos w12_2] at hf
      rw [w12_2]
      refine j_tableIn (tgt := 66) rfl (by decide) (by decide) rfl rfl ?_
      refine j_aload_n (pc' := 67) rfl rfl rfl ?_
      refine j_get (pc' := 70) rfl rfl flX7_91 (gm_o g μ) (mF_35 μ) ?_
      refine j_iload_n (pc' := 71) rfl rfl rfl ?_
      obtain ⟨c71, hf⟩ := o_chk hf
      refine j_zald (pc' := 72) rfl rfl (gm_35 g μ) (vin_ok c71) ?_
      refine j_if_eq (tgt := 79) (pc' := 75) rfl rfl rfl (fun c72 => ?_) (fun c72 => ?_)
      · rw [if_pos c72] at hf
        refine j_lconst (v := 0) (pc' := 80) rfl rfl (by decide) ?_
        have hf := Option.some.inj hf; subst hf
        exact j_lret rfl rfl (Nat.zero_le _) (Nat.zero_le _) ⟨rfl, rfl⟩
      · rw [if_neg c72] at hf
        refine j_lconst (v := 1) (pc' := 76) rfl rfl (by decide) ?_
        refine j_goto (tgt := 80) rfl rfl ?_
        have hf := Option.some.inj hf; subst hf
        exact j_lret rfl rfl (Nat.zero_le _) (Nat.zero_le _) ⟨rfl, rfl⟩
    rw [if_neg w12_2] at hf
    by_cases w12_3 : x2 = 3
    · rw [if_pos w12_3] at hf
      rw [w12_3]
      refine j_tableIn (tgt := 81) rfl (by decide) (by decide) rfl rfl ?_
      refine j_aload_n (pc' := 82) rfl rfl rfl ?_
      refine j_get (pc' := 85) rfl rfl flX7_94 (gm_o g μ) (mF_36 μ) ?_
      refine j_iload_n (pc' := 86) rfl rfl rfl ?_
      obtain ⟨c86, hf⟩ := o_chk hf
      refine j_lald (pc' := 87) rfl rfl (gm_36 g μ) (vin_ok c86) ?_
      have hf := Option.some.inj hf; subst hf
      exact j_lret rfl rfl (Nat.zero_le _) (Nat.zero_le _) ⟨rfl, rfl⟩
    rw [if_neg w12_3] at hf
    by_cases w12_4 : x2 = 4
    · rw [if_pos w12_4] at hf
      rw [w12_4]
      refine j_tableIn (tgt := 88) rfl (by decide) (by decide) rfl rfl ?_
      refine j_aload_n (pc' := 89) rfl rfl rfl ?_
      refine j_get (pc' := 92) rfl rfl flX7_97 (gm_o g μ) (mF_37 μ) ?_
      refine j_iload_n (pc' := 93) rfl rfl rfl ?_
      obtain ⟨c93, hf⟩ := o_chk hf
      refine j_lald (pc' := 94) rfl rfl (gm_37 g μ) (vin_ok c93) ?_
      have hf := Option.some.inj hf; subst hf
      exact j_lret rfl rfl (Nat.zero_le _) (Nat.zero_le _) ⟨rfl, rfl⟩
    rw [if_neg w12_4] at hf
    by_cases w12_5 : x2 = 5
    · rw [if_pos w12_5] at hf
      rw [w12_5]
      refine j_tableIn (tgt := 95) rfl (by decide) (by decide) rfl rfl ?_
      refine j_aload_n (pc' := 96) rfl rfl rfl ?_
      refine j_iload_n (pc' := 97) rfl rfl rfl ?_
      obtain ⟨r97, e97, hf⟩ := o_bind hf
      refine j_v1 (pc' := 100) rfl rfl miX7_meltedToday lnX7_244 (gm_o g μ) rfl (s_X7_meltedToday g μ x1 _ e97) (h_rm_of rfl) (Nat.le_of_ble_eq_true rfl) (c' := 0) (s' := 0) rfl rfl ?_
      refine j_i2l (pc' := 101) rfl rfl ?_
      have hf := Option.some.inj hf; subst hf
      exact j_lret rfl rfl (Nat.zero_le _) (Nat.zero_le _) ⟨rfl, rfl⟩
    rw [if_neg w12_5] at hf
    refine j_tableOut (tgt := 102) rfl (sw_out (n := 5) (by decide) (fun v hv => by
      have : v = 0 ∨ v = 1 ∨ v = 2 ∨ v = 3 ∨ v = 4 ∨ v = 5 := by omega
      rcases this with rfl | rfl | rfl | rfl | rfl | rfl
      · exact w12_0
      · exact w12_1
      · exact w12_2
      · exact w12_3
      · exact w12_4
      · exact w12_5)) rfl ?_
    refine j_ldc2 (pc' := 105) rfl rfl kcX7_177 ?_
    have hf := Option.some.inj hf; subst hf
    exact j_lret rfl rfl (Nat.zero_le _) (Nat.zero_le _) ⟨rfl, rfl⟩
  · rw [if_pos c4] at hf
    refine j_ldc2 (pc' := 10) rfl rfl kcX7_177 ?_
    have hf := Option.some.inj hf; subst hf
    exact j_lret rfl rfl (Nat.zero_le _) (Nat.zero_le _) ⟨rfl, rfl⟩
def rX7_all : Room := { frames := 2, cells := 0, slots := 0, locals := 42 }
def f_X7_all_L7 : Nat → mS → Int64 → Int32 → Option (Int64)
  | 0, _, _, _ => none
  | n + 1, μ, x1, x3 => if (μ.1 7 0) ≤ x3 then some (x1) else bif vin x3 30 then if (μ.1 16 (x3).toNatClampNeg) = 0 then (f_X7_silverOf μ x3).bind fun r31 => f_X7_all_L7 n μ (x1 + r31) (x3 + 1) else f_X7_all_L7 n μ (x1 + 0) (x3 + 1) else none
set_option maxHeartbeats 4000000 in
set_option maxRecDepth 100000 in
theorem s_X7_all_L7 {Q : Option Value → hH → Prop} (g : hH) : ∀ (n : Nat) (μ : mS) (x1 : Int64) (x3 : Int32) (r : Int64), f_X7_all_L7 n μ x1 x3 = some r → (J mX7_all rX7_all Q 0 0 (gm g μ) 42 [(0, .ref 5000), (1, .long r)] []) → J mX7_all rX7_all Q 0 0 (gm g μ) 7 [(0, .ref 5000), (1, .long x1), (3, .int x3)] [] := by
  intro n
  induction n with
  | zero =>
    intro μ x1 x3 r hf
    cases hf
  | succ n ih =>
    intro μ x1 x3 r hf k0
    rw [f_X7_all_L7] at hf
    refine j_iload_n (pc' := 8) rfl rfl rfl ?_
    refine j_aload_n (pc' := 9) rfl rfl rfl ?_
    refine j_get (pc' := 12) rfl rfl flX7_142 (gm_o g μ) (mF_7 μ) ?_
    refine j_icmp_ge (tgt := 42) (pc' := 15) rfl rfl rfl (fun c12 => ?_) (fun c12 => ?_)
    · rw [if_pos c12] at hf
      have hf := Option.some.inj hf; subst hf
      exact j_sub (ls' := [(0, .ref 5000), (1, .long _)]) ⟨rfl, rfl, trivial⟩ (k0)
    · rw [if_neg c12] at hf
      refine j_lload_n (pc' := 16) rfl rfl rfl ?_
      refine j_aload_n (pc' := 17) rfl rfl rfl ?_
      refine j_get (pc' := 20) rfl rfl flX7_46 (gm_o g μ) (mF_16 μ) ?_
      refine j_iload_n (pc' := 21) rfl rfl rfl ?_
      obtain ⟨c21, hf⟩ := o_chk hf
      refine j_zald (pc' := 22) rfl rfl (gm_16 g μ) (vin_ok c21) ?_
      refine j_if_eq (tgt := 29) (pc' := 25) rfl rfl rfl (fun c22 => ?_) (fun c22 => ?_)
      · rw [if_pos c22] at hf
        refine j_aload_n (pc' := 30) rfl rfl rfl ?_
        refine j_iload_n (pc' := 31) rfl rfl rfl ?_
        obtain ⟨r31, e31, hf⟩ := o_bind hf
        refine j_v1 (pc' := 34) rfl rfl miX7_silverOf lnX7_173 (gm_o g μ) rfl (s_X7_silverOf g μ x3 _ e31) (h_rm_of rfl) (Nat.le_of_ble_eq_true rfl) (c' := 0) (s' := 0) rfl rfl ?_
        refine j_ladd (pc' := 35) rfl rfl ?_
        refine j_lstore_n (pc' := 36) (ls' := [(1, _), (0, _), (3, _)]) rfl rfl (Nat.le_of_ble_eq_true rfl) rfl ?_
        refine j_iinc (pc' := 39) (d := 1) (ls' := [(3, _), (1, _), (0, _)]) rfl rfl rfl (by decide) (Nat.le_of_ble_eq_true rfl) rfl ?_
        refine j_goto (tgt := 7) rfl rfl ?_
        refine j_sub (ls' := [(0, .ref 5000), (1, .long _), (3, .int _)]) ⟨rfl, rfl, rfl, trivial⟩ ?_
        exact ih _ _ _ _ hf k0
      · rw [if_neg c22] at hf
        refine j_lconst (v := 0) (pc' := 26) rfl rfl (by decide) ?_
        refine j_goto (tgt := 34) rfl rfl ?_
        refine j_ladd (pc' := 35) rfl rfl ?_
        refine j_lstore_n (pc' := 36) (ls' := [(1, _), (0, _), (3, _)]) rfl rfl (Nat.le_of_ble_eq_true rfl) rfl ?_
        refine j_iinc (pc' := 39) (d := 1) (ls' := [(3, _), (1, _), (0, _)]) rfl rfl rfl (by decide) (Nat.le_of_ble_eq_true rfl) rfl ?_
        refine j_goto (tgt := 7) rfl rfl ?_
        refine j_sub (ls' := [(0, .ref 5000), (1, .long _), (3, .int _)]) ⟨rfl, rfl, rfl, trivial⟩ ?_
        exact ih _ _ _ _ hf k0
def f_X7_all_L44 : Nat → mS → Int64 → Int32 → Option (Int64)
  | 0, _, _, _ => none
  | n + 1, μ, x1, x3 => if 3 ≤ x3 then some (x1) else bif vin x3 3 then bif vin x3 3 then letm (x1 + ((μ.2 34 (x3).toNatClampNeg) - (1000 * (μ.2 37 (x3).toNatClampNeg)))) fun y68 => f_X7_all_L44 n μ y68 (x3 + 1) else none else none
set_option maxHeartbeats 4000000 in
set_option maxRecDepth 100000 in
theorem s_X7_all_L44 {Q : Option Value → hH → Prop} (g : hH) : ∀ (n : Nat) (μ : mS) (x1 : Int64) (x3 : Int32) (r : Int64), f_X7_all_L44 n μ x1 x3 = some r → (J mX7_all rX7_all Q 0 0 (gm g μ) 75 [(1, .long r)] []) → J mX7_all rX7_all Q 0 0 (gm g μ) 44 [(0, .ref 5000), (1, .long x1), (3, .int x3)] [] := by
  intro n
  induction n with
  | zero =>
    intro μ x1 x3 r hf
    cases hf
  | succ n ih =>
    intro μ x1 x3 r hf k0
    rw [f_X7_all_L44] at hf
    refine j_iload_n (pc' := 45) rfl rfl rfl ?_
    refine j_iconst (v := 3) (pc' := 46) rfl rfl (by decide) ?_
    refine j_icmp_ge (tgt := 75) (pc' := 49) rfl rfl rfl (fun c46 => ?_) (fun c46 => ?_)
    · rw [if_pos c46] at hf
      have hf := Option.some.inj hf; subst hf
      exact j_sub (ls' := [(1, .long _)]) ⟨rfl, trivial⟩ (k0)
    · rw [if_neg c46] at hf
      refine j_lload_n (pc' := 50) rfl rfl rfl ?_
      refine j_aload_n (pc' := 51) rfl rfl rfl ?_
      refine j_get (pc' := 54) rfl rfl flX7_88 (gm_o g μ) (mF_34 μ) ?_
      refine j_iload_n (pc' := 55) rfl rfl rfl ?_
      obtain ⟨c55, hf⟩ := o_chk hf
      refine j_lald (pc' := 56) rfl rfl (gm_34 g μ) (vin_ok c55) ?_
      refine j_ldc2 (pc' := 59) rfl rfl kcX7_249 ?_
      refine j_aload_n (pc' := 60) rfl rfl rfl ?_
      refine j_get (pc' := 63) rfl rfl flX7_97 (gm_o g μ) (mF_37 μ) ?_
      refine j_iload_n (pc' := 64) rfl rfl rfl ?_
      obtain ⟨c64, hf⟩ := o_chk hf
      refine j_lald (pc' := 65) rfl rfl (gm_37 g μ) (vin_ok c64) ?_
      refine j_lmul (pc' := 66) rfl rfl ?_
      refine j_lsub (pc' := 67) rfl rfl ?_
      refine j_ladd (pc' := 68) rfl rfl ?_
      obtain ⟨y68, e68, hf⟩ := o_let hf
      rw [e68]
      refine j_lstore_n (pc' := 69) (ls' := [(1, _), (0, _), (3, _)]) rfl rfl (Nat.le_of_ble_eq_true rfl) rfl ?_
      refine j_iinc (pc' := 72) (d := 1) (ls' := [(3, _), (1, _), (0, _)]) rfl rfl rfl (by decide) (Nat.le_of_ble_eq_true rfl) rfl ?_
      refine j_goto (tgt := 44) rfl rfl ?_
      refine j_sub (ls' := [(0, .ref 5000), (1, .long _), (3, .int _)]) ⟨rfl, rfl, rfl, trivial⟩ ?_
      exact ih _ _ _ _ hf k0
def f_X7_all (μ : mS) : Option Int64 := (f_X7_all_L7 4000 μ (μ.2 41 0) 0).bind fun r7 => (f_X7_all_L44 4000 μ r7 0).bind fun r44 => some r44
set_option maxHeartbeats 4000000 in
set_option maxRecDepth 100000 in
theorem s_X7_all (g : hH) (μ : mS) (r : Int64) (hf : f_X7_all μ = some r) : SpD mX7_all rX7_all [.ref 5000] (gm g μ) (some (.long r)) (gm g μ) := by
  refine sp_of miX7_all (Nat.le_of_ble_eq_true rfl) ?_
  show J _ _ _ 0 0 _ 0 [(0, .ref 5000)] []
  unfold f_X7_all at hf
  refine j_aload_n (pc' := 1) rfl rfl rfl ?_
  refine j_get (pc' := 4) rfl rfl flX7_253 (gm_o g μ) (mF_41 μ) ?_
  refine j_lstore_n (pc' := 5) (ls' := [(1, _), (0, _)]) rfl rfl (Nat.le_of_ble_eq_true rfl) rfl ?_
  refine j_iconst (v := 0) (pc' := 6) rfl rfl (by decide) ?_
  refine j_istore_n (pc' := 7) (ls' := [(3, _), (1, _), (0, _)]) rfl rfl (Nat.le_of_ble_eq_true rfl) rfl ?_
  obtain ⟨r7, e7, hf⟩ := o_bind hf
  refine j_sub (ls' := [(0, .ref 5000), (1, .long (μ.2 41 0)), (3, .int 0)]) ⟨rfl, rfl, rfl, trivial⟩ ?_
  refine s_X7_all_L7 g _ _ _ _ _ e7 ?_
  refine j_iconst (v := 0) (pc' := 43) rfl rfl (by decide) ?_
  refine j_istore_n (pc' := 44) (ls' := [(3, _), (0, _), (1, _)]) rfl rfl (Nat.le_of_ble_eq_true rfl) rfl ?_
  obtain ⟨r44, e44, hf⟩ := o_bind hf
  refine j_sub (ls' := [(0, .ref 5000), (1, .long r7), (3, .int 0)]) ⟨rfl, rfl, rfl, trivial⟩ ?_
  refine s_X7_all_L44 g _ _ _ _ _ e44 ?_
  refine j_lload_n (pc' := 76) rfl rfl rfl ?_
  have hf := Option.some.inj hf; subst hf
  exact j_lret rfl rfl (Nat.zero_le _) (Nat.zero_le _) ⟨rfl, rfl⟩
def rX7_drawn : Room := { frames := 2, cells := 0, slots := 0, locals := 45 }
def f_X7_drawn (μ : mS) (x1 : Int32) (x2 : Int32) (x3 : Int32) (x4 : Int32) : Option Int32 := (f_X7_isLot μ x1).bind fun r2 => if r2 = 0 then some (-1) else (f_X7_in x4 0 1).bind fun r12 => if r12 = 0 then some (-1) else (f_X7_isDrawn μ x1 x2 x3).bind fun r24 => if r24 = 0 then some (-2) else bif vin x1 30 then if x4 = 0 then (f_X7_lowest μ x1).bind fun r49 => some (x3 + (((μ.1 10 (x1).toNatClampNeg) - x2) * r49)) else bif vin x1 30 then bif vin (μ.1 9 (x1).toNatClampNeg) 8 then some (x3 + (((μ.1 10 (x1).toNatClampNeg) - x2) * (μ.1 3 ((μ.1 9 (x1).toNatClampNeg)).toNatClampNeg))) else none else none else none
set_option maxHeartbeats 4000000 in
set_option maxRecDepth 100000 in
theorem s_X7_drawn (g : hH) (μ : mS) (x1 : Int32) (x2 : Int32) (x3 : Int32) (x4 : Int32) (r : Int32) (hf : f_X7_drawn μ x1 x2 x3 x4 = some r) : SpD mX7_drawn rX7_drawn [.ref 5000, .int x1, .int x2, .int x3, .int x4] (gm g μ) (some (.int r)) (gm g μ) := by
  refine sp_of miX7_drawn (Nat.le_of_ble_eq_true rfl) ?_
  show J _ _ _ 0 0 _ 0 [(0, .ref 5000), (1, .int x1), (2, .int x2), (3, .int x3), (4, .int x4)] []
  unfold f_X7_drawn at hf
  refine j_aload_n (pc' := 1) rfl rfl rfl ?_
  refine j_iload_n (pc' := 2) rfl rfl rfl ?_
  obtain ⟨r2, e2, hf⟩ := o_bind hf
  refine j_v1 (pc' := 5) rfl rfl miX7_isLot lnX7_160 (gm_o g μ) rfl (s_X7_isLot g μ x1 _ e2) (h_rm_of rfl) (Nat.le_of_ble_eq_true rfl) (c' := 0) (s' := 0) rfl rfl ?_
  refine j_if_eq (tgt := 18) (pc' := 8) rfl rfl rfl (fun c5 => ?_) (fun c5 => ?_)
  · rw [if_pos c5] at hf
    refine j_iconst (v := (-1)) (pc' := 19) rfl rfl (by decide) ?_
    have hf := Option.some.inj hf; subst hf
    exact j_iret rfl rfl (Nat.zero_le _) (Nat.zero_le _) ⟨rfl, rfl⟩
  · rw [if_neg c5] at hf
    refine j_iload (pc' := 10) rfl rfl rfl ?_
    refine j_iconst (v := 0) (pc' := 11) rfl rfl (by decide) ?_
    refine j_iconst (v := 1) (pc' := 12) rfl rfl (by decide) ?_
    obtain ⟨r12, e12, hf⟩ := o_bind hf
    refine j_s3 (pc' := 15) rfl rfl miX7_in lnX7_138 (s_X7_in (gm g μ) x4 0 1 _ e12) (h_rm_of rfl) (Nat.le_of_ble_eq_true rfl) (c' := 0) (s' := 0) rfl rfl ?_
    refine j_if_ne (tgt := 20) (pc' := 18) rfl rfl rfl (fun c15 => ?_) (fun c15 => ?_)
    · rw [if_neg c15] at hf
      refine j_aload_n (pc' := 21) rfl rfl rfl ?_
      refine j_iload_n (pc' := 22) rfl rfl rfl ?_
      refine j_iload_n (pc' := 23) rfl rfl rfl ?_
      refine j_iload_n (pc' := 24) rfl rfl rfl ?_
      obtain ⟨r24, e24, hf⟩ := o_bind hf
      refine j_v3 (pc' := 27) rfl rfl miX7_isDrawn lnX7_225 (gm_o g μ) rfl (s_X7_isDrawn g μ x1 x2 x3 _ e24) (h_rm_of rfl) (Nat.le_of_ble_eq_true rfl) (c' := 0) (s' := 0) rfl rfl ?_
      refine j_if_ne (tgt := 33) (pc' := 30) rfl rfl rfl (fun c27 => ?_) (fun c27 => ?_)
      · rw [if_neg c27] at hf
        refine j_iload_n (pc' := 34) rfl rfl rfl ?_
        refine j_aload_n (pc' := 35) rfl rfl rfl ?_
        refine j_get (pc' := 38) rfl rfl flX7_28 (gm_o g μ) (mF_10 μ) ?_
        refine j_iload_n (pc' := 39) rfl rfl rfl ?_
        obtain ⟨c39, hf⟩ := o_chk hf
        refine j_iald (pc' := 40) rfl rfl (gm_10 g μ) (vin_ok c39) ?_
        refine j_iload_n (pc' := 41) rfl rfl rfl ?_
        refine j_isub (pc' := 42) rfl rfl ?_
        refine j_iload (pc' := 44) rfl rfl rfl ?_
        refine j_if_ne (tgt := 55) (pc' := 47) rfl rfl rfl (fun c44 => ?_) (fun c44 => ?_)
        · rw [if_neg c44] at hf
          refine j_aload_n (pc' := 56) rfl rfl rfl ?_
          refine j_get (pc' := 59) rfl rfl flX7_13 (gm_o g μ) (mF_3 μ) ?_
          refine j_aload_n (pc' := 60) rfl rfl rfl ?_
          refine j_get (pc' := 63) rfl rfl flX7_25 (gm_o g μ) (mF_9 μ) ?_
          refine j_iload_n (pc' := 64) rfl rfl rfl ?_
          obtain ⟨c64, hf⟩ := o_chk hf
          refine j_iald (pc' := 65) rfl rfl (gm_9 g μ) (vin_ok c64) ?_
          obtain ⟨c65, hf⟩ := o_chk hf
          refine j_iald (pc' := 66) rfl rfl (gm_3 g μ) (vin_ok c65) ?_
          refine j_imul (pc' := 67) rfl rfl ?_
          refine j_iadd (pc' := 68) rfl rfl ?_
          have hf := Option.some.inj hf; subst hf
          exact j_iret rfl rfl (Nat.zero_le _) (Nat.zero_le _) ⟨rfl, rfl⟩
        · rw [if_pos c44] at hf
          refine j_aload_n (pc' := 48) rfl rfl rfl ?_
          refine j_iload_n (pc' := 49) rfl rfl rfl ?_
          obtain ⟨r49, e49, hf⟩ := o_bind hf
          refine j_v1 (pc' := 52) rfl rfl miX7_lowest lnX7_222 (gm_o g μ) rfl (s_X7_lowest g μ x1 _ e49) (h_rm_of rfl) (Nat.le_of_ble_eq_true rfl) (c' := 0) (s' := 0) rfl rfl ?_
          refine j_goto (tgt := 66) rfl rfl ?_
          refine j_imul (pc' := 67) rfl rfl ?_
          refine j_iadd (pc' := 68) rfl rfl ?_
          have hf := Option.some.inj hf; subst hf
          exact j_iret rfl rfl (Nat.zero_le _) (Nat.zero_le _) ⟨rfl, rfl⟩
      · rw [if_pos c27] at hf
        refine j_bipush (v := (-2)) (pc' := 32) rfl rfl (by decide) ?_
        have hf := Option.some.inj hf; subst hf
        exact j_iret rfl rfl (Nat.zero_le _) (Nat.zero_le _) ⟨rfl, rfl⟩
    · rw [if_pos c15] at hf
      refine j_iconst (v := (-1)) (pc' := 19) rfl rfl (by decide) ?_
      have hf := Option.some.inj hf; subst hf
      exact j_iret rfl rfl (Nat.zero_le _) (Nat.zero_le _) ⟨rfl, rfl⟩
def rX7_wish : Room := { frames := 2, cells := 0, slots := 0, locals := 42 }
def f_X7_wish (μ : mS) (x1 : Int32) (x2 : Int32) (x3 : Int32) : Option (Int32 × mS) := (f_X7_in x1 0 1).bind fun r3 => if r3 = 0 then some ((-1), μ) else if x1 = 0 then (f_X7_isMint x2).bind fun r14 => if r14 = 0 then some ((-1), μ) else (f_X7_in x3 0 1000).bind fun r37 => if r37 = 0 then some ((-2), μ) else if x1 = 0 then bif vin x2 3 then if x1 = 0 then bif vin x2 3 then letm (seti μ 42 (va_up (μ.1 42) (x2).toNatClampNeg x3)) fun μ77 => some ((μ.1 42 (x2).toNatClampNeg), μ77) else none else bif vin x2 6 then letm (seti μ 43 (va_up (μ.1 43) (x2).toNatClampNeg x3)) fun μ87 => some ((μ.1 42 (x2).toNatClampNeg), μ87) else none else none else bif vin x2 6 then if x1 = 0 then bif vin x2 3 then letm (seti μ 42 (va_up (μ.1 42) (x2).toNatClampNeg x3)) fun μ77 => some ((μ.1 43 (x2).toNatClampNeg), μ77) else none else bif vin x2 6 then letm (seti μ 43 (va_up (μ.1 43) (x2).toNatClampNeg x3)) fun μ87 => some ((μ.1 43 (x2).toNatClampNeg), μ87) else none else none else (f_X7_isTown x2).bind fun r24 => if r24 = 0 then some ((-1), μ) else (f_X7_in x3 0 1000).bind fun r37 => if r37 = 0 then some ((-2), μ) else if x1 = 0 then bif vin x2 3 then if x1 = 0 then bif vin x2 3 then letm (seti μ 42 (va_up (μ.1 42) (x2).toNatClampNeg x3)) fun μ77 => some ((μ.1 42 (x2).toNatClampNeg), μ77) else none else bif vin x2 6 then letm (seti μ 43 (va_up (μ.1 43) (x2).toNatClampNeg x3)) fun μ87 => some ((μ.1 42 (x2).toNatClampNeg), μ87) else none else none else bif vin x2 6 then if x1 = 0 then bif vin x2 3 then letm (seti μ 42 (va_up (μ.1 42) (x2).toNatClampNeg x3)) fun μ77 => some ((μ.1 43 (x2).toNatClampNeg), μ77) else none else bif vin x2 6 then letm (seti μ 43 (va_up (μ.1 43) (x2).toNatClampNeg x3)) fun μ87 => some ((μ.1 43 (x2).toNatClampNeg), μ87) else none else none
set_option maxHeartbeats 4000000 in
set_option maxRecDepth 100000 in
theorem s_X7_wish (g : hH) (μ : mS) (x1 : Int32) (x2 : Int32) (x3 : Int32) (r : (Int32 × mS)) (hf : f_X7_wish μ x1 x2 x3 = some r) : SpD mX7_wish rX7_wish [.ref 5000, .int x1, .int x2, .int x3] (gm g μ) (some (.int r.1)) (gm g r.2) := by
  refine sp_of miX7_wish (Nat.le_of_ble_eq_true rfl) ?_
  show J _ _ _ 0 0 _ 0 [(0, .ref 5000), (1, .int x1), (2, .int x2), (3, .int x3)] []
  unfold f_X7_wish at hf
  refine j_iload_n (pc' := 1) rfl rfl rfl ?_
  refine j_iconst (v := 0) (pc' := 2) rfl rfl (by decide) ?_
  refine j_iconst (v := 1) (pc' := 3) rfl rfl (by decide) ?_
  obtain ⟨r3, e3, hf⟩ := o_bind hf
  refine j_s3 (pc' := 6) rfl rfl miX7_in lnX7_138 (s_X7_in (gm g μ) x1 0 1 _ e3) (h_rm_of rfl) (Nat.le_of_ble_eq_true rfl) (c' := 0) (s' := 0) rfl rfl ?_
  refine j_if_eq (tgt := 30) (pc' := 9) rfl rfl rfl (fun c6 => ?_) (fun c6 => ?_)
  · rw [if_pos c6] at hf
    refine j_iconst (v := (-1)) (pc' := 31) rfl rfl (by decide) ?_
    have hf := Option.some.inj hf; subst hf
    exact j_iret rfl rfl (Nat.zero_le _) (Nat.zero_le _) ⟨rfl, rfl⟩
  · rw [if_neg c6] at hf
    refine j_iload_n (pc' := 10) rfl rfl rfl ?_
    refine j_if_ne (tgt := 23) (pc' := 13) rfl rfl rfl (fun c10 => ?_) (fun c10 => ?_)
    · rw [if_neg c10] at hf
      refine j_iload_n (pc' := 24) rfl rfl rfl ?_
      obtain ⟨r24, e24, hf⟩ := o_bind hf
      refine j_s1 (pc' := 27) rfl rfl miX7_isTown lnX7_149 (s_X7_isTown (gm g μ) x2 _ e24) (h_rm_of rfl) (Nat.le_of_ble_eq_true rfl) (c' := 0) (s' := 0) rfl rfl ?_
      refine j_if_ne (tgt := 32) (pc' := 30) rfl rfl rfl (fun c27 => ?_) (fun c27 => ?_)
      · rw [if_neg c27] at hf
        refine j_iload_n (pc' := 33) rfl rfl rfl ?_
        refine j_iconst (v := 0) (pc' := 34) rfl rfl (by decide) ?_
        refine j_sipush (v := 1000) (pc' := 37) rfl rfl (by decide) ?_
        obtain ⟨r37, e37, hf⟩ := o_bind hf
        refine j_s3 (pc' := 40) rfl rfl miX7_in lnX7_138 (s_X7_in (gm g μ) x3 0 1000 _ e37) (h_rm_of rfl) (Nat.le_of_ble_eq_true rfl) (c' := 0) (s' := 0) rfl rfl ?_
        refine j_if_ne (tgt := 46) (pc' := 43) rfl rfl rfl (fun c40 => ?_) (fun c40 => ?_)
        · rw [if_neg c40] at hf
          refine j_iload_n (pc' := 47) rfl rfl rfl ?_
          refine j_if_ne (tgt := 59) (pc' := 50) rfl rfl rfl (fun c47 => ?_) (fun c47 => ?_)
          · rw [if_neg c47] at hf
            refine j_aload_n (pc' := 60) rfl rfl rfl ?_
            refine j_get (pc' := 63) rfl rfl flX7_113 (gm_o g μ) (mF_43 μ) ?_
            refine j_iload_n (pc' := 64) rfl rfl rfl ?_
            obtain ⟨c64, hf⟩ := o_chk hf
            refine j_iald (pc' := 65) rfl rfl (gm_43 g μ) (vin_ok c64) ?_
            refine j_istore (pc' := 67) (ls' := [(4, _), (0, _), (1, _), (2, _), (3, _)]) rfl rfl (Nat.le_of_ble_eq_true rfl) rfl ?_
            refine j_iload_n (pc' := 68) rfl rfl rfl ?_
            refine j_if_ne (tgt := 81) (pc' := 71) rfl rfl rfl (fun c68 => ?_) (fun c68 => ?_)
            · rw [if_neg c68] at hf
              refine j_aload_n (pc' := 82) rfl rfl rfl ?_
              refine j_get (pc' := 85) rfl rfl flX7_113 (gm_o g μ) (mF_43 μ) ?_
              refine j_iload_n (pc' := 86) rfl rfl rfl ?_
              refine j_iload_n (pc' := 87) rfl rfl rfl ?_
              obtain ⟨c87, hf⟩ := o_chk hf
              obtain ⟨μ87, e87, hf⟩ := o_let hf
              refine j_iast (pc' := 88) rfl rfl (gm_43 g μ) (by decide) (vin_ok c87) ?_
              rw [gs_43]; rw [e87]
              refine j_iload (pc' := 90) rfl rfl rfl ?_
              have hf := Option.some.inj hf; subst hf
              exact j_iret rfl rfl (Nat.zero_le _) (Nat.zero_le _) ⟨rfl, rfl⟩
            · rw [if_pos c68] at hf
              refine j_aload_n (pc' := 72) rfl rfl rfl ?_
              refine j_get (pc' := 75) rfl rfl flX7_110 (gm_o g μ) (mF_42 μ) ?_
              refine j_iload_n (pc' := 76) rfl rfl rfl ?_
              refine j_iload_n (pc' := 77) rfl rfl rfl ?_
              obtain ⟨c77, hf⟩ := o_chk hf
              obtain ⟨μ77, e77, hf⟩ := o_let hf
              refine j_iast (pc' := 78) rfl rfl (gm_42 g μ) (by decide) (vin_ok c77) ?_
              rw [gs_42]; rw [e77]
              refine j_goto (tgt := 88) rfl rfl ?_
              refine j_iload (pc' := 90) rfl rfl rfl ?_
              have hf := Option.some.inj hf; subst hf
              exact j_iret rfl rfl (Nat.zero_le _) (Nat.zero_le _) ⟨rfl, rfl⟩
          · rw [if_pos c47] at hf
            refine j_aload_n (pc' := 51) rfl rfl rfl ?_
            refine j_get (pc' := 54) rfl rfl flX7_110 (gm_o g μ) (mF_42 μ) ?_
            refine j_iload_n (pc' := 55) rfl rfl rfl ?_
            obtain ⟨c55, hf⟩ := o_chk hf
            refine j_iald (pc' := 56) rfl rfl (gm_42 g μ) (vin_ok c55) ?_
            refine j_goto (tgt := 65) rfl rfl ?_
            refine j_istore (pc' := 67) (ls' := [(4, _), (0, _), (1, _), (2, _), (3, _)]) rfl rfl (Nat.le_of_ble_eq_true rfl) rfl ?_
            refine j_iload_n (pc' := 68) rfl rfl rfl ?_
            refine j_if_ne (tgt := 81) (pc' := 71) rfl rfl rfl (fun c68 => ?_) (fun c68 => ?_)
            · rw [if_neg c68] at hf
              refine j_aload_n (pc' := 82) rfl rfl rfl ?_
              refine j_get (pc' := 85) rfl rfl flX7_113 (gm_o g μ) (mF_43 μ) ?_
              refine j_iload_n (pc' := 86) rfl rfl rfl ?_
              refine j_iload_n (pc' := 87) rfl rfl rfl ?_
              obtain ⟨c87, hf⟩ := o_chk hf
              obtain ⟨μ87, e87, hf⟩ := o_let hf
              refine j_iast (pc' := 88) rfl rfl (gm_43 g μ) (by decide) (vin_ok c87) ?_
              rw [gs_43]; rw [e87]
              refine j_iload (pc' := 90) rfl rfl rfl ?_
              have hf := Option.some.inj hf; subst hf
              exact j_iret rfl rfl (Nat.zero_le _) (Nat.zero_le _) ⟨rfl, rfl⟩
            · rw [if_pos c68] at hf
              refine j_aload_n (pc' := 72) rfl rfl rfl ?_
              refine j_get (pc' := 75) rfl rfl flX7_110 (gm_o g μ) (mF_42 μ) ?_
              refine j_iload_n (pc' := 76) rfl rfl rfl ?_
              refine j_iload_n (pc' := 77) rfl rfl rfl ?_
              obtain ⟨c77, hf⟩ := o_chk hf
              obtain ⟨μ77, e77, hf⟩ := o_let hf
              refine j_iast (pc' := 78) rfl rfl (gm_42 g μ) (by decide) (vin_ok c77) ?_
              rw [gs_42]; rw [e77]
              refine j_goto (tgt := 88) rfl rfl ?_
              refine j_iload (pc' := 90) rfl rfl rfl ?_
              have hf := Option.some.inj hf; subst hf
              exact j_iret rfl rfl (Nat.zero_le _) (Nat.zero_le _) ⟨rfl, rfl⟩
        · rw [if_pos c40] at hf
          refine j_bipush (v := (-2)) (pc' := 45) rfl rfl (by decide) ?_
          have hf := Option.some.inj hf; subst hf
          exact j_iret rfl rfl (Nat.zero_le _) (Nat.zero_le _) ⟨rfl, rfl⟩
      · rw [if_pos c27] at hf
        refine j_iconst (v := (-1)) (pc' := 31) rfl rfl (by decide) ?_
        have hf := Option.some.inj hf; subst hf
        exact j_iret rfl rfl (Nat.zero_le _) (Nat.zero_le _) ⟨rfl, rfl⟩
    · rw [if_pos c10] at hf
      refine j_iload_n (pc' := 14) rfl rfl rfl ?_
      obtain ⟨r14, e14, hf⟩ := o_bind hf
      refine j_s1 (pc' := 17) rfl rfl miX7_isMint lnX7_238 (s_X7_isMint (gm g μ) x2 _ e14) (h_rm_of rfl) (Nat.le_of_ble_eq_true rfl) (c' := 0) (s' := 0) rfl rfl ?_
      refine j_if_ne (tgt := 32) (pc' := 20) rfl rfl rfl (fun c17 => ?_) (fun c17 => ?_)
      · rw [if_neg c17] at hf
        refine j_iload_n (pc' := 33) rfl rfl rfl ?_
        refine j_iconst (v := 0) (pc' := 34) rfl rfl (by decide) ?_
        refine j_sipush (v := 1000) (pc' := 37) rfl rfl (by decide) ?_
        obtain ⟨r37, e37, hf⟩ := o_bind hf
        refine j_s3 (pc' := 40) rfl rfl miX7_in lnX7_138 (s_X7_in (gm g μ) x3 0 1000 _ e37) (h_rm_of rfl) (Nat.le_of_ble_eq_true rfl) (c' := 0) (s' := 0) rfl rfl ?_
        refine j_if_ne (tgt := 46) (pc' := 43) rfl rfl rfl (fun c40 => ?_) (fun c40 => ?_)
        · rw [if_neg c40] at hf
          refine j_iload_n (pc' := 47) rfl rfl rfl ?_
          refine j_if_ne (tgt := 59) (pc' := 50) rfl rfl rfl (fun c47 => ?_) (fun c47 => ?_)
          · rw [if_neg c47] at hf
            refine j_aload_n (pc' := 60) rfl rfl rfl ?_
            refine j_get (pc' := 63) rfl rfl flX7_113 (gm_o g μ) (mF_43 μ) ?_
            refine j_iload_n (pc' := 64) rfl rfl rfl ?_
            obtain ⟨c64, hf⟩ := o_chk hf
            refine j_iald (pc' := 65) rfl rfl (gm_43 g μ) (vin_ok c64) ?_
            refine j_istore (pc' := 67) (ls' := [(4, _), (0, _), (1, _), (2, _), (3, _)]) rfl rfl (Nat.le_of_ble_eq_true rfl) rfl ?_
            refine j_iload_n (pc' := 68) rfl rfl rfl ?_
            refine j_if_ne (tgt := 81) (pc' := 71) rfl rfl rfl (fun c68 => ?_) (fun c68 => ?_)
            · rw [if_neg c68] at hf
              refine j_aload_n (pc' := 82) rfl rfl rfl ?_
              refine j_get (pc' := 85) rfl rfl flX7_113 (gm_o g μ) (mF_43 μ) ?_
              refine j_iload_n (pc' := 86) rfl rfl rfl ?_
              refine j_iload_n (pc' := 87) rfl rfl rfl ?_
              obtain ⟨c87, hf⟩ := o_chk hf
              obtain ⟨μ87, e87, hf⟩ := o_let hf
              refine j_iast (pc' := 88) rfl rfl (gm_43 g μ) (by decide) (vin_ok c87) ?_
              rw [gs_43]; rw [e87]
              refine j_iload (pc' := 90) rfl rfl rfl ?_
              have hf := Option.some.inj hf; subst hf
              exact j_iret rfl rfl (Nat.zero_le _) (Nat.zero_le _) ⟨rfl, rfl⟩
            · rw [if_pos c68] at hf
              refine j_aload_n (pc' := 72) rfl rfl rfl ?_
              refine j_get (pc' := 75) rfl rfl flX7_110 (gm_o g μ) (mF_42 μ) ?_
              refine j_iload_n (pc' := 76) rfl rfl rfl ?_
              refine j_iload_n (pc' := 77) rfl rfl rfl ?_
              obtain ⟨c77, hf⟩ := o_chk hf
              obtain ⟨μ77, e77, hf⟩ := o_let hf
              refine j_iast (pc' := 78) rfl rfl (gm_42 g μ) (by decide) (vin_ok c77) ?_
              rw [gs_42]; rw [e77]
              refine j_goto (tgt := 88) rfl rfl ?_
              refine j_iload (pc' := 90) rfl rfl rfl ?_
              have hf := Option.some.inj hf; subst hf
              exact j_iret rfl rfl (Nat.zero_le _) (Nat.zero_le _) ⟨rfl, rfl⟩
          · rw [if_pos c47] at hf
            refine j_aload_n (pc' := 51) rfl rfl rfl ?_
            refine j_get (pc' := 54) rfl rfl flX7_110 (gm_o g μ) (mF_42 μ) ?_
            refine j_iload_n (pc' := 55) rfl rfl rfl ?_
            obtain ⟨c55, hf⟩ := o_chk hf
            refine j_iald (pc' := 56) rfl rfl (gm_42 g μ) (vin_ok c55) ?_
            refine j_goto (tgt := 65) rfl rfl ?_
            refine j_istore (pc' := 67) (ls' := [(4, _), (0, _), (1, _), (2, _), (3, _)]) rfl rfl (Nat.le_of_ble_eq_true rfl) rfl ?_
            refine j_iload_n (pc' := 68) rfl rfl rfl ?_
            refine j_if_ne (tgt := 81) (pc' := 71) rfl rfl rfl (fun c68 => ?_) (fun c68 => ?_)
            · rw [if_neg c68] at hf
              refine j_aload_n (pc' := 82) rfl rfl rfl ?_
              refine j_get (pc' := 85) rfl rfl flX7_113 (gm_o g μ) (mF_43 μ) ?_
              refine j_iload_n (pc' := 86) rfl rfl rfl ?_
              refine j_iload_n (pc' := 87) rfl rfl rfl ?_
              obtain ⟨c87, hf⟩ := o_chk hf
              obtain ⟨μ87, e87, hf⟩ := o_let hf
              refine j_iast (pc' := 88) rfl rfl (gm_43 g μ) (by decide) (vin_ok c87) ?_
              rw [gs_43]; rw [e87]
              refine j_iload (pc' := 90) rfl rfl rfl ?_
              have hf := Option.some.inj hf; subst hf
              exact j_iret rfl rfl (Nat.zero_le _) (Nat.zero_le _) ⟨rfl, rfl⟩
            · rw [if_pos c68] at hf
              refine j_aload_n (pc' := 72) rfl rfl rfl ?_
              refine j_get (pc' := 75) rfl rfl flX7_110 (gm_o g μ) (mF_42 μ) ?_
              refine j_iload_n (pc' := 76) rfl rfl rfl ?_
              refine j_iload_n (pc' := 77) rfl rfl rfl ?_
              obtain ⟨c77, hf⟩ := o_chk hf
              obtain ⟨μ77, e77, hf⟩ := o_let hf
              refine j_iast (pc' := 78) rfl rfl (gm_42 g μ) (by decide) (vin_ok c77) ?_
              rw [gs_42]; rw [e77]
              refine j_goto (tgt := 88) rfl rfl ?_
              refine j_iload (pc' := 90) rfl rfl rfl ?_
              have hf := Option.some.inj hf; subst hf
              exact j_iret rfl rfl (Nat.zero_le _) (Nat.zero_le _) ⟨rfl, rfl⟩
        · rw [if_pos c40] at hf
          refine j_bipush (v := (-2)) (pc' := 45) rfl rfl (by decide) ?_
          have hf := Option.some.inj hf; subst hf
          exact j_iret rfl rfl (Nat.zero_le _) (Nat.zero_le _) ⟨rfl, rfl⟩
      · rw [if_pos c17] at hf
        refine j_goto (tgt := 30) rfl rfl ?_
        refine j_iconst (v := (-1)) (pc' := 31) rfl rfl (by decide) ?_
        have hf := Option.some.inj hf; subst hf
        exact j_iret rfl rfl (Nat.zero_le _) (Nat.zero_le _) ⟨rfl, rfl⟩
def rX7_flow : Room := { frames := 2, cells := 0, slots := 0, locals := 47 }
def f_X7_flow_L2 : Nat → mS → Int32 → Option (mS)
  | 0, _, _ => none
  | n + 1, μ, x1 => if 18 ≤ x1 then some (μ) else bif vin x1 18 then letm (seti μ 44 (va_up (μ.1 44) (x1).toNatClampNeg 0)) fun μ14 => f_X7_flow_L2 n μ14 (x1 + 1) else none
set_option maxHeartbeats 4000000 in
set_option maxRecDepth 100000 in
theorem s_X7_flow_L2 {Q : Option Value → hH → Prop} (g : hH) : ∀ (n : Nat) (μ : mS) (x1 : Int32) (r : mS), f_X7_flow_L2 n μ x1 = some r → (J mX7_flow rX7_flow Q 0 0 (gm g r) 21 [(0, .ref 5000)] []) → J mX7_flow rX7_flow Q 0 0 (gm g μ) 2 [(0, .ref 5000), (1, .int x1)] [] := by
  intro n
  induction n with
  | zero =>
    intro μ x1 r hf
    cases hf
  | succ n ih =>
    intro μ x1 r hf k0
    rw [f_X7_flow_L2] at hf
    refine j_iload_n (pc' := 3) rfl rfl rfl ?_
    refine j_bipush (v := 18) (pc' := 5) rfl rfl (by decide) ?_
    refine j_icmp_ge (tgt := 21) (pc' := 8) rfl rfl rfl (fun c5 => ?_) (fun c5 => ?_)
    · rw [if_pos c5] at hf
      have hf := Option.some.inj hf; subst hf
      exact j_sub (ls' := [(0, .ref 5000)]) ⟨rfl, trivial⟩ (k0)
    · rw [if_neg c5] at hf
      refine j_aload_n (pc' := 9) rfl rfl rfl ?_
      refine j_get (pc' := 12) rfl rfl flX7_116 (gm_o g μ) (mF_44 μ) ?_
      refine j_iload_n (pc' := 13) rfl rfl rfl ?_
      refine j_iconst (v := 0) (pc' := 14) rfl rfl (by decide) ?_
      obtain ⟨c14, hf⟩ := o_chk hf
      obtain ⟨μ14, e14, hf⟩ := o_let hf
      refine j_iast (pc' := 15) rfl rfl (gm_44 g μ) (by decide) (vin_ok c14) ?_
      rw [gs_44]; rw [e14]
      refine j_iinc (pc' := 18) (d := 1) (ls' := [(1, _), (0, _)]) rfl rfl rfl (by decide) (Nat.le_of_ble_eq_true rfl) rfl ?_
      refine j_goto (tgt := 2) rfl rfl ?_
      refine j_sub (ls' := [(0, .ref 5000), (1, .int _)]) ⟨rfl, rfl, trivial⟩ ?_
      exact ih _ _ _ hf k0
def f_X7_flow_L23 : Nat → mS → Int32 → Option (mS)
  | 0, _, _ => none
  | n + 1, μ, x1 => if 3 ≤ x1 then some (μ) else bif vin x1 3 then bif vin x1 3 then letm (seti μ 45 (va_up (μ.1 45) (x1).toNatClampNeg (μ.1 42 (x1).toNatClampNeg))) fun μ39 => f_X7_flow_L23 n μ39 (x1 + 1) else none else none
set_option maxHeartbeats 4000000 in
set_option maxRecDepth 100000 in
theorem s_X7_flow_L23 {Q : Option Value → hH → Prop} (g : hH) : ∀ (n : Nat) (μ : mS) (x1 : Int32) (r : mS), f_X7_flow_L23 n μ x1 = some r → (J mX7_flow rX7_flow Q 0 0 (gm g r) 46 [(0, .ref 5000)] []) → J mX7_flow rX7_flow Q 0 0 (gm g μ) 23 [(0, .ref 5000), (1, .int x1)] [] := by
  intro n
  induction n with
  | zero =>
    intro μ x1 r hf
    cases hf
  | succ n ih =>
    intro μ x1 r hf k0
    rw [f_X7_flow_L23] at hf
    refine j_iload_n (pc' := 24) rfl rfl rfl ?_
    refine j_iconst (v := 3) (pc' := 25) rfl rfl (by decide) ?_
    refine j_icmp_ge (tgt := 46) (pc' := 28) rfl rfl rfl (fun c25 => ?_) (fun c25 => ?_)
    · rw [if_pos c25] at hf
      have hf := Option.some.inj hf; subst hf
      exact j_sub (ls' := [(0, .ref 5000)]) ⟨rfl, trivial⟩ (k0)
    · rw [if_neg c25] at hf
      refine j_aload_n (pc' := 29) rfl rfl rfl ?_
      refine j_get (pc' := 32) rfl rfl flX7_119 (gm_o g μ) (mF_45 μ) ?_
      refine j_iload_n (pc' := 33) rfl rfl rfl ?_
      refine j_aload_n (pc' := 34) rfl rfl rfl ?_
      refine j_get (pc' := 37) rfl rfl flX7_110 (gm_o g μ) (mF_42 μ) ?_
      refine j_iload_n (pc' := 38) rfl rfl rfl ?_
      obtain ⟨c38, hf⟩ := o_chk hf
      refine j_iald (pc' := 39) rfl rfl (gm_42 g μ) (vin_ok c38) ?_
      obtain ⟨c39, hf⟩ := o_chk hf
      obtain ⟨μ39, e39, hf⟩ := o_let hf
      refine j_iast (pc' := 40) rfl rfl (gm_45 g μ) (by decide) (vin_ok c39) ?_
      rw [gs_45]; rw [e39]
      refine j_iinc (pc' := 43) (d := 1) (ls' := [(1, _), (0, _)]) rfl rfl rfl (by decide) (Nat.le_of_ble_eq_true rfl) rfl ?_
      refine j_goto (tgt := 23) rfl rfl ?_
      refine j_sub (ls' := [(0, .ref 5000), (1, .int _)]) ⟨rfl, rfl, trivial⟩ ?_
      exact ih _ _ _ hf k0
def f_X7_flow_L48 : Nat → mS → Int32 → Option (mS)
  | 0, _, _ => none
  | n + 1, μ, x1 => if 6 ≤ x1 then some (μ) else bif vin x1 6 then bif vin x1 6 then letm (seti μ 46 (va_up (μ.1 46) (x1).toNatClampNeg (μ.1 43 (x1).toNatClampNeg))) fun μ65 => f_X7_flow_L48 n μ65 (x1 + 1) else none else none
set_option maxHeartbeats 4000000 in
set_option maxRecDepth 100000 in
theorem s_X7_flow_L48 {Q : Option Value → hH → Prop} (g : hH) : ∀ (n : Nat) (μ : mS) (x1 : Int32) (r : mS), f_X7_flow_L48 n μ x1 = some r → (J mX7_flow rX7_flow Q 0 0 (gm g r) 72 [(0, .ref 5000)] []) → J mX7_flow rX7_flow Q 0 0 (gm g μ) 48 [(0, .ref 5000), (1, .int x1)] [] := by
  intro n
  induction n with
  | zero =>
    intro μ x1 r hf
    cases hf
  | succ n ih =>
    intro μ x1 r hf k0
    rw [f_X7_flow_L48] at hf
    refine j_iload_n (pc' := 49) rfl rfl rfl ?_
    refine j_bipush (v := 6) (pc' := 51) rfl rfl (by decide) ?_
    refine j_icmp_ge (tgt := 72) (pc' := 54) rfl rfl rfl (fun c51 => ?_) (fun c51 => ?_)
    · rw [if_pos c51] at hf
      have hf := Option.some.inj hf; subst hf
      exact j_sub (ls' := [(0, .ref 5000)]) ⟨rfl, trivial⟩ (k0)
    · rw [if_neg c51] at hf
      refine j_aload_n (pc' := 55) rfl rfl rfl ?_
      refine j_get (pc' := 58) rfl rfl flX7_122 (gm_o g μ) (mF_46 μ) ?_
      refine j_iload_n (pc' := 59) rfl rfl rfl ?_
      refine j_aload_n (pc' := 60) rfl rfl rfl ?_
      refine j_get (pc' := 63) rfl rfl flX7_113 (gm_o g μ) (mF_43 μ) ?_
      refine j_iload_n (pc' := 64) rfl rfl rfl ?_
      obtain ⟨c64, hf⟩ := o_chk hf
      refine j_iald (pc' := 65) rfl rfl (gm_43 g μ) (vin_ok c64) ?_
      obtain ⟨c65, hf⟩ := o_chk hf
      obtain ⟨μ65, e65, hf⟩ := o_let hf
      refine j_iast (pc' := 66) rfl rfl (gm_46 g μ) (by decide) (vin_ok c65) ?_
      rw [gs_46]; rw [e65]
      refine j_iinc (pc' := 69) (d := 1) (ls' := [(1, _), (0, _)]) rfl rfl rfl (by decide) (Nat.le_of_ble_eq_true rfl) rfl ?_
      refine j_goto (tgt := 48) rfl rfl ?_
      refine j_sub (ls' := [(0, .ref 5000), (1, .int _)]) ⟨rfl, rfl, trivial⟩ ?_
      exact ih _ _ _ hf k0
def f_X7_flow_L79 : Nat → mS → Int32 → Int32 → Option (Int32 × mS)
  | 0, _, _, _ => none
  | n + 1, μ, x1, x2 => if x2 < 0 then some (x1, μ) else (f_X7_sendOne μ).bind fun r88 => f_X7_flow_L79 n r88.2 (x1 + x2) r88.1
set_option maxHeartbeats 4000000 in
set_option maxRecDepth 100000 in
theorem s_X7_flow_L79 {Q : Option Value → hH → Prop} (g : hH) : ∀ (n : Nat) (μ : mS) (x1 : Int32) (x2 : Int32) (r : Int32 × mS), f_X7_flow_L79 n μ x1 x2 = some r → (J mX7_flow rX7_flow Q 0 0 (gm g r.2) 95 [(1, .int r.1)] []) → J mX7_flow rX7_flow Q 0 0 (gm g μ) 79 [(0, .ref 5000), (1, .int x1), (2, .int x2)] [] := by
  intro n
  induction n with
  | zero =>
    intro μ x1 x2 r hf
    cases hf
  | succ n ih =>
    intro μ x1 x2 r hf k0
    rw [f_X7_flow_L79] at hf
    refine j_iload_n (pc' := 80) rfl rfl rfl ?_
    refine j_if_lt (tgt := 95) (pc' := 83) rfl rfl rfl (fun c80 => ?_) (fun c80 => ?_)
    · rw [if_pos c80] at hf
      have hf := Option.some.inj hf; subst hf
      exact j_sub (ls' := [(1, .int _)]) ⟨rfl, trivial⟩ (k0)
    · rw [if_neg c80] at hf
      refine j_iload_n (pc' := 84) rfl rfl rfl ?_
      refine j_iload_n (pc' := 85) rfl rfl rfl ?_
      refine j_iadd (pc' := 86) rfl rfl ?_
      refine j_istore_n (pc' := 87) (ls' := [(1, _), (0, _), (2, _)]) rfl rfl (Nat.le_of_ble_eq_true rfl) rfl ?_
      refine j_aload_n (pc' := 88) rfl rfl rfl ?_
      obtain ⟨r88, e88, hf⟩ := o_bind hf
      refine j_v0 (pc' := 91) rfl rfl miX7_sendOne lnX7_260 (gm_o g μ) rfl (s_X7_sendOne g μ _ e88) (h_rm_of rfl) (Nat.le_of_ble_eq_true rfl) (c' := 0) (s' := 0) rfl rfl ?_
      refine j_istore_n (pc' := 92) (ls' := [(2, _), (1, _), (0, _)]) rfl rfl (Nat.le_of_ble_eq_true rfl) rfl ?_
      refine j_goto (tgt := 79) rfl rfl ?_
      refine j_sub (ls' := [(0, .ref 5000), (1, .int _), (2, .int _)]) ⟨rfl, rfl, rfl, trivial⟩ ?_
      exact ih _ _ _ _ hf k0
def f_X7_flow (μ : mS) : Option (Int32 × mS) := (f_X7_flow_L2 4000 μ 0).bind fun r2 => (f_X7_flow_L23 4000 r2 0).bind fun r23 => (f_X7_flow_L48 4000 r23 0).bind fun r48 => (f_X7_sendOne r48).bind fun r75 => (f_X7_flow_L79 4000 r75.2 0 r75.1).bind fun r79 => some (r79.1, r79.2)
set_option maxHeartbeats 4000000 in
set_option maxRecDepth 100000 in
theorem s_X7_flow (g : hH) (μ : mS) (r : (Int32 × mS)) (hf : f_X7_flow μ = some r) : SpD mX7_flow rX7_flow [.ref 5000] (gm g μ) (some (.int r.1)) (gm g r.2) := by
  refine sp_of miX7_flow (Nat.le_of_ble_eq_true rfl) ?_
  show J _ _ _ 0 0 _ 0 [(0, .ref 5000)] []
  unfold f_X7_flow at hf
  refine j_iconst (v := 0) (pc' := 1) rfl rfl (by decide) ?_
  refine j_istore_n (pc' := 2) (ls' := [(1, _), (0, _)]) rfl rfl (Nat.le_of_ble_eq_true rfl) rfl ?_
  obtain ⟨r2, e2, hf⟩ := o_bind hf
  refine j_sub (ls' := [(0, .ref 5000), (1, .int 0)]) ⟨rfl, rfl, trivial⟩ ?_
  refine s_X7_flow_L2 g _ _ _ _ e2 ?_
  refine j_iconst (v := 0) (pc' := 22) rfl rfl (by decide) ?_
  refine j_istore_n (pc' := 23) (ls' := [(1, _), (0, _)]) rfl rfl (Nat.le_of_ble_eq_true rfl) rfl ?_
  obtain ⟨r23, e23, hf⟩ := o_bind hf
  refine j_sub (ls' := [(0, .ref 5000), (1, .int 0)]) ⟨rfl, rfl, trivial⟩ ?_
  refine s_X7_flow_L23 g _ _ _ _ e23 ?_
  refine j_iconst (v := 0) (pc' := 47) rfl rfl (by decide) ?_
  refine j_istore_n (pc' := 48) (ls' := [(1, _), (0, _)]) rfl rfl (Nat.le_of_ble_eq_true rfl) rfl ?_
  obtain ⟨r48, e48, hf⟩ := o_bind hf
  refine j_sub (ls' := [(0, .ref 5000), (1, .int 0)]) ⟨rfl, rfl, trivial⟩ ?_
  refine s_X7_flow_L48 g _ _ _ _ e48 ?_
  refine j_iconst (v := 0) (pc' := 73) rfl rfl (by decide) ?_
  refine j_istore_n (pc' := 74) (ls' := [(1, _), (0, _)]) rfl rfl (Nat.le_of_ble_eq_true rfl) rfl ?_
  refine j_aload_n (pc' := 75) rfl rfl rfl ?_
  obtain ⟨r75, e75, hf⟩ := o_bind hf
  refine j_v0 (pc' := 78) rfl rfl miX7_sendOne lnX7_260 (gm_o g r48) rfl (s_X7_sendOne g r48 _ e75) (h_rm_of rfl) (Nat.le_of_ble_eq_true rfl) (c' := 0) (s' := 0) rfl rfl ?_
  refine j_istore_n (pc' := 79) (ls' := [(2, _), (1, _), (0, _)]) rfl rfl (Nat.le_of_ble_eq_true rfl) rfl ?_
  obtain ⟨r79, e79, hf⟩ := o_bind hf
  refine j_sub (ls' := [(0, .ref 5000), (1, .int 0), (2, .int r75.1)]) ⟨rfl, rfl, rfl, trivial⟩ ?_
  refine s_X7_flow_L79 g _ _ _ _ _ e79 ?_
  refine j_iload_n (pc' := 96) rfl rfl rfl ?_
  have hf := Option.some.inj hf; subst hf
  exact j_iret rfl rfl (Nat.zero_le _) (Nat.zero_le _) ⟨rfl, rfl⟩
def rX7_sent : Room := { frames := 0, cells := 0, slots := 0, locals := 0 }
def f_X7_sent_L6 : Nat → mS → Int32 → Int32 → Int32 → Option (Int32)
  | 0, _, _, _, _ => none
  | n + 1, μ, x1, x2, x3 => if 3 ≤ x3 then some (x1) else bif vin x3 3 then letm (x1 + (μ.1 42 (x3).toNatClampNeg)) fun y19 => f_X7_sent_L6 n μ y19 x2 (x3 + 1) else none
set_option maxHeartbeats 4000000 in
set_option maxRecDepth 100000 in
theorem s_X7_sent_L6 {Q : Option Value → hH → Prop} (g : hH) : ∀ (n : Nat) (μ : mS) (x1 : Int32) (x2 : Int32) (x3 : Int32) (r : Int32), f_X7_sent_L6 n μ x1 x2 x3 = some r → (J mX7_sent rX7_sent Q 0 0 (gm g μ) 26 [(0, .ref 5000), (1, .int r), (2, .int x2)] []) → J mX7_sent rX7_sent Q 0 0 (gm g μ) 6 [(0, .ref 5000), (1, .int x1), (2, .int x2), (3, .int x3)] [] := by
  intro n
  induction n with
  | zero =>
    intro μ x1 x2 x3 r hf
    cases hf
  | succ n ih =>
    intro μ x1 x2 x3 r hf k0
    rw [f_X7_sent_L6] at hf
    refine j_iload_n (pc' := 7) rfl rfl rfl ?_
    refine j_iconst (v := 3) (pc' := 8) rfl rfl (by decide) ?_
    refine j_icmp_ge (tgt := 26) (pc' := 11) rfl rfl rfl (fun c8 => ?_) (fun c8 => ?_)
    · rw [if_pos c8] at hf
      have hf := Option.some.inj hf; subst hf
      exact j_sub (ls' := [(0, .ref 5000), (1, .int _), (2, .int _)]) ⟨rfl, rfl, rfl, trivial⟩ (k0)
    · rw [if_neg c8] at hf
      refine j_iload_n (pc' := 12) rfl rfl rfl ?_
      refine j_aload_n (pc' := 13) rfl rfl rfl ?_
      refine j_get (pc' := 16) rfl rfl flX7_110 (gm_o g μ) (mF_42 μ) ?_
      refine j_iload_n (pc' := 17) rfl rfl rfl ?_
      obtain ⟨c17, hf⟩ := o_chk hf
      refine j_iald (pc' := 18) rfl rfl (gm_42 g μ) (vin_ok c17) ?_
      refine j_iadd (pc' := 19) rfl rfl ?_
      obtain ⟨y19, e19, hf⟩ := o_let hf
      rw [e19]
      refine j_istore_n (pc' := 20) (ls' := [(1, _), (0, _), (2, _), (3, _)]) rfl rfl (Nat.le_of_ble_eq_true rfl) rfl ?_
      refine j_iinc (pc' := 23) (d := 1) (ls' := [(3, _), (1, _), (0, _), (2, _)]) rfl rfl rfl (by decide) (Nat.le_of_ble_eq_true rfl) rfl ?_
      refine j_goto (tgt := 6) rfl rfl ?_
      refine j_sub (ls' := [(0, .ref 5000), (1, .int _), (2, .int _), (3, .int _)]) ⟨rfl, rfl, rfl, rfl, trivial⟩ ?_
      exact ih _ _ _ _ _ hf k0
def f_X7_sent_L28 : Nat → mS → Int32 → Int32 → Int32 → Option (Int32)
  | 0, _, _, _, _ => none
  | n + 1, μ, x1, x2, x3 => if 6 ≤ x3 then some (x2) else bif vin x3 6 then letm (x2 + (μ.1 43 (x3).toNatClampNeg)) fun y42 => f_X7_sent_L28 n μ x1 y42 (x3 + 1) else none
set_option maxHeartbeats 4000000 in
set_option maxRecDepth 100000 in
theorem s_X7_sent_L28 {Q : Option Value → hH → Prop} (g : hH) : ∀ (n : Nat) (μ : mS) (x1 : Int32) (x2 : Int32) (x3 : Int32) (r : Int32), f_X7_sent_L28 n μ x1 x2 x3 = some r → (J mX7_sent rX7_sent Q 0 0 (gm g μ) 49 [(1, .int x1), (2, .int r)] []) → J mX7_sent rX7_sent Q 0 0 (gm g μ) 28 [(0, .ref 5000), (1, .int x1), (2, .int x2), (3, .int x3)] [] := by
  intro n
  induction n with
  | zero =>
    intro μ x1 x2 x3 r hf
    cases hf
  | succ n ih =>
    intro μ x1 x2 x3 r hf k0
    rw [f_X7_sent_L28] at hf
    refine j_iload_n (pc' := 29) rfl rfl rfl ?_
    refine j_bipush (v := 6) (pc' := 31) rfl rfl (by decide) ?_
    refine j_icmp_ge (tgt := 49) (pc' := 34) rfl rfl rfl (fun c31 => ?_) (fun c31 => ?_)
    · rw [if_pos c31] at hf
      have hf := Option.some.inj hf; subst hf
      exact j_sub (ls' := [(1, .int _), (2, .int _)]) ⟨rfl, rfl, trivial⟩ (k0)
    · rw [if_neg c31] at hf
      refine j_iload_n (pc' := 35) rfl rfl rfl ?_
      refine j_aload_n (pc' := 36) rfl rfl rfl ?_
      refine j_get (pc' := 39) rfl rfl flX7_113 (gm_o g μ) (mF_43 μ) ?_
      refine j_iload_n (pc' := 40) rfl rfl rfl ?_
      obtain ⟨c40, hf⟩ := o_chk hf
      refine j_iald (pc' := 41) rfl rfl (gm_43 g μ) (vin_ok c40) ?_
      refine j_iadd (pc' := 42) rfl rfl ?_
      obtain ⟨y42, e42, hf⟩ := o_let hf
      rw [e42]
      refine j_istore_n (pc' := 43) (ls' := [(2, _), (0, _), (1, _), (3, _)]) rfl rfl (Nat.le_of_ble_eq_true rfl) rfl ?_
      refine j_iinc (pc' := 46) (d := 1) (ls' := [(3, _), (2, _), (0, _), (1, _)]) rfl rfl rfl (by decide) (Nat.le_of_ble_eq_true rfl) rfl ?_
      refine j_goto (tgt := 28) rfl rfl ?_
      refine j_sub (ls' := [(0, .ref 5000), (1, .int _), (2, .int _), (3, .int _)]) ⟨rfl, rfl, rfl, rfl, trivial⟩ ?_
      exact ih _ _ _ _ _ hf k0
def f_X7_sent (μ : mS) : Option Int32 := (f_X7_sent_L6 4000 μ 0 0 0).bind fun r6 => (f_X7_sent_L28 4000 μ r6 0 0).bind fun r28 => if r28 ≤ r6 then some r28 else some r6
set_option maxHeartbeats 4000000 in
set_option maxRecDepth 100000 in
theorem s_X7_sent (g : hH) (μ : mS) (r : Int32) (hf : f_X7_sent μ = some r) : SpD mX7_sent rX7_sent [.ref 5000] (gm g μ) (some (.int r)) (gm g μ) := by
  refine sp_of miX7_sent (Nat.le_of_ble_eq_true rfl) ?_
  show J _ _ _ 0 0 _ 0 [(0, .ref 5000)] []
  unfold f_X7_sent at hf
  refine j_iconst (v := 0) (pc' := 1) rfl rfl (by decide) ?_
  refine j_istore_n (pc' := 2) (ls' := [(1, _), (0, _)]) rfl rfl (Nat.le_of_ble_eq_true rfl) rfl ?_
  refine j_iconst (v := 0) (pc' := 3) rfl rfl (by decide) ?_
  refine j_istore_n (pc' := 4) (ls' := [(2, _), (1, _), (0, _)]) rfl rfl (Nat.le_of_ble_eq_true rfl) rfl ?_
  refine j_iconst (v := 0) (pc' := 5) rfl rfl (by decide) ?_
  refine j_istore_n (pc' := 6) (ls' := [(3, _), (2, _), (1, _), (0, _)]) rfl rfl (Nat.le_of_ble_eq_true rfl) rfl ?_
  obtain ⟨r6, e6, hf⟩ := o_bind hf
  refine j_sub (ls' := [(0, .ref 5000), (1, .int 0), (2, .int 0), (3, .int 0)]) ⟨rfl, rfl, rfl, rfl, trivial⟩ ?_
  refine s_X7_sent_L6 g _ _ _ _ _ _ e6 ?_
  refine j_iconst (v := 0) (pc' := 27) rfl rfl (by decide) ?_
  refine j_istore_n (pc' := 28) (ls' := [(3, _), (0, _), (1, _), (2, _)]) rfl rfl (Nat.le_of_ble_eq_true rfl) rfl ?_
  obtain ⟨r28, e28, hf⟩ := o_bind hf
  refine j_sub (ls' := [(0, .ref 5000), (1, .int r6), (2, .int 0), (3, .int 0)]) ⟨rfl, rfl, rfl, rfl, trivial⟩ ?_
  refine s_X7_sent_L28 g _ _ _ _ _ _ e28 ?_
  refine j_iload_n (pc' := 50) rfl rfl rfl ?_
  refine j_iload_n (pc' := 51) rfl rfl rfl ?_
  refine j_icmp_ge (tgt := 58) (pc' := 54) rfl rfl rfl (fun c51 => ?_) (fun c51 => ?_)
  · rw [if_pos c51] at hf
    refine j_iload_n (pc' := 59) rfl rfl rfl ?_
    have hf := Option.some.inj hf; subst hf
    exact j_iret rfl rfl (Nat.zero_le _) (Nat.zero_le _) ⟨rfl, rfl⟩
  · rw [if_neg c51] at hf
    refine j_iload_n (pc' := 55) rfl rfl rfl ?_
    refine j_goto (tgt := 59) rfl rfl ?_
    have hf := Option.some.inj hf; subst hf
    exact j_iret rfl rfl (Nat.zero_le _) (Nat.zero_le _) ⟨rfl, rfl⟩
end MODEL5
end
section
section MODEL6
def rX7_count : Room := { frames := 1, cells := 0, slots := 0, locals := 21 }
def f_X7_count_L70 : Nat → mS → Int32 → Int32 → Option (Int32)
  | 0, _, _, _ => none
  | n + 1, μ, x2, x3 => if (μ.1 7 0) ≤ x3 then some (x2) else bif vin x3 30 then if (μ.1 16 (x3).toNatClampNeg) = 0 then f_X7_count_L70 n μ (x2 + 0) (x3 + 1) else f_X7_count_L70 n μ (x2 + 1) (x3 + 1) else none
set_option maxHeartbeats 4000000 in
set_option maxRecDepth 100000 in
theorem s_X7_count_L70 {Q : Option Value → hH → Prop} (g : hH) : ∀ (n : Nat) (μ : mS) (x2 : Int32) (x3 : Int32) (r : Int32), f_X7_count_L70 n μ x2 x3 = some r → (J mX7_count rX7_count Q 0 0 (gm g μ) 101 [(2, .int r)] []) → J mX7_count rX7_count Q 0 0 (gm g μ) 70 [(0, .ref 5000), (2, .int x2), (3, .int x3)] [] := by
  intro n
  induction n with
  | zero =>
    intro μ x2 x3 r hf
    cases hf
  | succ n ih =>
    intro μ x2 x3 r hf k0
    rw [f_X7_count_L70] at hf
    refine j_iload_n (pc' := 71) rfl rfl rfl ?_
    refine j_aload_n (pc' := 72) rfl rfl rfl ?_
    refine j_get (pc' := 75) rfl rfl flX7_142 (gm_o g μ) (mF_7 μ) ?_
    refine j_icmp_ge (tgt := 101) (pc' := 78) rfl rfl rfl (fun c75 => ?_) (fun c75 => ?_)
    · rw [if_pos c75] at hf
      have hf := Option.some.inj hf; subst hf
      exact j_sub (ls' := [(2, .int _)]) ⟨rfl, trivial⟩ (k0)
    · rw [if_neg c75] at hf
      refine j_iload_n (pc' := 79) rfl rfl rfl ?_
      refine j_aload_n (pc' := 80) rfl rfl rfl ?_
      refine j_get (pc' := 83) rfl rfl flX7_46 (gm_o g μ) (mF_16 μ) ?_
      refine j_iload_n (pc' := 84) rfl rfl rfl ?_
      obtain ⟨c84, hf⟩ := o_chk hf
      refine j_zald (pc' := 85) rfl rfl (gm_16 g μ) (vin_ok c84) ?_
      refine j_if_eq (tgt := 92) (pc' := 88) rfl rfl rfl (fun c85 => ?_) (fun c85 => ?_)
      · rw [if_pos c85] at hf
        refine j_iconst (v := 0) (pc' := 93) rfl rfl (by decide) ?_
        refine j_iadd (pc' := 94) rfl rfl ?_
        refine j_istore_n (pc' := 95) (ls' := [(2, _), (0, _), (3, _)]) rfl rfl (Nat.le_of_ble_eq_true rfl) rfl ?_
        refine j_iinc (pc' := 98) (d := 1) (ls' := [(3, _), (2, _), (0, _)]) rfl rfl rfl (by decide) (Nat.le_of_ble_eq_true rfl) rfl ?_
        refine j_goto (tgt := 70) rfl rfl ?_
        refine j_sub (ls' := [(0, .ref 5000), (2, .int _), (3, .int _)]) ⟨rfl, rfl, rfl, trivial⟩ ?_
        exact ih _ _ _ _ hf k0
      · rw [if_neg c85] at hf
        refine j_iconst (v := 1) (pc' := 89) rfl rfl (by decide) ?_
        refine j_goto (tgt := 93) rfl rfl ?_
        refine j_iadd (pc' := 94) rfl rfl ?_
        refine j_istore_n (pc' := 95) (ls' := [(2, _), (0, _), (3, _)]) rfl rfl (Nat.le_of_ble_eq_true rfl) rfl ?_
        refine j_iinc (pc' := 98) (d := 1) (ls' := [(3, _), (2, _), (0, _)]) rfl rfl rfl (by decide) (Nat.le_of_ble_eq_true rfl) rfl ?_
        refine j_goto (tgt := 70) rfl rfl ?_
        refine j_sub (ls' := [(0, .ref 5000), (2, .int _), (3, .int _)]) ⟨rfl, rfl, rfl, trivial⟩ ?_
        exact ih _ _ _ _ hf k0
def f_X7_count_L105 : Nat → mS → Int32 → Int32 → Option (Int32)
  | 0, _, _, _ => none
  | n + 1, μ, x2, x3 => if (μ.1 7 0) ≤ x3 then some (x2) else bif vin x3 30 then if (μ.1 16 (x3).toNatClampNeg) = 0 then (f_X7_isUnderWay μ x3).bind fun r125 => if r125 = 0 then f_X7_count_L105 n μ (x2 + 0) (x3 + 1) else f_X7_count_L105 n μ (x2 + 1) (x3 + 1) else f_X7_count_L105 n μ (x2 + 0) (x3 + 1) else none
set_option maxHeartbeats 4000000 in
set_option maxRecDepth 100000 in
theorem s_X7_count_L105 {Q : Option Value → hH → Prop} (g : hH) : ∀ (n : Nat) (μ : mS) (x2 : Int32) (x3 : Int32) (r : Int32), f_X7_count_L105 n μ x2 x3 = some r → (J mX7_count rX7_count Q 0 0 (gm g μ) 144 [(2, .int r)] []) → J mX7_count rX7_count Q 0 0 (gm g μ) 105 [(0, .ref 5000), (2, .int x2), (3, .int x3)] [] := by
  intro n
  induction n with
  | zero =>
    intro μ x2 x3 r hf
    cases hf
  | succ n ih =>
    intro μ x2 x3 r hf k0
    rw [f_X7_count_L105] at hf
    refine j_iload_n (pc' := 106) rfl rfl rfl ?_
    refine j_aload_n (pc' := 107) rfl rfl rfl ?_
    refine j_get (pc' := 110) rfl rfl flX7_142 (gm_o g μ) (mF_7 μ) ?_
    refine j_icmp_ge (tgt := 144) (pc' := 113) rfl rfl rfl (fun c110 => ?_) (fun c110 => ?_)
    · rw [if_pos c110] at hf
      have hf := Option.some.inj hf; subst hf
      exact j_sub (ls' := [(2, .int _)]) ⟨rfl, trivial⟩ (k0)
    · rw [if_neg c110] at hf
      refine j_iload_n (pc' := 114) rfl rfl rfl ?_
      refine j_aload_n (pc' := 115) rfl rfl rfl ?_
      refine j_get (pc' := 118) rfl rfl flX7_46 (gm_o g μ) (mF_16 μ) ?_
      refine j_iload_n (pc' := 119) rfl rfl rfl ?_
      obtain ⟨c119, hf⟩ := o_chk hf
      refine j_zald (pc' := 120) rfl rfl (gm_16 g μ) (vin_ok c119) ?_
      refine j_if_ne (tgt := 135) (pc' := 123) rfl rfl rfl (fun c120 => ?_) (fun c120 => ?_)
      · rw [if_neg c120] at hf
        refine j_iconst (v := 0) (pc' := 136) rfl rfl (by decide) ?_
        refine j_iadd (pc' := 137) rfl rfl ?_
        refine j_istore_n (pc' := 138) (ls' := [(2, _), (0, _), (3, _)]) rfl rfl (Nat.le_of_ble_eq_true rfl) rfl ?_
        refine j_iinc (pc' := 141) (d := 1) (ls' := [(3, _), (2, _), (0, _)]) rfl rfl rfl (by decide) (Nat.le_of_ble_eq_true rfl) rfl ?_
        refine j_goto (tgt := 105) rfl rfl ?_
        refine j_sub (ls' := [(0, .ref 5000), (2, .int _), (3, .int _)]) ⟨rfl, rfl, rfl, trivial⟩ ?_
        exact ih _ _ _ _ hf k0
      · rw [if_pos c120] at hf
        refine j_aload_n (pc' := 124) rfl rfl rfl ?_
        refine j_iload_n (pc' := 125) rfl rfl rfl ?_
        obtain ⟨r125, e125, hf⟩ := o_bind hf
        refine j_v1 (pc' := 128) rfl rfl miX7_isUnderWay lnX7_170 (gm_o g μ) rfl (s_X7_isUnderWay g μ x3 _ e125) (h_rm_of rfl) (Nat.le_of_ble_eq_true rfl) (c' := 0) (s' := 0) rfl rfl ?_
        refine j_if_eq (tgt := 135) (pc' := 131) rfl rfl rfl (fun c128 => ?_) (fun c128 => ?_)
        · rw [if_pos c128] at hf
          refine j_iconst (v := 0) (pc' := 136) rfl rfl (by decide) ?_
          refine j_iadd (pc' := 137) rfl rfl ?_
          refine j_istore_n (pc' := 138) (ls' := [(2, _), (0, _), (3, _)]) rfl rfl (Nat.le_of_ble_eq_true rfl) rfl ?_
          refine j_iinc (pc' := 141) (d := 1) (ls' := [(3, _), (2, _), (0, _)]) rfl rfl rfl (by decide) (Nat.le_of_ble_eq_true rfl) rfl ?_
          refine j_goto (tgt := 105) rfl rfl ?_
          refine j_sub (ls' := [(0, .ref 5000), (2, .int _), (3, .int _)]) ⟨rfl, rfl, rfl, trivial⟩ ?_
          exact ih _ _ _ _ hf k0
        · rw [if_neg c128] at hf
          refine j_iconst (v := 1) (pc' := 132) rfl rfl (by decide) ?_
          refine j_goto (tgt := 136) rfl rfl ?_
          refine j_iadd (pc' := 137) rfl rfl ?_
          refine j_istore_n (pc' := 138) (ls' := [(2, _), (0, _), (3, _)]) rfl rfl (Nat.le_of_ble_eq_true rfl) rfl ?_
          refine j_iinc (pc' := 141) (d := 1) (ls' := [(3, _), (2, _), (0, _)]) rfl rfl rfl (by decide) (Nat.le_of_ble_eq_true rfl) rfl ?_
          refine j_goto (tgt := 105) rfl rfl ?_
          refine j_sub (ls' := [(0, .ref 5000), (2, .int _), (3, .int _)]) ⟨rfl, rfl, rfl, trivial⟩ ?_
          exact ih _ _ _ _ hf k0
def f_X7_count_L148 : Nat → mS → Int32 → Int32 → Option (Int32)
  | 0, _, _, _ => none
  | n + 1, μ, x2, x3 => if (μ.1 7 0) ≤ x3 then some (x2) else bif vin x3 30 then if (μ.1 17 (x3).toNatClampNeg) = 0 then f_X7_count_L148 n μ (x2 + 0) (x3 + 1) else f_X7_count_L148 n μ (x2 + 1) (x3 + 1) else none
set_option maxHeartbeats 4000000 in
set_option maxRecDepth 100000 in
theorem s_X7_count_L148 {Q : Option Value → hH → Prop} (g : hH) : ∀ (n : Nat) (μ : mS) (x2 : Int32) (x3 : Int32) (r : Int32), f_X7_count_L148 n μ x2 x3 = some r → (J mX7_count rX7_count Q 0 0 (gm g μ) 179 [(2, .int r)] []) → J mX7_count rX7_count Q 0 0 (gm g μ) 148 [(0, .ref 5000), (2, .int x2), (3, .int x3)] [] := by
  intro n
  induction n with
  | zero =>
    intro μ x2 x3 r hf
    cases hf
  | succ n ih =>
    intro μ x2 x3 r hf k0
    rw [f_X7_count_L148] at hf
    refine j_iload_n (pc' := 149) rfl rfl rfl ?_
    refine j_aload_n (pc' := 150) rfl rfl rfl ?_
    refine j_get (pc' := 153) rfl rfl flX7_142 (gm_o g μ) (mF_7 μ) ?_
    refine j_icmp_ge (tgt := 179) (pc' := 156) rfl rfl rfl (fun c153 => ?_) (fun c153 => ?_)
    · rw [if_pos c153] at hf
      have hf := Option.some.inj hf; subst hf
      exact j_sub (ls' := [(2, .int _)]) ⟨rfl, trivial⟩ (k0)
    · rw [if_neg c153] at hf
      refine j_iload_n (pc' := 157) rfl rfl rfl ?_
      refine j_aload_n (pc' := 158) rfl rfl rfl ?_
      refine j_get (pc' := 161) rfl rfl flX7_50 (gm_o g μ) (mF_17 μ) ?_
      refine j_iload_n (pc' := 162) rfl rfl rfl ?_
      obtain ⟨c162, hf⟩ := o_chk hf
      refine j_zald (pc' := 163) rfl rfl (gm_17 g μ) (vin_ok c162) ?_
      refine j_if_eq (tgt := 170) (pc' := 166) rfl rfl rfl (fun c163 => ?_) (fun c163 => ?_)
      · rw [if_pos c163] at hf
        refine j_iconst (v := 0) (pc' := 171) rfl rfl (by decide) ?_
        refine j_iadd (pc' := 172) rfl rfl ?_
        refine j_istore_n (pc' := 173) (ls' := [(2, _), (0, _), (3, _)]) rfl rfl (Nat.le_of_ble_eq_true rfl) rfl ?_
        refine j_iinc (pc' := 176) (d := 1) (ls' := [(3, _), (2, _), (0, _)]) rfl rfl rfl (by decide) (Nat.le_of_ble_eq_true rfl) rfl ?_
        refine j_goto (tgt := 148) rfl rfl ?_
        refine j_sub (ls' := [(0, .ref 5000), (2, .int _), (3, .int _)]) ⟨rfl, rfl, rfl, trivial⟩ ?_
        exact ih _ _ _ _ hf k0
      · rw [if_neg c163] at hf
        refine j_iconst (v := 1) (pc' := 167) rfl rfl (by decide) ?_
        refine j_goto (tgt := 171) rfl rfl ?_
        refine j_iadd (pc' := 172) rfl rfl ?_
        refine j_istore_n (pc' := 173) (ls' := [(2, _), (0, _), (3, _)]) rfl rfl (Nat.le_of_ble_eq_true rfl) rfl ?_
        refine j_iinc (pc' := 176) (d := 1) (ls' := [(3, _), (2, _), (0, _)]) rfl rfl rfl (by decide) (Nat.le_of_ble_eq_true rfl) rfl ?_
        refine j_goto (tgt := 148) rfl rfl ?_
        refine j_sub (ls' := [(0, .ref 5000), (2, .int _), (3, .int _)]) ⟨rfl, rfl, rfl, trivial⟩ ?_
        exact ih _ _ _ _ hf k0
def f_X7_count (μ : mS) (x1 : Int32) : Option Int32 := if x1 = 0 then some (μ.1 1 0) else if x1 = 1 then some (μ.1 7 0) else if x1 = 2 then some (μ.1 21 0) else if x1 = 3 then some (μ.1 6 0) else if x1 = 4 then (f_X7_count_L70 4000 μ 0 0).bind fun r70 => some r70 else if x1 = 5 then (f_X7_count_L105 4000 μ 0 0).bind fun r105 => some r105 else if x1 = 6 then (f_X7_count_L148 4000 μ 0 0).bind fun r148 => some r148 else if x1 = 7 then some (μ.1 20 0) else some (-1)
set_option maxHeartbeats 4000000 in
set_option maxRecDepth 100000 in
theorem s_X7_count (g : hH) (μ : mS) (x1 : Int32) (r : Int32) (hf : f_X7_count μ x1 = some r) : SpD mX7_count rX7_count [.ref 5000, .int x1] (gm g μ) (some (.int r)) (gm g μ) := by
  refine sp_of miX7_count (Nat.le_of_ble_eq_true rfl) ?_
  show J _ _ _ 0 0 _ 0 [(0, .ref 5000), (1, .int x1)] []
  unfold f_X7_count at hf
  refine j_iconst (v := 0) (pc' := 1) rfl rfl (by decide) ?_
  refine j_istore_n (pc' := 2) (ls' := [(2, _), (0, _), (1, _)]) rfl rfl (Nat.le_of_ble_eq_true rfl) rfl ?_
  refine j_iload_n (pc' := 3) rfl rfl rfl ?_
  by_cases w3_0 : x1 = 0
  · rw [if_pos w3_0] at hf
    rw [w3_0]
    refine j_tableIn (tgt := 48) rfl (by decide) (by decide) rfl rfl ?_
    refine j_aload_n (pc' := 49) rfl rfl rfl ?_
    refine j_get (pc' := 52) rfl rfl flX7_135 (gm_o g μ) (mF_1 μ) ?_
    have hf := Option.some.inj hf; subst hf
    exact j_iret rfl rfl (Nat.zero_le _) (Nat.zero_le _) ⟨rfl, rfl⟩
  rw [if_neg w3_0] at hf
  by_cases w3_1 : x1 = 1
  · rw [if_pos w3_1] at hf
    rw [w3_1]
    refine j_tableIn (tgt := 53) rfl (by decide) (by decide) rfl rfl ?_
    refine j_aload_n (pc' := 54) rfl rfl rfl ?_
    refine j_get (pc' := 57) rfl rfl flX7_142 (gm_o g μ) (mF_7 μ) ?_
    have hf := Option.some.inj hf; subst hf
    exact j_iret rfl rfl (Nat.zero_le _) (Nat.zero_le _) ⟨rfl, rfl⟩
  rw [if_neg w3_1] at hf
  by_cases w3_2 : x1 = 2
  · rw [if_pos w3_2] at hf
    rw [w3_2]
    refine j_tableIn (tgt := 58) rfl (by decide) (by decide) rfl rfl ?_
    refine j_aload_n (pc' := 59) rfl rfl rfl ?_
    refine j_get (pc' := 62) rfl rfl flX7_205 (gm_o g μ) (mF_21 μ) ?_
    have hf := Option.some.inj hf; subst hf
    exact j_iret rfl rfl (Nat.zero_le _) (Nat.zero_le _) ⟨rfl, rfl⟩
  rw [if_neg w3_2] at hf
  by_cases w3_3 : x1 = 3
  · rw [if_pos w3_3] at hf
    rw [w3_3]
    refine j_tableIn (tgt := 63) rfl (by decide) (by decide) rfl rfl ?_
    refine j_aload_n (pc' := 64) rfl rfl rfl ?_
    refine j_get (pc' := 67) rfl rfl flX7_167 (gm_o g μ) (mF_6 μ) ?_
    have hf := Option.some.inj hf; subst hf
    exact j_iret rfl rfl (Nat.zero_le _) (Nat.zero_le _) ⟨rfl, rfl⟩
  rw [if_neg w3_3] at hf
  by_cases w3_4 : x1 = 4
  · rw [if_pos w3_4] at hf
    rw [w3_4]
    refine j_tableIn (tgt := 68) rfl (by decide) (by decide) rfl rfl ?_
    refine j_iconst (v := 0) (pc' := 69) rfl rfl (by decide) ?_
    refine j_istore_n (pc' := 70) (ls' := [(3, _), (2, _), (0, _), (1, _)]) rfl rfl (Nat.le_of_ble_eq_true rfl) rfl ?_
    obtain ⟨r70, e70, hf⟩ := o_bind hf
    refine j_sub (ls' := [(0, .ref 5000), (2, .int 0), (3, .int 0)]) ⟨rfl, rfl, rfl, trivial⟩ ?_
    refine s_X7_count_L70 g _ _ _ _ _ e70 ?_
    refine j_iload_n (pc' := 102) rfl rfl rfl ?_
    have hf := Option.some.inj hf; subst hf
    exact j_iret rfl rfl (Nat.zero_le _) (Nat.zero_le _) ⟨rfl, rfl⟩
  rw [if_neg w3_4] at hf
  by_cases w3_5 : x1 = 5
  · rw [if_pos w3_5] at hf
    rw [w3_5]
    refine j_tableIn (tgt := 103) rfl (by decide) (by decide) rfl rfl ?_
    refine j_iconst (v := 0) (pc' := 104) rfl rfl (by decide) ?_
    refine j_istore_n (pc' := 105) (ls' := [(3, _), (2, _), (0, _), (1, _)]) rfl rfl (Nat.le_of_ble_eq_true rfl) rfl ?_
    obtain ⟨r105, e105, hf⟩ := o_bind hf
    refine j_sub (ls' := [(0, .ref 5000), (2, .int 0), (3, .int 0)]) ⟨rfl, rfl, rfl, trivial⟩ ?_
    refine s_X7_count_L105 g _ _ _ _ _ e105 ?_
    refine j_iload_n (pc' := 145) rfl rfl rfl ?_
    have hf := Option.some.inj hf; subst hf
    exact j_iret rfl rfl (Nat.zero_le _) (Nat.zero_le _) ⟨rfl, rfl⟩
  rw [if_neg w3_5] at hf
  by_cases w3_6 : x1 = 6
  · rw [if_pos w3_6] at hf
    rw [w3_6]
    refine j_tableIn (tgt := 146) rfl (by decide) (by decide) rfl rfl ?_
    refine j_iconst (v := 0) (pc' := 147) rfl rfl (by decide) ?_
    refine j_istore_n (pc' := 148) (ls' := [(3, _), (2, _), (0, _), (1, _)]) rfl rfl (Nat.le_of_ble_eq_true rfl) rfl ?_
    obtain ⟨r148, e148, hf⟩ := o_bind hf
    refine j_sub (ls' := [(0, .ref 5000), (2, .int 0), (3, .int 0)]) ⟨rfl, rfl, rfl, trivial⟩ ?_
    refine s_X7_count_L148 g _ _ _ _ _ e148 ?_
    refine j_iload_n (pc' := 180) rfl rfl rfl ?_
    have hf := Option.some.inj hf; subst hf
    exact j_iret rfl rfl (Nat.zero_le _) (Nat.zero_le _) ⟨rfl, rfl⟩
  rw [if_neg w3_6] at hf
  by_cases w3_7 : x1 = 7
  · rw [if_pos w3_7] at hf
    rw [w3_7]
    refine j_tableIn (tgt := 181) rfl (by decide) (by decide) rfl rfl ?_
    refine j_aload_n (pc' := 182) rfl rfl rfl ?_
    refine j_get (pc' := 185) rfl rfl flX7_179 (gm_o g μ) (mF_20 μ) ?_
    have hf := Option.some.inj hf; subst hf
    exact j_iret rfl rfl (Nat.zero_le _) (Nat.zero_le _) ⟨rfl, rfl⟩
  rw [if_neg w3_7] at hf
  refine j_tableOut (tgt := 186) rfl (sw_out (n := 7) (by decide) (fun v hv => by
    have : v = 0 ∨ v = 1 ∨ v = 2 ∨ v = 3 ∨ v = 4 ∨ v = 5 ∨ v = 6 ∨ v = 7 := by omega
    rcases this with rfl | rfl | rfl | rfl | rfl | rfl | rfl | rfl
    · exact w3_0
    · exact w3_1
    · exact w3_2
    · exact w3_3
    · exact w3_4
    · exact w3_5
    · exact w3_6
    · exact w3_7)) rfl ?_
  refine j_iconst (v := (-1)) (pc' := 187) rfl rfl (by decide) ?_
  have hf := Option.some.inj hf; subst hf
  exact j_iret rfl rfl (Nat.zero_le _) (Nat.zero_le _) ⟨rfl, rfl⟩
end MODEL6
end
section
/-! THE CLASS'S STATE: int columns, long columns, reference columns, counts of cells. Keys: 0..25 fixed, 1000+i lots, 2000+i sorts, 3000+o orders, 3200+o told, 3400+o pence, 3600+o grains -/
section XSTATE
abbrev xS : Type := (Nat → Nat → Int32) × (Nat → Nat → Int64) × (Nat → Nat → Option Nat) × (Nat → Nat)
def xi (σ : xS) (k : Nat) (f : Nat → Int32) : xS := (va_up σ.1 k f, σ.2)
def xl (σ : xS) (k : Nat) (f : Nat → Int64) : xS := (σ.1, va_up σ.2.1 k f, σ.2.2)
def xr (σ : xS) (k : Nat) (f : Nat → Option Nat) : xS := (σ.1, σ.2.1, va_up σ.2.2.1 k f, σ.2.2.2)
def xc (σ : xS) (k n : Nat) : xS := (σ.1, σ.2.1, σ.2.2.1, va_up σ.2.2.2 k n)
theorem h_up_eq {h h2 : hH} {k : Nat} {e : hE} (h1 : h2 k = some e) (h3 : ∀ i, i ≠ k → h2 i = h i) : hup h k e = h2 := by
  funext i
  by_cases q : i = k
  · rw [q, hup_self, h1]
  · rw [hup_ne q, h3 i q]
def lotF (σ : xS) (i : Nat) : List Value := [.int (σ.1 100 i), va_rf (σ.2.2.1 101 i), .int (σ.1 102 i), .int (σ.1 103 i), .int (σ.1 104 i), .int (σ.1 105 i), .int (σ.1 106 i), .int (σ.1 107 i), .int (σ.1 108 i), .int (σ.1 109 i), .int (σ.1 110 i), .int (σ.1 111 i)]
theorem lotF_0 (σ : xS) (i : Nat) : (lotF σ i)[0]? = some (.int (σ.1 100 i)) := rfl
theorem lotF_1 (σ : xS) (i : Nat) : (lotF σ i)[1]? = some (va_rf (σ.2.2.1 101 i)) := rfl
theorem lotF_2 (σ : xS) (i : Nat) : (lotF σ i)[2]? = some (.int (σ.1 102 i)) := rfl
theorem lotF_3 (σ : xS) (i : Nat) : (lotF σ i)[3]? = some (.int (σ.1 103 i)) := rfl
theorem lotF_4 (σ : xS) (i : Nat) : (lotF σ i)[4]? = some (.int (σ.1 104 i)) := rfl
theorem lotF_5 (σ : xS) (i : Nat) : (lotF σ i)[5]? = some (.int (σ.1 105 i)) := rfl
theorem lotF_6 (σ : xS) (i : Nat) : (lotF σ i)[6]? = some (.int (σ.1 106 i)) := rfl
theorem lotF_7 (σ : xS) (i : Nat) : (lotF σ i)[7]? = some (.int (σ.1 107 i)) := rfl
theorem lotF_8 (σ : xS) (i : Nat) : (lotF σ i)[8]? = some (.int (σ.1 108 i)) := rfl
theorem lotF_9 (σ : xS) (i : Nat) : (lotF σ i)[9]? = some (.int (σ.1 109 i)) := rfl
theorem lotF_10 (σ : xS) (i : Nat) : (lotF σ i)[10]? = some (.int (σ.1 110 i)) := rfl
theorem lotF_11 (σ : xS) (i : Nat) : (lotF σ i)[11]? = some (.int (σ.1 111 i)) := rfl
def sortF (σ : xS) (i : Nat) : List Value := [.int (σ.1 120 i), .int (σ.1 121 i), .int (σ.1 122 i), .int (σ.1 123 i)]
theorem sortF_0 (σ : xS) (i : Nat) : (sortF σ i)[0]? = some (.int (σ.1 120 i)) := rfl
theorem sortF_1 (σ : xS) (i : Nat) : (sortF σ i)[1]? = some (.int (σ.1 121 i)) := rfl
theorem sortF_2 (σ : xS) (i : Nat) : (sortF σ i)[2]? = some (.int (σ.1 122 i)) := rfl
theorem sortF_3 (σ : xS) (i : Nat) : (sortF σ i)[3]? = some (.int (σ.1 123 i)) := rfl
def ordF (σ : xS) (i : Nat) : List Value := [va_rf (σ.2.2.1 130 i), va_rf (σ.2.2.1 131 i), va_rf (σ.2.2.1 132 i)]
theorem ordF_0 (σ : xS) (i : Nat) : (ordF σ i)[0]? = some (va_rf (σ.2.2.1 130 i)) := rfl
theorem ordF_1 (σ : xS) (i : Nat) : (ordF σ i)[1]? = some (va_rf (σ.2.2.1 131 i)) := rfl
theorem ordF_2 (σ : xS) (i : Nat) : (ordF σ i)[2]? = some (va_rf (σ.2.2.1 132 i)) := rfl
def potF (σ : xS) (i : Nat) : List Value := [.long (σ.2.1 140 i), .long (σ.2.1 141 i), .int (σ.1 142 i), .long (σ.2.1 143 i), .long (σ.2.1 144 i), .long (σ.2.1 145 i), .int (σ.1 146 i), .int (σ.1 147 i), .int (σ.1 148 i)]
theorem potF_0 (σ : xS) (i : Nat) : (potF σ i)[0]? = some (.long (σ.2.1 140 i)) := rfl
theorem potF_1 (σ : xS) (i : Nat) : (potF σ i)[1]? = some (.long (σ.2.1 141 i)) := rfl
theorem potF_2 (σ : xS) (i : Nat) : (potF σ i)[2]? = some (.int (σ.1 142 i)) := rfl
theorem potF_3 (σ : xS) (i : Nat) : (potF σ i)[3]? = some (.long (σ.2.1 143 i)) := rfl
theorem potF_4 (σ : xS) (i : Nat) : (potF σ i)[4]? = some (.long (σ.2.1 144 i)) := rfl
theorem potF_5 (σ : xS) (i : Nat) : (potF σ i)[5]? = some (.long (σ.2.1 145 i)) := rfl
theorem potF_6 (σ : xS) (i : Nat) : (potF σ i)[6]? = some (.int (σ.1 146 i)) := rfl
theorem potF_7 (σ : xS) (i : Nat) : (potF σ i)[7]? = some (.int (σ.1 147 i)) := rfl
theorem potF_8 (σ : xS) (i : Nat) : (potF σ i)[8]? = some (.int (σ.1 148 i)) := rfl
def nsF (σ : xS) : List Value := [.ref 1, .int (σ.1 1 0), .ref 2, .int (σ.1 3 0), .ref 3, .int (σ.1 5 0), .ref 11, .ref 4, .ref 5, .ref 6, .ref 7, .int (σ.1 11 0), .ref 8, .ref 9, .ref 10, .ref 15, .int (σ.1 16 0)]
theorem nsF_0 (σ : xS) : (nsF σ)[0]? = some (.ref 1) := rfl
theorem nsF_1 (σ : xS) : (nsF σ)[1]? = some (.int (σ.1 1 0)) := rfl
theorem nsF_2 (σ : xS) : (nsF σ)[2]? = some (.ref 2) := rfl
theorem nsF_3 (σ : xS) : (nsF σ)[3]? = some (.int (σ.1 3 0)) := rfl
theorem nsF_4 (σ : xS) : (nsF σ)[4]? = some (.ref 3) := rfl
theorem nsF_5 (σ : xS) : (nsF σ)[5]? = some (.int (σ.1 5 0)) := rfl
theorem nsF_6 (σ : xS) : (nsF σ)[6]? = some (.ref 11) := rfl
theorem nsF_7 (σ : xS) : (nsF σ)[7]? = some (.ref 4) := rfl
theorem nsF_8 (σ : xS) : (nsF σ)[8]? = some (.ref 5) := rfl
theorem nsF_9 (σ : xS) : (nsF σ)[9]? = some (.ref 6) := rfl
theorem nsF_10 (σ : xS) : (nsF σ)[10]? = some (.ref 7) := rfl
theorem nsF_11 (σ : xS) : (nsF σ)[11]? = some (.int (σ.1 11 0)) := rfl
theorem nsF_12 (σ : xS) : (nsF σ)[12]? = some (.ref 8) := rfl
theorem nsF_13 (σ : xS) : (nsF σ)[13]? = some (.ref 9) := rfl
theorem nsF_14 (σ : xS) : (nsF σ)[14]? = some (.ref 10) := rfl
theorem nsF_15 (σ : xS) : (nsF σ)[15]? = some (.ref 15) := rfl
theorem nsF_16 (σ : xS) : (nsF σ)[16]? = some (.int (σ.1 16 0)) := rfl
def tpF (σ : xS) : List Value := [.ref 12, .ref 13, .int (σ.1 20 0), .ref 14, .int (σ.1 21 0)]
theorem tpF_0 (σ : xS) : (tpF σ)[0]? = some (.ref 12) := rfl
theorem tpF_1 (σ : xS) : (tpF σ)[1]? = some (.ref 13) := rfl
theorem tpF_2 (σ : xS) : (tpF σ)[2]? = some (.int (σ.1 20 0)) := rfl
theorem tpF_3 (σ : xS) : (tpF σ)[3]? = some (.ref 14) := rfl
theorem tpF_4 (σ : xS) : (tpF σ)[4]? = some (.int (σ.1 21 0)) := rfl
def crF (σ : xS) : List Value := [.ref 16, .ref 17, .ref 18, .ref 19, .ref 20, .ref 21, .ref 22]
theorem crF_0 (σ : xS) : (crF σ)[0]? = some (.ref 16) := rfl
theorem crF_1 (σ : xS) : (crF σ)[1]? = some (.ref 17) := rfl
theorem crF_2 (σ : xS) : (crF σ)[2]? = some (.ref 18) := rfl
theorem crF_3 (σ : xS) : (crF σ)[3]? = some (.ref 19) := rfl
theorem crF_4 (σ : xS) : (crF σ)[4]? = some (.ref 20) := rfl
theorem crF_5 (σ : xS) : (crF σ)[5]? = some (.ref 21) := rfl
theorem crF_6 (σ : xS) : (crF σ)[6]? = some (.ref 22) := rfl
def xL (σ : xS) : List (Option hE) := [some (.inr (6, nsF σ)), some (.inl (.object RX4, 8, .inr (.inr (.inr (.inr (σ.2.2.1 0)))))), some (.inl (.object RX1, 30, .inr (.inr (.inr (.inr (σ.2.2.1 2)))))), some (.inl (.object RX2, 10, .inr (.inr (.inr (.inr (σ.2.2.1 4)))))), some (.inl (.object RX3, 3, .inr (.inr (.inr (.inr (σ.2.2.1 7)))))), some (.inl (.int, 18, .inl (σ.1 8))), some (.inl (.long, 6, .inr (.inl (σ.2.1 9)))), some (.inl (.int, 30, .inl (σ.1 10))), some (.inl (.int, 30, .inl (σ.1 12))), some (.inl (.int, 3, .inl (σ.1 13))), some (.inl (.int, 6, .inl (σ.1 14))), some (.inr (5, tpF σ)), some (.inl (.int, 8, .inl (σ.1 22))), some (.inl (.int, 8, .inl (σ.1 23))), some (.inl (.byte, 160, .inl (σ.1 24))), some (.inr (0, crF σ)), some (.inl (.int, 3, .inl (σ.1 40))), some (.inl (.int, 6, .inl (σ.1 41))), some (.inl (.int, 18, .inl (σ.1 42))), some (.inl (.int, 3, .inl (σ.1 43))), some (.inl (.int, 6, .inl (σ.1 44))), some (.inl (.int, 3, .inl (σ.1 45))), some (.inl (.int, 6, .inl (σ.1 46))), some (.inr (3, potF σ 0)), some (.inr (3, potF σ 1)), some (.inr (3, potF σ 2))]
def gx (g : hH) (σ : xS) : hH := fun key =>
  if key < 1000 then nth (xL σ) key
  else if key < 2000 then (if key - 1000 < σ.2.2.2 1 then some (.inr (1, lotF σ (key - 1000))) else none)
  else if key < 3000 then (if key - 2000 < σ.2.2.2 0 then some (.inr (4, sortF σ (key - 2000))) else none)
  else if key < 3200 then (if key - 3000 < σ.2.2.2 2 then some (.inr (2, ordF σ (key - 3000))) else none)
  else if key < 3400 then (if key - 3200 < σ.2.2.2 6 then some (.inl (.int, 6, .inl (σ.1 (1000 + (key - 3200))))) else none)
  else if key < 3600 then (if key - 3400 < σ.2.2.2 7 then some (.inl (.int, 8, .inl (σ.1 (2000 + (key - 3400))))) else none)
  else if key < 3800 then (if key - 3600 < σ.2.2.2 8 then some (.inl (.int, 8, .inl (σ.1 (3000 + (key - 3600))))) else none)
  else g key
theorem xL_len (σ : xS) : (xL σ).length = 26 := rfl
theorem gx_lo {g : hH} {σ : xS} {k : Nat} (h : k < 1000) : gx g σ k = nth (xL σ) k := by unfold gx; rw [if_pos h]
theorem gx_1 {g : hH} {σ : xS} {k : Nat} (h1 : 1000 ≤ k) (h : k < 2000) : gx g σ k = if k - 1000 < σ.2.2.2 1 then some (.inr (1, lotF σ (k - 1000))) else none := by unfold gx; rw [if_neg (by omega), if_pos h]
theorem gx_2 {g : hH} {σ : xS} {k : Nat} (h1 : 2000 ≤ k) (h : k < 3000) : gx g σ k = if k - 2000 < σ.2.2.2 0 then some (.inr (4, sortF σ (k - 2000))) else none := by unfold gx; rw [if_neg (by omega), if_neg (by omega), if_pos h]
theorem gx_3 {g : hH} {σ : xS} {k : Nat} (h1 : 3000 ≤ k) (h : k < 3200) : gx g σ k = if k - 3000 < σ.2.2.2 2 then some (.inr (2, ordF σ (k - 3000))) else none := by unfold gx; rw [if_neg (by omega), if_neg (by omega), if_neg (by omega), if_pos h]
theorem gx_4 {g : hH} {σ : xS} {k : Nat} (h1 : 3200 ≤ k) (h : k < 3400) : gx g σ k = if k - 3200 < σ.2.2.2 6 then some (.inl (.int, 6, .inl (σ.1 (1000 + (k - 3200))))) else none := by unfold gx; rw [if_neg (by omega), if_neg (by omega), if_neg (by omega), if_neg (by omega), if_pos h]
theorem gx_5 {g : hH} {σ : xS} {k : Nat} (h1 : 3400 ≤ k) (h : k < 3600) : gx g σ k = if k - 3400 < σ.2.2.2 7 then some (.inl (.int, 8, .inl (σ.1 (2000 + (k - 3400))))) else none := by unfold gx; rw [if_neg (by omega), if_neg (by omega), if_neg (by omega), if_neg (by omega), if_neg (by omega), if_pos h]
theorem gx_6 {g : hH} {σ : xS} {k : Nat} (h1 : 3600 ≤ k) (h : k < 3800) : gx g σ k = if k - 3600 < σ.2.2.2 8 then some (.inl (.int, 8, .inl (σ.1 (3000 + (k - 3600))))) else none := by unfold gx; rw [if_neg (by omega), if_neg (by omega), if_neg (by omega), if_neg (by omega), if_neg (by omega), if_neg (by omega), if_pos h]
theorem gx_g {g : hH} {σ : xS} {k : Nat} (h : 3800 ≤ k) : gx g σ k = g k := by unfold gx; rw [if_neg (by omega), if_neg (by omega), if_neg (by omega), if_neg (by omega), if_neg (by omega), if_neg (by omega), if_neg (by omega)]
/-- another state whose cells are the same but for a part -/
theorem gx_eq {g : hH} {σ τ : xS} {k : Nat} (hL : k < 1000 → nth (xL τ) k = nth (xL σ) k) (hc : ∀ j, τ.2.2.2 j = σ.2.2.2 j) (h1 : 1000 ≤ k → k < 2000 → lotF τ (k - 1000) = lotF σ (k - 1000)) (h2 : 2000 ≤ k → k < 3000 → sortF τ (k - 2000) = sortF σ (k - 2000)) (h3 : 3000 ≤ k → k < 3200 → ordF τ (k - 3000) = ordF σ (k - 3000)) (h4 : 3200 ≤ k → k < 3400 → τ.1 (1000 + (k - 3200)) = σ.1 (1000 + (k - 3200))) (h5 : 3400 ≤ k → k < 3600 → τ.1 (2000 + (k - 3400)) = σ.1 (2000 + (k - 3400))) (h6 : 3600 ≤ k → k < 3800 → τ.1 (3000 + (k - 3600)) = σ.1 (3000 + (k - 3600))) : gx g τ k = gx g σ k := by
  by_cases q1 : k < 1000
  · rw [gx_lo q1, gx_lo q1, hL q1]
  by_cases q2 : k < 2000
  · rw [gx_1 (by omega) q2, gx_1 (by omega) q2, hc, h1 (by omega) q2]
  by_cases q3 : k < 3000
  · rw [gx_2 (by omega) q3, gx_2 (by omega) q3, hc, h2 (by omega) q3]
  by_cases q4 : k < 3200
  · rw [gx_3 (by omega) q4, gx_3 (by omega) q4, hc, h3 (by omega) q4]
  by_cases q5 : k < 3400
  · rw [gx_4 (by omega) q5, gx_4 (by omega) q5, hc, h4 (by omega) q5]
  by_cases q6 : k < 3600
  · rw [gx_5 (by omega) q6, gx_5 (by omega) q6, hc, h5 (by omega) q6]
  by_cases q7 : k < 3800
  · rw [gx_6 (by omega) q7, gx_6 (by omega) q7, hc, h6 (by omega) q7]
  · rw [gx_g (by omega), gx_g (by omega)]
theorem gx_eq2 {g : hH} {σ τ : xS} {k : Nat} (hL : k < 1000 → nth (xL τ) k = nth (xL σ) k) (h1 : 1000 ≤ k → k < 2000 → (if k - 1000 < τ.2.2.2 1 then some (Sum.inr (1, lotF τ (k - 1000)) : hE) else none) = if k - 1000 < σ.2.2.2 1 then some (Sum.inr (1, lotF σ (k - 1000))) else none) (h2 : 2000 ≤ k → k < 3000 → (if k - 2000 < τ.2.2.2 0 then some (Sum.inr (4, sortF τ (k - 2000)) : hE) else none) = if k - 2000 < σ.2.2.2 0 then some (Sum.inr (4, sortF σ (k - 2000))) else none) (h3 : 3000 ≤ k → k < 3200 → (if k - 3000 < τ.2.2.2 2 then some (Sum.inr (2, ordF τ (k - 3000)) : hE) else none) = if k - 3000 < σ.2.2.2 2 then some (Sum.inr (2, ordF σ (k - 3000))) else none) (h4 : 3200 ≤ k → k < 3400 → (if k - 3200 < τ.2.2.2 6 then some (Sum.inl (.int, 6, .inl (τ.1 (1000 + (k - 3200)))) : hE) else none) = if k - 3200 < σ.2.2.2 6 then some (Sum.inl (.int, 6, .inl (σ.1 (1000 + (k - 3200))))) else none) (h5 : 3400 ≤ k → k < 3600 → (if k - 3400 < τ.2.2.2 7 then some (Sum.inl (.int, 8, .inl (τ.1 (2000 + (k - 3400)))) : hE) else none) = if k - 3400 < σ.2.2.2 7 then some (Sum.inl (.int, 8, .inl (σ.1 (2000 + (k - 3400))))) else none) (h6 : 3600 ≤ k → k < 3800 → (if k - 3600 < τ.2.2.2 8 then some (Sum.inl (.int, 8, .inl (τ.1 (3000 + (k - 3600)))) : hE) else none) = if k - 3600 < σ.2.2.2 8 then some (Sum.inl (.int, 8, .inl (σ.1 (3000 + (k - 3600))))) else none) : gx g τ k = gx g σ k := by
  by_cases q1 : k < 1000
  · rw [gx_lo q1, gx_lo q1, hL q1]
  by_cases q2 : k < 2000
  · rw [gx_1 (by omega) q2, gx_1 (by omega) q2, h1 (by omega) q2]
  by_cases q3 : k < 3000
  · rw [gx_2 (by omega) q3, gx_2 (by omega) q3, h2 (by omega) q3]
  by_cases q4 : k < 3200
  · rw [gx_3 (by omega) q4, gx_3 (by omega) q4, h3 (by omega) q4]
  by_cases q5 : k < 3400
  · rw [gx_4 (by omega) q5, gx_4 (by omega) q5, h4 (by omega) q5]
  by_cases q6 : k < 3600
  · rw [gx_5 (by omega) q6, gx_5 (by omega) q6, h5 (by omega) q6]
  by_cases q7 : k < 3800
  · rw [gx_6 (by omega) q7, gx_6 (by omega) q7, h6 (by omega) q7]
  · rw [gx_g (by omega), gx_g (by omega)]
/-- int columns other than the families' -/
theorem xi_c (σ : xS) (k : Nat) (f : Nat → Int32) (j : Nat) : (xi σ k f).2.2.2 j = σ.2.2.2 j := rfl
theorem xi_ne {σ : xS} {k j : Nat} {f : Nat → Int32} (h : j ≠ k) : (xi σ k f).1 j = σ.1 j := va_up_ne _ _ h
theorem xi_self (σ : xS) (k : Nat) (f : Nat → Int32) : (xi σ k f).1 k = f := va_up_self _ _ _
/-- a fixed cell is written -/
theorem gx_up (g : hH) (σ τ : xS) (j : Nat) (e : hE) (hj : j < 26) (hL : xL τ = (xL σ).set j (some e)) (hc : ∀ j, τ.2.2.2 j = σ.2.2.2 j) (h1 : ∀ i, lotF τ i = lotF σ i) (h2 : ∀ i, sortF τ i = sortF σ i) (h3 : ∀ i, ordF τ i = ordF σ i) (h4 : ∀ i, 500 ≤ i → τ.1 i = σ.1 i) : hup (gx g σ) j e = gx g τ := by
  refine h_up_eq ?_ (fun i hi => gx_eq (fun q => ?_) hc (fun _ _ => h1 _) (fun _ _ => h2 _) (fun _ _ => h3 _) (fun _ _ => h4 _ (by omega)) (fun _ _ => h4 _ (by omega)) (fun _ _ => h4 _ (by omega)))
  · rw [gx_lo (by omega), hL, nth_set _ _ _ _ (by rw [xL_len]; exact hj), if_pos rfl]
  · rw [hL, nth_set _ _ _ _ (by rw [xL_len]; exact hj), if_neg hi]
theorem gxk_0 (g : hH) (σ : xS) : gx g σ 0 = some (.inr (6, nsF σ)) := (gx_lo (Nat.le_of_ble_eq_true rfl)).trans rfl
theorem gxk_1 (g : hH) (σ : xS) : gx g σ 1 = some (.inl (.object RX4, 8, .inr (.inr (.inr (.inr (σ.2.2.1 0)))))) := (gx_lo (Nat.le_of_ble_eq_true rfl)).trans rfl
theorem gxk_2 (g : hH) (σ : xS) : gx g σ 2 = some (.inl (.object RX1, 30, .inr (.inr (.inr (.inr (σ.2.2.1 2)))))) := (gx_lo (Nat.le_of_ble_eq_true rfl)).trans rfl
theorem gxk_3 (g : hH) (σ : xS) : gx g σ 3 = some (.inl (.object RX2, 10, .inr (.inr (.inr (.inr (σ.2.2.1 4)))))) := (gx_lo (Nat.le_of_ble_eq_true rfl)).trans rfl
theorem gxk_4 (g : hH) (σ : xS) : gx g σ 4 = some (.inl (.object RX3, 3, .inr (.inr (.inr (.inr (σ.2.2.1 7)))))) := (gx_lo (Nat.le_of_ble_eq_true rfl)).trans rfl
theorem gxk_5 (g : hH) (σ : xS) : gx g σ 5 = some (.inl (.int, 18, .inl (σ.1 8))) := (gx_lo (Nat.le_of_ble_eq_true rfl)).trans rfl
theorem gxk_6 (g : hH) (σ : xS) : gx g σ 6 = some (.inl (.long, 6, .inr (.inl (σ.2.1 9)))) := (gx_lo (Nat.le_of_ble_eq_true rfl)).trans rfl
theorem gxk_7 (g : hH) (σ : xS) : gx g σ 7 = some (.inl (.int, 30, .inl (σ.1 10))) := (gx_lo (Nat.le_of_ble_eq_true rfl)).trans rfl
theorem gxk_8 (g : hH) (σ : xS) : gx g σ 8 = some (.inl (.int, 30, .inl (σ.1 12))) := (gx_lo (Nat.le_of_ble_eq_true rfl)).trans rfl
theorem gxk_9 (g : hH) (σ : xS) : gx g σ 9 = some (.inl (.int, 3, .inl (σ.1 13))) := (gx_lo (Nat.le_of_ble_eq_true rfl)).trans rfl
theorem gxk_10 (g : hH) (σ : xS) : gx g σ 10 = some (.inl (.int, 6, .inl (σ.1 14))) := (gx_lo (Nat.le_of_ble_eq_true rfl)).trans rfl
theorem gxk_11 (g : hH) (σ : xS) : gx g σ 11 = some (.inr (5, tpF σ)) := (gx_lo (Nat.le_of_ble_eq_true rfl)).trans rfl
theorem gxk_12 (g : hH) (σ : xS) : gx g σ 12 = some (.inl (.int, 8, .inl (σ.1 22))) := (gx_lo (Nat.le_of_ble_eq_true rfl)).trans rfl
theorem gxk_13 (g : hH) (σ : xS) : gx g σ 13 = some (.inl (.int, 8, .inl (σ.1 23))) := (gx_lo (Nat.le_of_ble_eq_true rfl)).trans rfl
theorem gxk_14 (g : hH) (σ : xS) : gx g σ 14 = some (.inl (.byte, 160, .inl (σ.1 24))) := (gx_lo (Nat.le_of_ble_eq_true rfl)).trans rfl
theorem gxk_15 (g : hH) (σ : xS) : gx g σ 15 = some (.inr (0, crF σ)) := (gx_lo (Nat.le_of_ble_eq_true rfl)).trans rfl
theorem gxk_16 (g : hH) (σ : xS) : gx g σ 16 = some (.inl (.int, 3, .inl (σ.1 40))) := (gx_lo (Nat.le_of_ble_eq_true rfl)).trans rfl
theorem gxk_17 (g : hH) (σ : xS) : gx g σ 17 = some (.inl (.int, 6, .inl (σ.1 41))) := (gx_lo (Nat.le_of_ble_eq_true rfl)).trans rfl
theorem gxk_18 (g : hH) (σ : xS) : gx g σ 18 = some (.inl (.int, 18, .inl (σ.1 42))) := (gx_lo (Nat.le_of_ble_eq_true rfl)).trans rfl
theorem gxk_19 (g : hH) (σ : xS) : gx g σ 19 = some (.inl (.int, 3, .inl (σ.1 43))) := (gx_lo (Nat.le_of_ble_eq_true rfl)).trans rfl
theorem gxk_20 (g : hH) (σ : xS) : gx g σ 20 = some (.inl (.int, 6, .inl (σ.1 44))) := (gx_lo (Nat.le_of_ble_eq_true rfl)).trans rfl
theorem gxk_21 (g : hH) (σ : xS) : gx g σ 21 = some (.inl (.int, 3, .inl (σ.1 45))) := (gx_lo (Nat.le_of_ble_eq_true rfl)).trans rfl
theorem gxk_22 (g : hH) (σ : xS) : gx g σ 22 = some (.inl (.int, 6, .inl (σ.1 46))) := (gx_lo (Nat.le_of_ble_eq_true rfl)).trans rfl
theorem gxs_5 (g : hH) (σ : xS) (f : Nat → Int32) : hup (gx g σ) 5 (.inl (.int, 18, .inl f)) = gx g (xi σ 8 f) := gx_up g σ (xi σ 8 f) 5 _ (by decide) rfl (fun _ => rfl) (fun _ => rfl) (fun _ => rfl) (fun _ => rfl) (fun i hi => xi_ne (by omega))
theorem gxs_6 (g : hH) (σ : xS) (f : Nat → Int64) : hup (gx g σ) 6 (.inl (.long, 6, .inr (.inl f))) = gx g (xl σ 9 f) := gx_up g σ (xl σ 9 f) 6 _ (by decide) rfl (fun _ => rfl) (fun _ => rfl) (fun _ => rfl) (fun _ => rfl) (fun i hi => rfl)
theorem gxs_7 (g : hH) (σ : xS) (f : Nat → Int32) : hup (gx g σ) 7 (.inl (.int, 30, .inl f)) = gx g (xi σ 10 f) := gx_up g σ (xi σ 10 f) 7 _ (by decide) rfl (fun _ => rfl) (fun _ => rfl) (fun _ => rfl) (fun _ => rfl) (fun i hi => xi_ne (by omega))
theorem gxs_8 (g : hH) (σ : xS) (f : Nat → Int32) : hup (gx g σ) 8 (.inl (.int, 30, .inl f)) = gx g (xi σ 12 f) := gx_up g σ (xi σ 12 f) 8 _ (by decide) rfl (fun _ => rfl) (fun _ => rfl) (fun _ => rfl) (fun _ => rfl) (fun i hi => xi_ne (by omega))
theorem gxs_9 (g : hH) (σ : xS) (f : Nat → Int32) : hup (gx g σ) 9 (.inl (.int, 3, .inl f)) = gx g (xi σ 13 f) := gx_up g σ (xi σ 13 f) 9 _ (by decide) rfl (fun _ => rfl) (fun _ => rfl) (fun _ => rfl) (fun _ => rfl) (fun i hi => xi_ne (by omega))
theorem gxs_10 (g : hH) (σ : xS) (f : Nat → Int32) : hup (gx g σ) 10 (.inl (.int, 6, .inl f)) = gx g (xi σ 14 f) := gx_up g σ (xi σ 14 f) 10 _ (by decide) rfl (fun _ => rfl) (fun _ => rfl) (fun _ => rfl) (fun _ => rfl) (fun i hi => xi_ne (by omega))
theorem gxs_12 (g : hH) (σ : xS) (f : Nat → Int32) : hup (gx g σ) 12 (.inl (.int, 8, .inl f)) = gx g (xi σ 22 f) := gx_up g σ (xi σ 22 f) 12 _ (by decide) rfl (fun _ => rfl) (fun _ => rfl) (fun _ => rfl) (fun _ => rfl) (fun i hi => xi_ne (by omega))
theorem gxs_13 (g : hH) (σ : xS) (f : Nat → Int32) : hup (gx g σ) 13 (.inl (.int, 8, .inl f)) = gx g (xi σ 23 f) := gx_up g σ (xi σ 23 f) 13 _ (by decide) rfl (fun _ => rfl) (fun _ => rfl) (fun _ => rfl) (fun _ => rfl) (fun i hi => xi_ne (by omega))
theorem gxs_14 (g : hH) (σ : xS) (f : Nat → Int32) : hup (gx g σ) 14 (.inl (.byte, 160, .inl f)) = gx g (xi σ 24 f) := gx_up g σ (xi σ 24 f) 14 _ (by decide) rfl (fun _ => rfl) (fun _ => rfl) (fun _ => rfl) (fun _ => rfl) (fun i hi => xi_ne (by omega))
theorem gxs_16 (g : hH) (σ : xS) (f : Nat → Int32) : hup (gx g σ) 16 (.inl (.int, 3, .inl f)) = gx g (xi σ 40 f) := gx_up g σ (xi σ 40 f) 16 _ (by decide) rfl (fun _ => rfl) (fun _ => rfl) (fun _ => rfl) (fun _ => rfl) (fun i hi => xi_ne (by omega))
theorem gxs_17 (g : hH) (σ : xS) (f : Nat → Int32) : hup (gx g σ) 17 (.inl (.int, 6, .inl f)) = gx g (xi σ 41 f) := gx_up g σ (xi σ 41 f) 17 _ (by decide) rfl (fun _ => rfl) (fun _ => rfl) (fun _ => rfl) (fun _ => rfl) (fun i hi => xi_ne (by omega))
theorem gxs_18 (g : hH) (σ : xS) (f : Nat → Int32) : hup (gx g σ) 18 (.inl (.int, 18, .inl f)) = gx g (xi σ 42 f) := gx_up g σ (xi σ 42 f) 18 _ (by decide) rfl (fun _ => rfl) (fun _ => rfl) (fun _ => rfl) (fun _ => rfl) (fun i hi => xi_ne (by omega))
theorem gxs_19 (g : hH) (σ : xS) (f : Nat → Int32) : hup (gx g σ) 19 (.inl (.int, 3, .inl f)) = gx g (xi σ 43 f) := gx_up g σ (xi σ 43 f) 19 _ (by decide) rfl (fun _ => rfl) (fun _ => rfl) (fun _ => rfl) (fun _ => rfl) (fun i hi => xi_ne (by omega))
theorem gxs_20 (g : hH) (σ : xS) (f : Nat → Int32) : hup (gx g σ) 20 (.inl (.int, 6, .inl f)) = gx g (xi σ 44 f) := gx_up g σ (xi σ 44 f) 20 _ (by decide) rfl (fun _ => rfl) (fun _ => rfl) (fun _ => rfl) (fun _ => rfl) (fun i hi => xi_ne (by omega))
theorem gxs_21 (g : hH) (σ : xS) (f : Nat → Int32) : hup (gx g σ) 21 (.inl (.int, 3, .inl f)) = gx g (xi σ 45 f) := gx_up g σ (xi σ 45 f) 21 _ (by decide) rfl (fun _ => rfl) (fun _ => rfl) (fun _ => rfl) (fun _ => rfl) (fun i hi => xi_ne (by omega))
theorem gxs_22 (g : hH) (σ : xS) (f : Nat → Int32) : hup (gx g σ) 22 (.inl (.int, 6, .inl f)) = gx g (xi σ 46 f) := gx_up g σ (xi σ 46 f) 22 _ (by decide) rfl (fun _ => rfl) (fun _ => rfl) (fun _ => rfl) (fun _ => rfl) (fun i hi => xi_ne (by omega))
theorem gxs_1 (g : hH) (σ : xS) (f : Nat → Option Nat) : hup (gx g σ) 1 (.inl (.object RX4, 8, .inr (.inr (.inr (.inr f))))) = gx g (xr σ 0 f) := gx_up g σ (xr σ 0 f) 1 _ (by decide) rfl (fun _ => rfl) (fun _ => rfl) (fun _ => rfl) (fun _ => rfl) (fun i hi => rfl)
theorem gxs_2 (g : hH) (σ : xS) (f : Nat → Option Nat) : hup (gx g σ) 2 (.inl (.object RX1, 30, .inr (.inr (.inr (.inr f))))) = gx g (xr σ 2 f) := gx_up g σ (xr σ 2 f) 2 _ (by decide) rfl (fun _ => rfl) (fun _ => rfl) (fun _ => rfl) (fun _ => rfl) (fun i hi => rfl)
theorem gxs_3 (g : hH) (σ : xS) (f : Nat → Option Nat) : hup (gx g σ) 3 (.inl (.object RX2, 10, .inr (.inr (.inr (.inr f))))) = gx g (xr σ 4 f) := gx_up g σ (xr σ 4 f) 3 _ (by decide) rfl (fun _ => rfl) (fun _ => rfl) (fun _ => rfl) (fun _ => rfl) (fun i hi => rfl)
theorem gxs_4 (g : hH) (σ : xS) (f : Nat → Option Nat) : hup (gx g σ) 4 (.inl (.object RX3, 3, .inr (.inr (.inr (.inr f))))) = gx g (xr σ 7 f) := gx_up g σ (xr σ 7 f) 4 _ (by decide) rfl (fun _ => rfl) (fun _ => rfl) (fun _ => rfl) (fun _ => rfl) (fun i hi => rfl)
theorem nss_1 (g : hH) (σ : xS) (x : Int32) : hup (gx g σ) 0 (.inr (6, (nsF σ).set 1 (.int x))) = gx g (xi σ 1 (fun _ => x)) := gx_up g σ (xi σ 1 (fun _ => x)) 0 _ (by decide) rfl (fun _ => rfl) (fun _ => rfl) (fun _ => rfl) (fun _ => rfl) (fun i hi => xi_ne (by omega))
theorem nss_3 (g : hH) (σ : xS) (x : Int32) : hup (gx g σ) 0 (.inr (6, (nsF σ).set 3 (.int x))) = gx g (xi σ 3 (fun _ => x)) := gx_up g σ (xi σ 3 (fun _ => x)) 0 _ (by decide) rfl (fun _ => rfl) (fun _ => rfl) (fun _ => rfl) (fun _ => rfl) (fun i hi => xi_ne (by omega))
theorem nss_5 (g : hH) (σ : xS) (x : Int32) : hup (gx g σ) 0 (.inr (6, (nsF σ).set 5 (.int x))) = gx g (xi σ 5 (fun _ => x)) := gx_up g σ (xi σ 5 (fun _ => x)) 0 _ (by decide) rfl (fun _ => rfl) (fun _ => rfl) (fun _ => rfl) (fun _ => rfl) (fun i hi => xi_ne (by omega))
theorem nss_11 (g : hH) (σ : xS) (x : Int32) : hup (gx g σ) 0 (.inr (6, (nsF σ).set 11 (.int x))) = gx g (xi σ 11 (fun _ => x)) := gx_up g σ (xi σ 11 (fun _ => x)) 0 _ (by decide) rfl (fun _ => rfl) (fun _ => rfl) (fun _ => rfl) (fun _ => rfl) (fun i hi => xi_ne (by omega))
theorem nss_16 (g : hH) (σ : xS) (x : Int32) : hup (gx g σ) 0 (.inr (6, (nsF σ).set 16 (.int x))) = gx g (xi σ 16 (fun _ => x)) := gx_up g σ (xi σ 16 (fun _ => x)) 0 _ (by decide) rfl (fun _ => rfl) (fun _ => rfl) (fun _ => rfl) (fun _ => rfl) (fun i hi => xi_ne (by omega))
theorem tps_2 (g : hH) (σ : xS) (x : Int32) : hup (gx g σ) 11 (.inr (5, (tpF σ).set 2 (.int x))) = gx g (xi σ 20 (fun _ => x)) := gx_up g σ (xi σ 20 (fun _ => x)) 11 _ (by decide) rfl (fun _ => rfl) (fun _ => rfl) (fun _ => rfl) (fun _ => rfl) (fun i hi => xi_ne (by omega))
theorem tps_4 (g : hH) (σ : xS) (x : Int32) : hup (gx g σ) 11 (.inr (5, (tpF σ).set 4 (.int x))) = gx g (xi σ 21 (fun _ => x)) := gx_up g σ (xi σ 21 (fun _ => x)) 11 _ (by decide) rfl (fun _ => rfl) (fun _ => rfl) (fun _ => rfl) (fun _ => rfl) (fun i hi => xi_ne (by omega))
def isL (σ : xS) (k : Nat) : Bool := decide (1000 ≤ k ∧ k < 2000 ∧ k - 1000 < σ.2.2.2 1)
def isS (σ : xS) (k : Nat) : Bool := decide (2000 ≤ k ∧ k < 3000 ∧ k - 2000 < σ.2.2.2 0)
def isO (σ : xS) (k : Nat) : Bool := decide (3000 ≤ k ∧ k < 3200 ∧ k - 3000 < σ.2.2.2 2)
def isT (σ : xS) (k : Nat) : Bool := decide (3200 ≤ k ∧ k < 3400 ∧ k - 3200 < σ.2.2.2 6)
def isPe (σ : xS) (k : Nat) : Bool := decide (3400 ≤ k ∧ k < 3600 ∧ k - 3400 < σ.2.2.2 7)
def isGr (σ : xS) (k : Nat) : Bool := decide (3600 ≤ k ∧ k < 3800 ∧ k - 3600 < σ.2.2.2 8)
def isP (σ : xS) (k : Nat) : Bool := decide (23 ≤ k ∧ k ≤ 25)
theorem gx_lot {g : hH} {σ : xS} {k : Nat} (c : isL σ k = true) : gx g σ k = some (.inr (1, lotF σ (k - 1000))) := by
  have q : 1000 ≤ k ∧ k < 2000 ∧ k - 1000 < σ.2.2.2 1 := of_decide_eq_true c
  rw [gx_1 q.1 q.2.1, if_pos q.2.2]
theorem gx_sort {g : hH} {σ : xS} {k : Nat} (c : isS σ k = true) : gx g σ k = some (.inr (4, sortF σ (k - 2000))) := by
  have q : 2000 ≤ k ∧ k < 3000 ∧ k - 2000 < σ.2.2.2 0 := of_decide_eq_true c
  rw [gx_2 q.1 q.2.1, if_pos q.2.2]
theorem gx_ord {g : hH} {σ : xS} {k : Nat} (c : isO σ k = true) : gx g σ k = some (.inr (2, ordF σ (k - 3000))) := by
  have q : 3000 ≤ k ∧ k < 3200 ∧ k - 3000 < σ.2.2.2 2 := of_decide_eq_true c
  rw [gx_3 q.1 q.2.1, if_pos q.2.2]
theorem gx_told {g : hH} {σ : xS} {k : Nat} (c : isT σ k = true) : gx g σ k = some (.inl (.int, 6, .inl (σ.1 (1000 + (k - 3200))))) := by
  have q : 3200 ≤ k ∧ k < 3400 ∧ k - 3200 < σ.2.2.2 6 := of_decide_eq_true c
  rw [gx_4 q.1 q.2.1, if_pos q.2.2]
theorem gx_pence {g : hH} {σ : xS} {k : Nat} (c : isPe σ k = true) : gx g σ k = some (.inl (.int, 8, .inl (σ.1 (2000 + (k - 3400))))) := by
  have q : 3400 ≤ k ∧ k < 3600 ∧ k - 3400 < σ.2.2.2 7 := of_decide_eq_true c
  rw [gx_5 q.1 q.2.1, if_pos q.2.2]
theorem gx_grains {g : hH} {σ : xS} {k : Nat} (c : isGr σ k = true) : gx g σ k = some (.inl (.int, 8, .inl (σ.1 (3000 + (k - 3600))))) := by
  have q : 3600 ≤ k ∧ k < 3800 ∧ k - 3600 < σ.2.2.2 8 := of_decide_eq_true c
  rw [gx_6 q.1 q.2.1, if_pos q.2.2]
theorem gx_pot {g : hH} {σ : xS} {k : Nat} (c : isP σ k = true) : gx g σ k = some (.inr (3, potF σ (k - 23))) := by
  have q : 23 ≤ k ∧ k ≤ 25 := of_decide_eq_true c
  have : k = 23 ∨ k = 24 ∨ k = 25 := by omega
  rcases this with rfl | rfl | rfl <;> exact (gx_lo (Nat.le_of_ble_eq_true rfl)).trans rfl
theorem lt_L {σ : xS} {k : Nat} (c : isL σ k = true) : k < 9000 := by have q : 1000 ≤ k ∧ k < 2000 ∧ k - 1000 < σ.2.2.2 1 := of_decide_eq_true c; omega
theorem lt_S {σ : xS} {k : Nat} (c : isS σ k = true) : k < 9000 := by have q : 2000 ≤ k ∧ k < 3000 ∧ k - 2000 < σ.2.2.2 0 := of_decide_eq_true c; omega
theorem lt_O {σ : xS} {k : Nat} (c : isO σ k = true) : k < 9000 := by have q : 3000 ≤ k ∧ k < 3200 ∧ k - 3000 < σ.2.2.2 2 := of_decide_eq_true c; omega
theorem lt_T {σ : xS} {k : Nat} (c : isT σ k = true) : k < 9000 := by have q : 3200 ≤ k ∧ k < 3400 ∧ k - 3200 < σ.2.2.2 6 := of_decide_eq_true c; omega
theorem lt_P {σ : xS} {k : Nat} (c : isP σ k = true) : k < 9000 := by have q : 23 ≤ k ∧ k ≤ 25 := of_decide_eq_true c; omega

/-- the int columns below 500 are the same -/
theorem x_low {σ τ : xS} (h : ∀ j, j < 500 → τ.1 j = σ.1 j) (h2 : τ.2.1 = σ.2.1) (h3 : τ.2.2.1 = σ.2.2.1) : xL τ = xL σ ∧ (∀ i, lotF τ i = lotF σ i) ∧ (∀ i, sortF τ i = sortF σ i) ∧ (∀ i, ordF τ i = ordF σ i) := by
  refine ⟨?_, fun i => ?_, fun i => ?_, fun i => ?_⟩
  · simp only [xL, nsF, tpF, crF, potF, h2, h3, h 1 (by decide), h 3 (by decide), h 5 (by decide), h 8 (by decide), h 10 (by decide), h 11 (by decide), h 12 (by decide), h 13 (by decide), h 14 (by decide), h 16 (by decide), h 20 (by decide), h 21 (by decide), h 22 (by decide), h 23 (by decide), h 24 (by decide), h 40 (by decide), h 41 (by decide), h 42 (by decide), h 43 (by decide), h 44 (by decide), h 45 (by decide), h 46 (by decide), h 100 (by decide), h 101 (by decide), h 102 (by decide), h 103 (by decide), h 104 (by decide), h 105 (by decide), h 106 (by decide), h 107 (by decide), h 108 (by decide), h 109 (by decide), h 110 (by decide), h 111 (by decide), h 120 (by decide), h 121 (by decide), h 122 (by decide), h 123 (by decide), h 140 (by decide), h 141 (by decide), h 142 (by decide), h 143 (by decide), h 144 (by decide), h 145 (by decide), h 146 (by decide), h 147 (by decide), h 148 (by decide)]
  · simp only [lotF, h2, h3, h 1 (by decide), h 3 (by decide), h 5 (by decide), h 8 (by decide), h 10 (by decide), h 11 (by decide), h 12 (by decide), h 13 (by decide), h 14 (by decide), h 16 (by decide), h 20 (by decide), h 21 (by decide), h 22 (by decide), h 23 (by decide), h 24 (by decide), h 40 (by decide), h 41 (by decide), h 42 (by decide), h 43 (by decide), h 44 (by decide), h 45 (by decide), h 46 (by decide), h 100 (by decide), h 101 (by decide), h 102 (by decide), h 103 (by decide), h 104 (by decide), h 105 (by decide), h 106 (by decide), h 107 (by decide), h 108 (by decide), h 109 (by decide), h 110 (by decide), h 111 (by decide), h 120 (by decide), h 121 (by decide), h 122 (by decide), h 123 (by decide), h 140 (by decide), h 141 (by decide), h 142 (by decide), h 143 (by decide), h 144 (by decide), h 145 (by decide), h 146 (by decide), h 147 (by decide), h 148 (by decide)]
  · simp only [sortF, h2, h3, h 1 (by decide), h 3 (by decide), h 5 (by decide), h 8 (by decide), h 10 (by decide), h 11 (by decide), h 12 (by decide), h 13 (by decide), h 14 (by decide), h 16 (by decide), h 20 (by decide), h 21 (by decide), h 22 (by decide), h 23 (by decide), h 24 (by decide), h 40 (by decide), h 41 (by decide), h 42 (by decide), h 43 (by decide), h 44 (by decide), h 45 (by decide), h 46 (by decide), h 100 (by decide), h 101 (by decide), h 102 (by decide), h 103 (by decide), h 104 (by decide), h 105 (by decide), h 106 (by decide), h 107 (by decide), h 108 (by decide), h 109 (by decide), h 110 (by decide), h 111 (by decide), h 120 (by decide), h 121 (by decide), h 122 (by decide), h 123 (by decide), h 140 (by decide), h 141 (by decide), h 142 (by decide), h 143 (by decide), h 144 (by decide), h 145 (by decide), h 146 (by decide), h 147 (by decide), h 148 (by decide)]
  · simp only [ordF, h2, h3]
theorem gxs_told {g : hH} {σ : xS} {k : Nat} (c : isT σ k = true) (f : Nat → Int32) : hup (gx g σ) k (.inl (.int, 6, .inl f)) = gx g (xi σ (1000 + (k - 3200)) f) := by
  have q : 3200 ≤ k ∧ k < 3400 ∧ k - 3200 < σ.2.2.2 6 := of_decide_eq_true c
  obtain ⟨a1, a2, a3, a4⟩ := x_low (σ := σ) (τ := xi σ (1000 + (k - 3200)) f) (fun j hj => xi_ne (by omega)) rfl rfl
  refine h_up_eq ?_ (fun i hi => gx_eq (fun _ => by rw [a1]) (fun _ => rfl) (fun _ _ => a2 _) (fun _ _ => a3 _) (fun _ _ => a4 _) (fun z1 z2 => xi_ne (by omega)) (fun z1 z2 => xi_ne (by omega)) (fun z1 z2 => xi_ne (by omega)))
  rw [gx_told (show isT (xi σ (1000 + (k - 3200)) f) k = true from c), xi_self]
theorem lots_0 {g : hH} {σ : xS} {k : Nat} (c : isL σ k = true) (x : Int32) : hup (gx g σ) k (.inr (1, (lotF σ (k - 1000)).set 0 (.int x))) = gx g (xi σ 100 (va_up (σ.1 100) (k - 1000) x)) := by
  refine h_up_eq ?_ (fun i hi => gx_eq (fun _ => rfl) (fun _ => rfl) (fun z1 z2 => ?_) (fun _ _ => rfl) (fun _ _ => rfl) (fun z1 z2 => xi_ne (by omega)) (fun z1 z2 => xi_ne (by omega)) (fun z1 z2 => xi_ne (by omega)))
  · rw [gx_lot (show isL (xi σ 100 (va_up (σ.1 100) (k - 1000) x)) k = true from c)]
    simp [lotF, xi, va_up, va_rf]
  · have q := of_decide_eq_true c
    have z : i - 1000 ≠ k - 1000 := by omega
    simp [lotF, xi, va_up, z]
theorem lots_1 {g : hH} {σ : xS} {k : Nat} (c : isL σ k = true) (x : Nat) : hup (gx g σ) k (.inr (1, (lotF σ (k - 1000)).set 1 (.ref x))) = gx g (xr σ 101 (va_up (σ.2.2.1 101) (k - 1000) (some x))) := by
  refine h_up_eq ?_ (fun i hi => gx_eq (fun _ => rfl) (fun _ => rfl) (fun z1 z2 => ?_) (fun _ _ => rfl) (fun _ _ => rfl) (fun _ _ => rfl) (fun _ _ => rfl) (fun _ _ => rfl))
  · rw [gx_lot (show isL (xr σ 101 (va_up (σ.2.2.1 101) (k - 1000) (some x))) k = true from c)]
    simp [lotF, xr, va_up, va_rf]
  · have q := of_decide_eq_true c
    have z : i - 1000 ≠ k - 1000 := by omega
    simp [lotF, xr, va_up, z]
theorem lots_2 {g : hH} {σ : xS} {k : Nat} (c : isL σ k = true) (x : Int32) : hup (gx g σ) k (.inr (1, (lotF σ (k - 1000)).set 2 (.int x))) = gx g (xi σ 102 (va_up (σ.1 102) (k - 1000) x)) := by
  refine h_up_eq ?_ (fun i hi => gx_eq (fun _ => rfl) (fun _ => rfl) (fun z1 z2 => ?_) (fun _ _ => rfl) (fun _ _ => rfl) (fun z1 z2 => xi_ne (by omega)) (fun z1 z2 => xi_ne (by omega)) (fun z1 z2 => xi_ne (by omega)))
  · rw [gx_lot (show isL (xi σ 102 (va_up (σ.1 102) (k - 1000) x)) k = true from c)]
    simp [lotF, xi, va_up, va_rf]
  · have q := of_decide_eq_true c
    have z : i - 1000 ≠ k - 1000 := by omega
    simp [lotF, xi, va_up, z]
theorem lots_3 {g : hH} {σ : xS} {k : Nat} (c : isL σ k = true) (x : Int32) : hup (gx g σ) k (.inr (1, (lotF σ (k - 1000)).set 3 (.int x))) = gx g (xi σ 103 (va_up (σ.1 103) (k - 1000) x)) := by
  refine h_up_eq ?_ (fun i hi => gx_eq (fun _ => rfl) (fun _ => rfl) (fun z1 z2 => ?_) (fun _ _ => rfl) (fun _ _ => rfl) (fun z1 z2 => xi_ne (by omega)) (fun z1 z2 => xi_ne (by omega)) (fun z1 z2 => xi_ne (by omega)))
  · rw [gx_lot (show isL (xi σ 103 (va_up (σ.1 103) (k - 1000) x)) k = true from c)]
    simp [lotF, xi, va_up, va_rf]
  · have q := of_decide_eq_true c
    have z : i - 1000 ≠ k - 1000 := by omega
    simp [lotF, xi, va_up, z]
theorem lots_4 {g : hH} {σ : xS} {k : Nat} (c : isL σ k = true) (x : Int32) : hup (gx g σ) k (.inr (1, (lotF σ (k - 1000)).set 4 (.int x))) = gx g (xi σ 104 (va_up (σ.1 104) (k - 1000) x)) := by
  refine h_up_eq ?_ (fun i hi => gx_eq (fun _ => rfl) (fun _ => rfl) (fun z1 z2 => ?_) (fun _ _ => rfl) (fun _ _ => rfl) (fun z1 z2 => xi_ne (by omega)) (fun z1 z2 => xi_ne (by omega)) (fun z1 z2 => xi_ne (by omega)))
  · rw [gx_lot (show isL (xi σ 104 (va_up (σ.1 104) (k - 1000) x)) k = true from c)]
    simp [lotF, xi, va_up, va_rf]
  · have q := of_decide_eq_true c
    have z : i - 1000 ≠ k - 1000 := by omega
    simp [lotF, xi, va_up, z]
theorem lots_5 {g : hH} {σ : xS} {k : Nat} (c : isL σ k = true) (x : Int32) : hup (gx g σ) k (.inr (1, (lotF σ (k - 1000)).set 5 (.int x))) = gx g (xi σ 105 (va_up (σ.1 105) (k - 1000) x)) := by
  refine h_up_eq ?_ (fun i hi => gx_eq (fun _ => rfl) (fun _ => rfl) (fun z1 z2 => ?_) (fun _ _ => rfl) (fun _ _ => rfl) (fun z1 z2 => xi_ne (by omega)) (fun z1 z2 => xi_ne (by omega)) (fun z1 z2 => xi_ne (by omega)))
  · rw [gx_lot (show isL (xi σ 105 (va_up (σ.1 105) (k - 1000) x)) k = true from c)]
    simp [lotF, xi, va_up, va_rf]
  · have q := of_decide_eq_true c
    have z : i - 1000 ≠ k - 1000 := by omega
    simp [lotF, xi, va_up, z]
theorem lots_6 {g : hH} {σ : xS} {k : Nat} (c : isL σ k = true) (x : Int32) : hup (gx g σ) k (.inr (1, (lotF σ (k - 1000)).set 6 (.int x))) = gx g (xi σ 106 (va_up (σ.1 106) (k - 1000) x)) := by
  refine h_up_eq ?_ (fun i hi => gx_eq (fun _ => rfl) (fun _ => rfl) (fun z1 z2 => ?_) (fun _ _ => rfl) (fun _ _ => rfl) (fun z1 z2 => xi_ne (by omega)) (fun z1 z2 => xi_ne (by omega)) (fun z1 z2 => xi_ne (by omega)))
  · rw [gx_lot (show isL (xi σ 106 (va_up (σ.1 106) (k - 1000) x)) k = true from c)]
    simp [lotF, xi, va_up, va_rf]
  · have q := of_decide_eq_true c
    have z : i - 1000 ≠ k - 1000 := by omega
    simp [lotF, xi, va_up, z]
theorem lots_7 {g : hH} {σ : xS} {k : Nat} (c : isL σ k = true) (x : Int32) : hup (gx g σ) k (.inr (1, (lotF σ (k - 1000)).set 7 (.int x))) = gx g (xi σ 107 (va_up (σ.1 107) (k - 1000) x)) := by
  refine h_up_eq ?_ (fun i hi => gx_eq (fun _ => rfl) (fun _ => rfl) (fun z1 z2 => ?_) (fun _ _ => rfl) (fun _ _ => rfl) (fun z1 z2 => xi_ne (by omega)) (fun z1 z2 => xi_ne (by omega)) (fun z1 z2 => xi_ne (by omega)))
  · rw [gx_lot (show isL (xi σ 107 (va_up (σ.1 107) (k - 1000) x)) k = true from c)]
    simp [lotF, xi, va_up, va_rf]
  · have q := of_decide_eq_true c
    have z : i - 1000 ≠ k - 1000 := by omega
    simp [lotF, xi, va_up, z]
theorem lots_8 {g : hH} {σ : xS} {k : Nat} (c : isL σ k = true) (x : Int32) : hup (gx g σ) k (.inr (1, (lotF σ (k - 1000)).set 8 (.int x))) = gx g (xi σ 108 (va_up (σ.1 108) (k - 1000) x)) := by
  refine h_up_eq ?_ (fun i hi => gx_eq (fun _ => rfl) (fun _ => rfl) (fun z1 z2 => ?_) (fun _ _ => rfl) (fun _ _ => rfl) (fun z1 z2 => xi_ne (by omega)) (fun z1 z2 => xi_ne (by omega)) (fun z1 z2 => xi_ne (by omega)))
  · rw [gx_lot (show isL (xi σ 108 (va_up (σ.1 108) (k - 1000) x)) k = true from c)]
    simp [lotF, xi, va_up, va_rf]
  · have q := of_decide_eq_true c
    have z : i - 1000 ≠ k - 1000 := by omega
    simp [lotF, xi, va_up, z]
theorem lots_9 {g : hH} {σ : xS} {k : Nat} (c : isL σ k = true) (x : Int32) : hup (gx g σ) k (.inr (1, (lotF σ (k - 1000)).set 9 (.int x))) = gx g (xi σ 109 (va_up (σ.1 109) (k - 1000) x)) := by
  refine h_up_eq ?_ (fun i hi => gx_eq (fun _ => rfl) (fun _ => rfl) (fun z1 z2 => ?_) (fun _ _ => rfl) (fun _ _ => rfl) (fun z1 z2 => xi_ne (by omega)) (fun z1 z2 => xi_ne (by omega)) (fun z1 z2 => xi_ne (by omega)))
  · rw [gx_lot (show isL (xi σ 109 (va_up (σ.1 109) (k - 1000) x)) k = true from c)]
    simp [lotF, xi, va_up, va_rf]
  · have q := of_decide_eq_true c
    have z : i - 1000 ≠ k - 1000 := by omega
    simp [lotF, xi, va_up, z]
theorem lots_10 {g : hH} {σ : xS} {k : Nat} (c : isL σ k = true) (x : Int32) : hup (gx g σ) k (.inr (1, (lotF σ (k - 1000)).set 10 (.int x))) = gx g (xi σ 110 (va_up (σ.1 110) (k - 1000) x)) := by
  refine h_up_eq ?_ (fun i hi => gx_eq (fun _ => rfl) (fun _ => rfl) (fun z1 z2 => ?_) (fun _ _ => rfl) (fun _ _ => rfl) (fun z1 z2 => xi_ne (by omega)) (fun z1 z2 => xi_ne (by omega)) (fun z1 z2 => xi_ne (by omega)))
  · rw [gx_lot (show isL (xi σ 110 (va_up (σ.1 110) (k - 1000) x)) k = true from c)]
    simp [lotF, xi, va_up, va_rf]
  · have q := of_decide_eq_true c
    have z : i - 1000 ≠ k - 1000 := by omega
    simp [lotF, xi, va_up, z]
theorem lots_11 {g : hH} {σ : xS} {k : Nat} (c : isL σ k = true) (x : Int32) : hup (gx g σ) k (.inr (1, (lotF σ (k - 1000)).set 11 (.int x))) = gx g (xi σ 111 (va_up (σ.1 111) (k - 1000) x)) := by
  refine h_up_eq ?_ (fun i hi => gx_eq (fun _ => rfl) (fun _ => rfl) (fun z1 z2 => ?_) (fun _ _ => rfl) (fun _ _ => rfl) (fun z1 z2 => xi_ne (by omega)) (fun z1 z2 => xi_ne (by omega)) (fun z1 z2 => xi_ne (by omega)))
  · rw [gx_lot (show isL (xi σ 111 (va_up (σ.1 111) (k - 1000) x)) k = true from c)]
    simp [lotF, xi, va_up, va_rf]
  · have q := of_decide_eq_true c
    have z : i - 1000 ≠ k - 1000 := by omega
    simp [lotF, xi, va_up, z]
theorem sorts_0 {g : hH} {σ : xS} {k : Nat} (c : isS σ k = true) (x : Int32) : hup (gx g σ) k (.inr (4, (sortF σ (k - 2000)).set 0 (.int x))) = gx g (xi σ 120 (va_up (σ.1 120) (k - 2000) x)) := by
  refine h_up_eq ?_ (fun i hi => gx_eq (fun _ => rfl) (fun _ => rfl) (fun _ _ => rfl) (fun z1 z2 => ?_) (fun _ _ => rfl) (fun z1 z2 => xi_ne (by omega)) (fun z1 z2 => xi_ne (by omega)) (fun z1 z2 => xi_ne (by omega)))
  · rw [gx_sort (show isS (xi σ 120 (va_up (σ.1 120) (k - 2000) x)) k = true from c)]
    simp [sortF, xi, va_up, va_rf]
  · have q := of_decide_eq_true c
    have z : i - 2000 ≠ k - 2000 := by omega
    simp [sortF, xi, va_up, z]
theorem sorts_1 {g : hH} {σ : xS} {k : Nat} (c : isS σ k = true) (x : Int32) : hup (gx g σ) k (.inr (4, (sortF σ (k - 2000)).set 1 (.int x))) = gx g (xi σ 121 (va_up (σ.1 121) (k - 2000) x)) := by
  refine h_up_eq ?_ (fun i hi => gx_eq (fun _ => rfl) (fun _ => rfl) (fun _ _ => rfl) (fun z1 z2 => ?_) (fun _ _ => rfl) (fun z1 z2 => xi_ne (by omega)) (fun z1 z2 => xi_ne (by omega)) (fun z1 z2 => xi_ne (by omega)))
  · rw [gx_sort (show isS (xi σ 121 (va_up (σ.1 121) (k - 2000) x)) k = true from c)]
    simp [sortF, xi, va_up, va_rf]
  · have q := of_decide_eq_true c
    have z : i - 2000 ≠ k - 2000 := by omega
    simp [sortF, xi, va_up, z]
theorem sorts_2 {g : hH} {σ : xS} {k : Nat} (c : isS σ k = true) (x : Int32) : hup (gx g σ) k (.inr (4, (sortF σ (k - 2000)).set 2 (.int x))) = gx g (xi σ 122 (va_up (σ.1 122) (k - 2000) x)) := by
  refine h_up_eq ?_ (fun i hi => gx_eq (fun _ => rfl) (fun _ => rfl) (fun _ _ => rfl) (fun z1 z2 => ?_) (fun _ _ => rfl) (fun z1 z2 => xi_ne (by omega)) (fun z1 z2 => xi_ne (by omega)) (fun z1 z2 => xi_ne (by omega)))
  · rw [gx_sort (show isS (xi σ 122 (va_up (σ.1 122) (k - 2000) x)) k = true from c)]
    simp [sortF, xi, va_up, va_rf]
  · have q := of_decide_eq_true c
    have z : i - 2000 ≠ k - 2000 := by omega
    simp [sortF, xi, va_up, z]
theorem sorts_3 {g : hH} {σ : xS} {k : Nat} (c : isS σ k = true) (x : Int32) : hup (gx g σ) k (.inr (4, (sortF σ (k - 2000)).set 3 (.int x))) = gx g (xi σ 123 (va_up (σ.1 123) (k - 2000) x)) := by
  refine h_up_eq ?_ (fun i hi => gx_eq (fun _ => rfl) (fun _ => rfl) (fun _ _ => rfl) (fun z1 z2 => ?_) (fun _ _ => rfl) (fun z1 z2 => xi_ne (by omega)) (fun z1 z2 => xi_ne (by omega)) (fun z1 z2 => xi_ne (by omega)))
  · rw [gx_sort (show isS (xi σ 123 (va_up (σ.1 123) (k - 2000) x)) k = true from c)]
    simp [sortF, xi, va_up, va_rf]
  · have q := of_decide_eq_true c
    have z : i - 2000 ≠ k - 2000 := by omega
    simp [sortF, xi, va_up, z]
theorem ords_0 {g : hH} {σ : xS} {k : Nat} (c : isO σ k = true) (x : Nat) : hup (gx g σ) k (.inr (2, (ordF σ (k - 3000)).set 0 (.ref x))) = gx g (xr σ 130 (va_up (σ.2.2.1 130) (k - 3000) (some x))) := by
  refine h_up_eq ?_ (fun i hi => gx_eq (fun _ => rfl) (fun _ => rfl) (fun _ _ => rfl) (fun _ _ => rfl) (fun z1 z2 => ?_) (fun _ _ => rfl) (fun _ _ => rfl) (fun _ _ => rfl))
  · rw [gx_ord (show isO (xr σ 130 (va_up (σ.2.2.1 130) (k - 3000) (some x))) k = true from c)]
    simp [ordF, xr, va_up, va_rf]
  · have q := of_decide_eq_true c
    have z : i - 3000 ≠ k - 3000 := by omega
    simp [ordF, xr, va_up, z]
theorem ords_1 {g : hH} {σ : xS} {k : Nat} (c : isO σ k = true) (x : Nat) : hup (gx g σ) k (.inr (2, (ordF σ (k - 3000)).set 1 (.ref x))) = gx g (xr σ 131 (va_up (σ.2.2.1 131) (k - 3000) (some x))) := by
  refine h_up_eq ?_ (fun i hi => gx_eq (fun _ => rfl) (fun _ => rfl) (fun _ _ => rfl) (fun _ _ => rfl) (fun z1 z2 => ?_) (fun _ _ => rfl) (fun _ _ => rfl) (fun _ _ => rfl))
  · rw [gx_ord (show isO (xr σ 131 (va_up (σ.2.2.1 131) (k - 3000) (some x))) k = true from c)]
    simp [ordF, xr, va_up, va_rf]
  · have q := of_decide_eq_true c
    have z : i - 3000 ≠ k - 3000 := by omega
    simp [ordF, xr, va_up, z]
theorem ords_2 {g : hH} {σ : xS} {k : Nat} (c : isO σ k = true) (x : Nat) : hup (gx g σ) k (.inr (2, (ordF σ (k - 3000)).set 2 (.ref x))) = gx g (xr σ 132 (va_up (σ.2.2.1 132) (k - 3000) (some x))) := by
  refine h_up_eq ?_ (fun i hi => gx_eq (fun _ => rfl) (fun _ => rfl) (fun _ _ => rfl) (fun _ _ => rfl) (fun z1 z2 => ?_) (fun _ _ => rfl) (fun _ _ => rfl) (fun _ _ => rfl))
  · rw [gx_ord (show isO (xr σ 132 (va_up (σ.2.2.1 132) (k - 3000) (some x))) k = true from c)]
    simp [ordF, xr, va_up, va_rf]
  · have q := of_decide_eq_true c
    have z : i - 3000 ≠ k - 3000 := by omega
    simp [ordF, xr, va_up, z]
theorem pots_0 {g : hH} {σ : xS} {k : Nat} (c : isP σ k = true) (x : Int64) : hup (gx g σ) k (.inr (3, (potF σ (k - 23)).set 0 (.long x))) = gx g (xl σ 140 (va_up (σ.2.1 140) (k - 23) x)) := by
  have q : 23 ≤ k ∧ k ≤ 25 := of_decide_eq_true c
  have : k = 23 ∨ k = 24 ∨ k = 25 := by omega
  rcases this with rfl | rfl | rfl
  · exact gx_up g σ _ 23 _ (by decide) rfl (fun _ => rfl) (fun _ => rfl) (fun _ => rfl) (fun _ => rfl) (fun i hi => rfl)
  · exact gx_up g σ _ 24 _ (by decide) rfl (fun _ => rfl) (fun _ => rfl) (fun _ => rfl) (fun _ => rfl) (fun i hi => rfl)
  · exact gx_up g σ _ 25 _ (by decide) rfl (fun _ => rfl) (fun _ => rfl) (fun _ => rfl) (fun _ => rfl) (fun i hi => rfl)
theorem pots_1 {g : hH} {σ : xS} {k : Nat} (c : isP σ k = true) (x : Int64) : hup (gx g σ) k (.inr (3, (potF σ (k - 23)).set 1 (.long x))) = gx g (xl σ 141 (va_up (σ.2.1 141) (k - 23) x)) := by
  have q : 23 ≤ k ∧ k ≤ 25 := of_decide_eq_true c
  have : k = 23 ∨ k = 24 ∨ k = 25 := by omega
  rcases this with rfl | rfl | rfl
  · exact gx_up g σ _ 23 _ (by decide) rfl (fun _ => rfl) (fun _ => rfl) (fun _ => rfl) (fun _ => rfl) (fun i hi => rfl)
  · exact gx_up g σ _ 24 _ (by decide) rfl (fun _ => rfl) (fun _ => rfl) (fun _ => rfl) (fun _ => rfl) (fun i hi => rfl)
  · exact gx_up g σ _ 25 _ (by decide) rfl (fun _ => rfl) (fun _ => rfl) (fun _ => rfl) (fun _ => rfl) (fun i hi => rfl)
theorem pots_2 {g : hH} {σ : xS} {k : Nat} (c : isP σ k = true) (x : Int32) : hup (gx g σ) k (.inr (3, (potF σ (k - 23)).set 2 (.int x))) = gx g (xi σ 142 (va_up (σ.1 142) (k - 23) x)) := by
  have q : 23 ≤ k ∧ k ≤ 25 := of_decide_eq_true c
  have : k = 23 ∨ k = 24 ∨ k = 25 := by omega
  rcases this with rfl | rfl | rfl
  · exact gx_up g σ _ 23 _ (by decide) rfl (fun _ => rfl) (fun _ => rfl) (fun _ => rfl) (fun _ => rfl) (fun i hi => xi_ne (by omega))
  · exact gx_up g σ _ 24 _ (by decide) rfl (fun _ => rfl) (fun _ => rfl) (fun _ => rfl) (fun _ => rfl) (fun i hi => xi_ne (by omega))
  · exact gx_up g σ _ 25 _ (by decide) rfl (fun _ => rfl) (fun _ => rfl) (fun _ => rfl) (fun _ => rfl) (fun i hi => xi_ne (by omega))
theorem pots_3 {g : hH} {σ : xS} {k : Nat} (c : isP σ k = true) (x : Int64) : hup (gx g σ) k (.inr (3, (potF σ (k - 23)).set 3 (.long x))) = gx g (xl σ 143 (va_up (σ.2.1 143) (k - 23) x)) := by
  have q : 23 ≤ k ∧ k ≤ 25 := of_decide_eq_true c
  have : k = 23 ∨ k = 24 ∨ k = 25 := by omega
  rcases this with rfl | rfl | rfl
  · exact gx_up g σ _ 23 _ (by decide) rfl (fun _ => rfl) (fun _ => rfl) (fun _ => rfl) (fun _ => rfl) (fun i hi => rfl)
  · exact gx_up g σ _ 24 _ (by decide) rfl (fun _ => rfl) (fun _ => rfl) (fun _ => rfl) (fun _ => rfl) (fun i hi => rfl)
  · exact gx_up g σ _ 25 _ (by decide) rfl (fun _ => rfl) (fun _ => rfl) (fun _ => rfl) (fun _ => rfl) (fun i hi => rfl)
theorem pots_4 {g : hH} {σ : xS} {k : Nat} (c : isP σ k = true) (x : Int64) : hup (gx g σ) k (.inr (3, (potF σ (k - 23)).set 4 (.long x))) = gx g (xl σ 144 (va_up (σ.2.1 144) (k - 23) x)) := by
  have q : 23 ≤ k ∧ k ≤ 25 := of_decide_eq_true c
  have : k = 23 ∨ k = 24 ∨ k = 25 := by omega
  rcases this with rfl | rfl | rfl
  · exact gx_up g σ _ 23 _ (by decide) rfl (fun _ => rfl) (fun _ => rfl) (fun _ => rfl) (fun _ => rfl) (fun i hi => rfl)
  · exact gx_up g σ _ 24 _ (by decide) rfl (fun _ => rfl) (fun _ => rfl) (fun _ => rfl) (fun _ => rfl) (fun i hi => rfl)
  · exact gx_up g σ _ 25 _ (by decide) rfl (fun _ => rfl) (fun _ => rfl) (fun _ => rfl) (fun _ => rfl) (fun i hi => rfl)
theorem pots_5 {g : hH} {σ : xS} {k : Nat} (c : isP σ k = true) (x : Int64) : hup (gx g σ) k (.inr (3, (potF σ (k - 23)).set 5 (.long x))) = gx g (xl σ 145 (va_up (σ.2.1 145) (k - 23) x)) := by
  have q : 23 ≤ k ∧ k ≤ 25 := of_decide_eq_true c
  have : k = 23 ∨ k = 24 ∨ k = 25 := by omega
  rcases this with rfl | rfl | rfl
  · exact gx_up g σ _ 23 _ (by decide) rfl (fun _ => rfl) (fun _ => rfl) (fun _ => rfl) (fun _ => rfl) (fun i hi => rfl)
  · exact gx_up g σ _ 24 _ (by decide) rfl (fun _ => rfl) (fun _ => rfl) (fun _ => rfl) (fun _ => rfl) (fun i hi => rfl)
  · exact gx_up g σ _ 25 _ (by decide) rfl (fun _ => rfl) (fun _ => rfl) (fun _ => rfl) (fun _ => rfl) (fun i hi => rfl)
theorem pots_6 {g : hH} {σ : xS} {k : Nat} (c : isP σ k = true) (x : Int32) : hup (gx g σ) k (.inr (3, (potF σ (k - 23)).set 6 (.int x))) = gx g (xi σ 146 (va_up (σ.1 146) (k - 23) x)) := by
  have q : 23 ≤ k ∧ k ≤ 25 := of_decide_eq_true c
  have : k = 23 ∨ k = 24 ∨ k = 25 := by omega
  rcases this with rfl | rfl | rfl
  · exact gx_up g σ _ 23 _ (by decide) rfl (fun _ => rfl) (fun _ => rfl) (fun _ => rfl) (fun _ => rfl) (fun i hi => xi_ne (by omega))
  · exact gx_up g σ _ 24 _ (by decide) rfl (fun _ => rfl) (fun _ => rfl) (fun _ => rfl) (fun _ => rfl) (fun i hi => xi_ne (by omega))
  · exact gx_up g σ _ 25 _ (by decide) rfl (fun _ => rfl) (fun _ => rfl) (fun _ => rfl) (fun _ => rfl) (fun i hi => xi_ne (by omega))
theorem pots_7 {g : hH} {σ : xS} {k : Nat} (c : isP σ k = true) (x : Int32) : hup (gx g σ) k (.inr (3, (potF σ (k - 23)).set 7 (.int x))) = gx g (xi σ 147 (va_up (σ.1 147) (k - 23) x)) := by
  have q : 23 ≤ k ∧ k ≤ 25 := of_decide_eq_true c
  have : k = 23 ∨ k = 24 ∨ k = 25 := by omega
  rcases this with rfl | rfl | rfl
  · exact gx_up g σ _ 23 _ (by decide) rfl (fun _ => rfl) (fun _ => rfl) (fun _ => rfl) (fun _ => rfl) (fun i hi => xi_ne (by omega))
  · exact gx_up g σ _ 24 _ (by decide) rfl (fun _ => rfl) (fun _ => rfl) (fun _ => rfl) (fun _ => rfl) (fun i hi => xi_ne (by omega))
  · exact gx_up g σ _ 25 _ (by decide) rfl (fun _ => rfl) (fun _ => rfl) (fun _ => rfl) (fun _ => rfl) (fun i hi => xi_ne (by omega))
theorem pots_8 {g : hH} {σ : xS} {k : Nat} (c : isP σ k = true) (x : Int32) : hup (gx g σ) k (.inr (3, (potF σ (k - 23)).set 8 (.int x))) = gx g (xi σ 148 (va_up (σ.1 148) (k - 23) x)) := by
  have q : 23 ≤ k ∧ k ≤ 25 := of_decide_eq_true c
  have : k = 23 ∨ k = 24 ∨ k = 25 := by omega
  rcases this with rfl | rfl | rfl
  · exact gx_up g σ _ 23 _ (by decide) rfl (fun _ => rfl) (fun _ => rfl) (fun _ => rfl) (fun _ => rfl) (fun i hi => xi_ne (by omega))
  · exact gx_up g σ _ 24 _ (by decide) rfl (fun _ => rfl) (fun _ => rfl) (fun _ => rfl) (fun _ => rfl) (fun i hi => xi_ne (by omega))
  · exact gx_up g σ _ 25 _ (by decide) rfl (fun _ => rfl) (fun _ => rfl) (fun _ => rfl) (fun _ => rfl) (fun i hi => xi_ne (by omega))
/-- new cells -/
def newlot (σ : xS) : xS := (fun c j => if (100 ≤ c ∧ c < 112) ∧ j = σ.2.2.2 1 then 0 else σ.1 c j, σ.2.1, fun c j => if c = 101 ∧ j = σ.2.2.2 1 then none else σ.2.2.1 c j, va_up σ.2.2.2 1 (σ.2.2.2 1 + 1))
def newsort (σ : xS) : xS := (fun c j => if (120 ≤ c ∧ c < 124) ∧ j = σ.2.2.2 0 then 0 else σ.1 c j, σ.2.1, σ.2.2.1, va_up σ.2.2.2 0 (σ.2.2.2 0 + 1))
def neword (σ : xS) : xS := (σ.1, σ.2.1, fun c j => if (130 ≤ c ∧ c < 133) ∧ j = σ.2.2.2 2 then none else σ.2.2.1 c j, va_up σ.2.2.2 2 (σ.2.2.2 2 + 1))
def newtold (σ : xS) : xS := (va_up σ.1 (1000 + σ.2.2.2 6) (fun _ => 0), σ.2.1, σ.2.2.1, va_up σ.2.2.2 6 (σ.2.2.2 6 + 1))
theorem newlot_hi (σ : xS) (c : Nat) (h : 200 ≤ c) : (newlot σ).1 c = σ.1 c := by
  funext j
  show (if (100 ≤ c ∧ c < 112) ∧ j = σ.2.2.2 1 then 0 else σ.1 c j) = σ.1 c j
  rw [if_neg (by omega)]
theorem newsort_hi (σ : xS) (c : Nat) (h : 200 ≤ c) : (newsort σ).1 c = σ.1 c := by
  funext j
  show (if (120 ≤ c ∧ c < 124) ∧ j = σ.2.2.2 0 then 0 else σ.1 c j) = σ.1 c j
  rw [if_neg (by omega)]
theorem gx_newlot {g : hH} {σ : xS} (c : σ.2.2.2 1 < 1000) : gx g σ (1000 + σ.2.2.2 1) = none ∧ hup (gx g σ) (1000 + σ.2.2.2 1) (.inr (1, dfX1)) = gx g (newlot σ) := by
  refine ⟨by rw [gx_1 (by omega) (by omega), if_neg (by omega)], h_up_eq ?_ (fun i hi => gx_eq2 (fun _ => rfl) (fun z1 z2 => ?_) (fun _ _ => rfl) (fun _ _ => rfl) (fun z1 z2 => by have e : (newlot σ).1 (1000 + (i - 3200)) = σ.1 (1000 + (i - 3200)) := newlot_hi σ _ (by omega); have ec : (newlot σ).2.2.2 6 = σ.2.2.2 6 := (by simp [newlot, va_up]); rw [e, ec]) (fun z1 z2 => by have e : (newlot σ).1 (2000 + (i - 3400)) = σ.1 (2000 + (i - 3400)) := newlot_hi σ _ (by omega); have ec : (newlot σ).2.2.2 7 = σ.2.2.2 7 := (by simp [newlot, va_up]); rw [e, ec]) (fun z1 z2 => by have e : (newlot σ).1 (3000 + (i - 3600)) = σ.1 (3000 + (i - 3600)) := newlot_hi σ _ (by omega); have ec : (newlot σ).2.2.2 8 = σ.2.2.2 8 := (by simp [newlot, va_up]); rw [e, ec]))⟩
  · rw [gx_1 (by omega) (by omega)]
    have e : (newlot σ).2.2.2 1 = σ.2.2.2 1 + 1 := by simp [newlot, va_up]
    rw [e, if_pos (by omega), Nat.add_sub_cancel_left]
    simp [lotF, newlot, va_rf]
  · have e : (newlot σ).2.2.2 1 = σ.2.2.2 1 + 1 := by simp [newlot, va_up]
    rw [e]
    by_cases z : i - 1000 < σ.2.2.2 1
    · rw [if_pos z, if_pos (by omega)]
      have z3 : i - 1000 ≠ σ.2.2.2 1 := by omega
      simp [lotF, newlot, z3]
    · rw [if_neg z, if_neg (by omega)]
theorem gx_newsort {g : hH} {σ : xS} (c : σ.2.2.2 0 < 1000) : gx g σ (2000 + σ.2.2.2 0) = none ∧ hup (gx g σ) (2000 + σ.2.2.2 0) (.inr (4, dfX4)) = gx g (newsort σ) := by
  refine ⟨by rw [gx_2 (by omega) (by omega), if_neg (by omega)], h_up_eq ?_ (fun i hi => gx_eq2 (fun _ => rfl) (fun _ _ => rfl) (fun z1 z2 => ?_) (fun _ _ => rfl) (fun z1 z2 => by have e : (newsort σ).1 (1000 + (i - 3200)) = σ.1 (1000 + (i - 3200)) := newsort_hi σ _ (by omega); have ec : (newsort σ).2.2.2 6 = σ.2.2.2 6 := (by simp [newsort, va_up]); rw [e, ec]) (fun z1 z2 => by have e : (newsort σ).1 (2000 + (i - 3400)) = σ.1 (2000 + (i - 3400)) := newsort_hi σ _ (by omega); have ec : (newsort σ).2.2.2 7 = σ.2.2.2 7 := (by simp [newsort, va_up]); rw [e, ec]) (fun z1 z2 => by have e : (newsort σ).1 (3000 + (i - 3600)) = σ.1 (3000 + (i - 3600)) := newsort_hi σ _ (by omega); have ec : (newsort σ).2.2.2 8 = σ.2.2.2 8 := (by simp [newsort, va_up]); rw [e, ec]))⟩
  · rw [gx_2 (by omega) (by omega)]
    have e : (newsort σ).2.2.2 0 = σ.2.2.2 0 + 1 := by simp [newsort, va_up]
    rw [e, if_pos (by omega), Nat.add_sub_cancel_left]
    simp [sortF, newsort, va_rf]
  · have e : (newsort σ).2.2.2 0 = σ.2.2.2 0 + 1 := by simp [newsort, va_up]
    rw [e]
    by_cases z : i - 2000 < σ.2.2.2 0
    · rw [if_pos z, if_pos (by omega)]
      have z3 : i - 2000 ≠ σ.2.2.2 0 := by omega
      simp [sortF, newsort, z3]
    · rw [if_neg z, if_neg (by omega)]
theorem gx_neword {g : hH} {σ : xS} (c : σ.2.2.2 2 < 200) : gx g σ (3000 + σ.2.2.2 2) = none ∧ hup (gx g σ) (3000 + σ.2.2.2 2) (.inr (2, dfX2)) = gx g (neword σ) := by
  refine ⟨by rw [gx_3 (by omega) (by omega), if_neg (by omega)], h_up_eq ?_ (fun i hi => gx_eq2 (fun _ => rfl) (fun _ _ => rfl) (fun _ _ => rfl) (fun z1 z2 => ?_) (fun _ _ => rfl) (fun _ _ => rfl) (fun _ _ => rfl))⟩
  · rw [gx_3 (by omega) (by omega)]
    have e : (neword σ).2.2.2 2 = σ.2.2.2 2 + 1 := by simp [neword, va_up]
    rw [e, if_pos (by omega), Nat.add_sub_cancel_left]
    simp [ordF, neword, va_rf]
  · have e : (neword σ).2.2.2 2 = σ.2.2.2 2 + 1 := by simp [neword, va_up]
    rw [e]
    by_cases z : i - 3000 < σ.2.2.2 2
    · rw [if_pos z, if_pos (by omega)]
      have z3 : i - 3000 ≠ σ.2.2.2 2 := by omega
      simp [ordF, neword, z3]
    · rw [if_neg z, if_neg (by omega)]
end XSTATE
end
section
/-! HELPERS of the class's side: references that may be null; Arrays.fill -/
section XAUX
def oq {β : Type} (o : Option Nat) (a : Option β) (b : Nat → Option β) : Option β := match o with
  | none => a
  | some k => b k
theorem o_q {β : Type} {o : Option Nat} {a : Option β} {b : Nat → Option β} {r : β} (hf : oq o a b = some r) : (o = none ∧ a = some r) ∨ ∃ k, o = some k ∧ b k = some r := by
  cases o with
  | none => exact Or.inl ⟨rfl, hf⟩
  | some k => exact Or.inr ⟨k, rfl, hf⟩
theorem va_rf_none : va_rf none = .null := rfl
theorem va_rf_some (k : Nat) : va_rf (some k) = .ref k := rfl
theorem rf_or (o : Option Nat) : va_rf o = .null ∨ ∃ a, va_rf o = .ref a := by
  cases o with
  | none => exact Or.inl rfl
  | some k => exact Or.inr ⟨k, rfl⟩
/-- Arrays.fill(int[], int) -/
def fillf (n : Nat) (v : Int32) (f : Nat → Int32) : Nat → Int32 := fun j => if j < n then v else f j
def rJ7_fill : Room := { frames := 0, cells := 0, slots := 0, locals := 0 }
theorem hup_hup (h : hH) (k : Nat) (a b : hE) : hup (hup h k a) k b = hup h k b := by
  funext j
  unfold hup
  by_cases q : j = k
  · rw [if_pos q, if_pos q]
  · rw [if_neg q, if_neg q, if_neg q]
theorem hup_same {h : hH} {k : Nat} {a : hE} (e : h k = some a) : hup h k a = h := by
  funext j
  unfold hup
  by_cases q : j = k
  · rw [if_pos q, q, e]
  · rw [if_neg q]
set_option maxHeartbeats 4000000 in
set_option maxRecDepth 100000 in
theorem s_fill_loop {key n : Nat} {v : Int32} {f : Nat → Int32} {h : hH} {Q : Option Value → hH → Prop} (hro : key < 9000) (hn : n < 10000) (q : Q none (hup h key (.inl (.int, n, .inl (fillf n v f))))) :
    ∀ (m i : Nat), i ≤ n → n ≤ i + m → J mJ7_fill_53178 rJ7_fill Q 0 0 (hup h key (.inl (.int, n, .inl (fillf i v f)))) 5 [(3, .int (Int32.ofNat n)), (2, .int (Int32.ofNat i)), (0, .ref key), (1, .int v)] [] := by
  intro m
  induction m with
  | zero =>
    intro i h1 h2
    have e : i = n := by omega
    subst e
    refine j_iload_n (pc' := 6) rfl rfl rfl ?_
    refine j_iload_n (pc' := 7) rfl rfl rfl ?_
    refine j_icmp_ge (tgt := 20) (pc' := 10) rfl rfl rfl (fun c => ?_) (fun c => absurd (Int32.le_refl _) c)
    exact j_vret rfl rfl (Nat.zero_le _) (Nat.zero_le _) q
  | succ m ih =>
    intro i h1 h2
    by_cases e : i = n
    · subst e
      refine j_iload_n (pc' := 6) rfl rfl rfl ?_
      refine j_iload_n (pc' := 7) rfl rfl rfl ?_
      refine j_icmp_ge (tgt := 20) (pc' := 10) rfl rfl rfl (fun c => ?_) (fun c => absurd (Int32.le_refl _) c)
      exact j_vret rfl rfl (Nat.zero_le _) (Nat.zero_le _) q
    · have hti : (Int32.ofNat i).toInt = (i : Int) := Int32.toInt_ofNat_of_lt (by omega)
      have htn : (Int32.ofNat n).toInt = (n : Int) := Int32.toInt_ofNat_of_lt (by omega)
      refine j_iload_n (pc' := 6) rfl rfl rfl ?_
      refine j_iload_n (pc' := 7) rfl rfl rfl ?_
      refine j_icmp_ge (tgt := 20) (pc' := 10) rfl rfl rfl (fun c => ?_) (fun c => ?_)
      · exact absurd (Int32.le_iff_toInt_le.mp c) (by omega)
      · refine j_aload_n (pc' := 11) rfl rfl rfl ?_
        refine j_iload_n (pc' := 12) rfl rfl rfl ?_
        refine j_iload_n (pc' := 13) rfl rfl rfl ?_
        have hcl : (Int32.ofNat i).toNatClampNeg = i := Int32.toNatClampNeg_ofNat_of_lt (by omega)
        have hin : vp_in (Int32.ofNat i) n := fun z => by
          rcases z with z | z
          · have := Int32.lt_iff_toInt_lt.mp z
            rw [hti] at this
            have h0 : (0 : Int32).toInt = 0 := by decide
            omega
          · rw [hcl] at z; omega
        refine j_iast (pc' := 14) rfl rfl (hup_self _ _ _) hro hin ?_
        rw [hup_hup, hcl]
        refine j_iinc (pc' := 17) (d := 1) (ls' := [(2, _), (3, _), (0, _), (1, _)]) rfl rfl rfl (by decide) (Nat.le_of_ble_eq_true rfl) rfl ?_
        refine j_goto (tgt := 5) rfl rfl ?_
        have e1 : va_up (fillf i v f) i v = fillf (i + 1) v f := by
          funext j
          unfold va_up fillf
          by_cases z : j = i
          · rw [if_pos z, if_pos (by omega)]
          · rw [if_neg z]
            by_cases z2 : j < i
            · rw [if_pos z2, if_pos (by omega)]
            · rw [if_neg z2, if_neg (by omega)]
        have e2 : Int32.ofNat i + 1 = Int32.ofNat (i + 1) := by
          rw [Int32.ofNat_add]
          rfl
        rw [e1, e2]
        refine j_sub (ls' := [(3, .int (Int32.ofNat n)), (2, .int (Int32.ofNat (i + 1))), (0, .ref key), (1, .int v)]) ⟨rfl, rfl, rfl, rfl, trivial⟩ ?_
        exact ih (i + 1) (by omega) (by omega)
set_option maxHeartbeats 4000000 in
set_option maxRecDepth 100000 in
theorem s_fill {key n : Nat} {f : Nat → Int32} {h : hH} (hk : h key = some (.inl (.int, n, .inl f))) (hro : key < 9000) (hn : n < 10000) (v : Int32) : SpD mJ7_fill_53178 rJ7_fill [.ref key, .int v] h none (hup h key (.inl (.int, n, .inl (fillf n v f)))) := by
  refine sp_of miJ7_fill_53178 (Nat.le_of_ble_eq_true rfl) ?_
  show J _ _ _ 0 0 _ 0 [(0, .ref key), (1, .int v)] []
  refine j_iconst (v := 0) (pc' := 1) rfl rfl (by decide) ?_
  refine j_istore_n (pc' := 2) (ls' := [(2, _), (0, _), (1, _)]) rfl rfl (Nat.le_of_ble_eq_true rfl) rfl ?_
  refine j_aload_n (pc' := 3) rfl rfl rfl ?_
  refine j_alen (pc' := 4) (v := Int32.ofNat n) (t0 := 0) rfl rfl hk (fun _ => rfl) rfl ?_
  refine j_istore_n (pc' := 5) (ls' := [(3, _), (2, _), (0, _), (1, _)]) rfl rfl (Nat.le_of_ble_eq_true rfl) rfl ?_
  have e0 : h = hup h key (.inl (.int, n, .inl (fillf 0 v f))) := by
    have : fillf 0 v f = f := by
      funext j
      unfold fillf
      rw [if_neg (by omega)]
    rw [this]
    exact (hup_same hk).symm
  refine j_heap e0 ?_
  exact s_fill_loop hro hn ⟨rfl, rfl⟩ n 0 (by omega) (by omega)
end XAUX
end
section
/-! JDK MEMBERS over the abstract heap: Math.min, Math.max, System.arraycopy -/
section XJDK
variable {M : hM} {R : Room} {Q : Option Value → hH → Prop} {cells slots : Nat} {h : hH} {pc pc' : Nat} {ls : List (Nat × Value)} {st : List Value}
theorem h_cat2 (α : Nat → Nat) (st : List Value) : ((st.map (h_rv α)).map fun v => v.category) = st.map (fun v => v.category) := by
  rw [List.map_map]
  exact List.map_congr_left fun v _ => h_rv_cat α v
theorem j_mmin {idx : Nat} {x y : Int32} (hd : fnd (h_tab M) pc = some (.invokestatic idx, 3)) (hp : pc + 3 = pc') (h1 : Cond.methodLink (h_own M) idx Lib.Math.min.name ∈ lw_tbl) (h2 : Cond.static Lib.Math.min.name ∈ lw_tbl) (h3 : Cond.initialized "java/lang/Math" ∈ lw_tbl) (h4 : Cond.code Lib.Math.min.name Lib.Math.min.code 2 (some .int) ∈ lw_tbl) (hR : 1 ≤ R.frames ∧ (st.map fun v => v.category).sum + 13 ≤ R.locals) (hcs : cells ≤ R.cells) (hss : slots ≤ R.slots)
    (kk : J M R Q cells slots h pc' ls (.int (if y < x then y else x) :: st)) : J M R Q cells slots h pc ls (.int y :: .int x :: st) := by
  subst hp
  intro p l e s m args below meth c H locs D α α0 h0 lsA hC hW hll hcl hl
  have hts := hC.2.2.2.2.1
  exact va_mmin hC.1 hC.2.1 (hC.2.2.1.trans hl.1.symm) hC.2.2.2.1 (hts _ (h_in h1 rfl)) (hts _ (h_in h2 rfl)) (hts _ (h_in h3 rfl)) (hts _ (h_in h4 rfl)) hR.1 (by rw [h_cat2]; exact hR.2) hcs hss (h_dec hC hd) (kk p l e s m args below meth c H locs D α α0 h0 lsA hC hW hll (h_cl_i (h_cl_tl (h_cl_tl hcl))) hl)
theorem j_mmaxl {idx : Nat} {x y : Int64} (hd : fnd (h_tab M) pc = some (.invokestatic idx, 3)) (hp : pc + 3 = pc') (h1 : Cond.methodLink (h_own M) idx Lib.MathLoose.max_long.x ∈ lw_tbl) (h2 : Cond.static Lib.MathLoose.max_long.x ∈ lw_tbl) (h3 : Cond.initialized "java/lang/Math" ∈ lw_tbl) (h4 : Cond.code Lib.MathLoose.max_long.x Lib.MathLoose.max_long.code 4 (some .long) ∈ lw_tbl) (hR : 1 ≤ R.frames ∧ (st.map fun v => v.category).sum + 15 ≤ R.locals) (hcs : cells ≤ R.cells) (hss : slots ≤ R.slots)
    (kk : J M R Q cells slots h pc' ls (.long (if y < x then x else y) :: st)) : J M R Q cells slots h pc ls (.long y :: .long x :: st) := by
  subst hp
  intro p l e s m args below meth c H locs D α α0 h0 lsA hC hW hll hcl hl
  have hts := hC.2.2.2.2.1
  exact va_mmax_long hC.1 hC.2.1 (hC.2.2.1.trans hl.1.symm) hC.2.2.2.1 (hts _ (h_in h1 rfl)) (hts _ (h_in h2 rfl)) (hts _ (h_in h3 rfl)) (hts _ (h_in h4 rfl)) hR.1 (by rw [h_cat2]; exact hR.2) hcs hss (h_dec hC hd) (kk p l e s m args below meth c H locs D α α0 h0 lsA hC hW hll (h_cl_l (h_cl_tl (h_cl_tl hcl))) hl)
theorem h_Wd.putL {D : hG} {α : Nat → Nat} {h : hH} {α0 : Nat → Nat} {h0 : hH} {s : State} {H H1 : Heap} {locs L : List Loc} (hW : h_Wd D α h α0 h0 s H locs) {k : Nat} {e0 e : hE} (hk : h k = some e0) (hro : k < 9000) (hc : h_ce h e)
    (he : va_at D.1 vwCl (α k, h_re D α e) H1) (hz : H1.size = H.size) (oq : ∀ q : Nat, q ≠ α k → H1[q]? = H[q]?) (hL : ∀ q ∈ L, q.base = α k) : h_Wd D α (hup h k e) α0 h0 s H1 (locs ++ L) := by
  have h1 := hW.put (i := 0) hk hro hc he hz oq
  refine ⟨h1.1, h1.2.1, ⟨h1.2.2.1.1, h1.2.2.1.2.1, fun q hq => ?_⟩, h1.2.2.2⟩
  rcases List.mem_append.mp hq with z | z
  · exact hW.2.2.1.2.2 q z
  · rw [hL q z]
    exact hW.2.1.2 k hro (by rw [hk]; exact fun z => by cases z)
theorem j_copyi {idx k0 k1 n0 n1 : Nat} {f g : Nat → Int32} {sp dp n : Int32} (hd : fnd (h_tab M) pc = some (.invokestatic idx, 3)) (hp : pc + 3 = pc') (w1 : Cond.methodLink (h_own M) idx arraycopyName ∈ lw_tbl) (w2 : Cond.native arraycopyName ∈ lw_tbl) (w3 : Cond.static arraycopyName ∈ lw_tbl) (w4 : Cond.initialized "java/lang/System" ∈ lw_tbl)
    (hk0 : h k0 = some (.inl (.int, n0, .inl f))) (hk1 : h k1 = some (.inl (.int, n1, .inl g))) (hro : k1 < 9000) (h1 : ¬ sp < 0) (h2 : ¬ dp < 0) (h3 : ¬ n < 0) (h4 : sp.toNatClampNeg + n.toNatClampNeg ≤ n0) (h5 : dp.toNatClampNeg + n.toNatClampNeg ≤ n1)
    (hR : 1 ≤ R.frames ∧ (st.map fun v => v.category).sum + (nativeFrameWords "java/lang/System" "arraycopy" 5 + 11) ≤ R.locals)
    (kk : J M R Q cells slots (hup h k1 (.inl (.int, n1, .inl (va_cpy f g sp.toNatClampNeg dp.toNatClampNeg n.toNatClampNeg)))) pc' ls st) : J M R Q cells slots h pc ls (.int n :: .int dp :: .ref k1 :: .int sp :: .ref k0 :: st) := by
  subst hp
  intro p l e s m args below meth c H locs D α α0 h0 lsA hC hW hll hcl hl
  have hts := hC.2.2.2.2.1
  have hK := hC.2.2.2.2.2.2.2.2.1.1
  have nn : ∀ z : Int32, ¬ z < 0 → z.toInt = (z.toNatClampNeg : Int) := by
    intro z hz
    have hz0 : (0 : Int) ≤ z.toInt := by
      have := Int32.not_lt.mp hz
      simpa using Int32.le_iff_toInt_le.mp this
    show z.toInt = ((z.toInt.toNat : Nat) : Int)
    omega
  intro T hT X
  have hc0 : H[α k0]? = some (vp_cell (D.2 .int) (n0, .inl f)) := hW.1 k0 _ hk0
  have hc1 : H[α k1]? = some (vp_cell (D.2 .int) (n1, .inl g)) := hW.1 k1 _ hk1
  obtain ⟨-, kk0, hkk0, cm0, hkkk0⟩ := (hK.2 0 _ rfl).1 n0 (fun j => .int (f j))
  obtain ⟨-, kk1, hkk1, cm1, hkkk1⟩ := (hK.2 0 _ rfl).1 n1 (fun j => .int (g j))
  obtain ⟨vm', X', step⟩ := X.arraycopy hC.1 hC.2.2.2.1 (hts _ (h_in w1 rfl)) (hts _ (h_in w2 rfl)) (hts _ (h_in w3 rfl)) (hts _ (h_in w4 rfl)) (src := α k0) (dst := α k1) (cs := vp_cell (D.2 .int) (n0, .inl f)) (cd := vp_cell (D.2 .int) (n1, .inl g)) (srcPos := sp) (destPos := dp) (n := n) (by rw [hT]; exact hc0) (by rw [hT]; exact hc1)
    (fun _ h => by cases h) (fun _ h => by cases h) (fun h => by cases h) (fun h => by cases h) hkk0 hkk1 hkkk0 hkkk1 (by simp [show refKind .int = false from rfl]) h1 h2 h3
    (by rw [nn sp h1, nn n h3]; show ¬ _ > ((arrV (D.2 .int) n0 (fun j => .int (f j))).slots.size : Int); rw [arrV_size]; omega)
    (by rw [nn dp h2, nn n h3]; show ¬ _ > ((arrV (D.2 .int) n1 (fun j => .int (g j))).slots.size : Int); rw [arrV_size]; omega)
    (fun vm₁ _ i hi => by
      have e : (vp_cell (D.2 .int) (n0, .inl f)).slots.getD (sp.toNatClampNeg + i) .null = .int (f (sp.toNatClampNeg + i)) := by
        show (arrV (D.2 .int) n0 (fun j => .int (f j))).slots.getD _ _ = _
        rw [Array.getD_eq_getD_getElem?, arrV_read _ _ (by omega)]
        rfl
      refine ⟨?_, ?_⟩
      · rw [e]; rfl
      · rw [e]; exact trivial)
    (g := F0 m pc lsA ((Value.int n :: Value.int dp :: Value.ref k1 :: Value.int sp :: Value.ref k0 :: st).map (h_rv α))) rfl (by rw [hC.2.2.1]; exact hl.1) (rest := st.map (h_rv α)) rfl (by rw [hC.2.1]; exact h_dec hC hd) hR.1 (by rw [h_cat2]; show 2 * 0 + _ + _ ≤ _; omega)
  have e1 : copied (vp_cell (D.2 .int) (n0, .inl f)) (vp_cell (D.2 .int) (n1, .inl g)) sp dp n = vp_cell (D.2 .int) (n1, .inl (va_cpy f g sp.toNatClampNeg dp.toNatClampNeg n.toNatClampNeg)) := va_copied (fun z => .int z) (D.2 .int) (D.2 .int) f g h4
  rw [e1] at X' step
  have hl1 : α k1 < H.size := (Array.getElem?_eq_some_iff.mp hc1).1
  have hheap : ((T.setVm vm').setCell (α k1) (vp_cell (D.2 .int) (n1, .inl (va_cpy f g sp.toNatClampNeg dp.toNatClampNeg n.toNatClampNeg)))).heap = H.setIfInBounds (α k1) (vp_cell (D.2 .int) (n1, .inl (va_cpy f g sp.toNatClampNeg dp.toNatClampNeg n.toNatClampNeg))) := by rw [← hT]; rfl
  have oq : ∀ q : Nat, q ≠ α k1 → (H.setIfInBounds (α k1) (vp_cell (D.2 .int) (n1, .inl (va_cpy f g sp.toNatClampNeg dp.toNatClampNeg n.toNatClampNeg))))[q]? = H[q]? := fun q hq => by simp [Array.getElem?_setIfInBounds, Ne.symm hq]
  have hat : va_at D.1 vwCl (α k1, h_re D α (.inl (.int, n1, .inl (va_cpy f g sp.toNatClampNeg dp.toNatClampNeg n.toNatClampNeg)))) (H.setIfInBounds (α k1) (vp_cell (D.2 .int) (n1, .inl (va_cpy f g sp.toNatClampNeg dp.toNatClampNeg n.toNatClampNeg)))) := by
    show (H.setIfInBounds (α k1) _)[α k1]? = some _
    simp [Array.getElem?_setIfInBounds, hl1]
    rfl
  have hW' : ∀ L : List Loc, (∀ q ∈ L, q.base = α k1) → h_Wd D α (hup h k1 (.inl (.int, n1, .inl (va_cpy f g sp.toNatClampNeg dp.toNatClampNeg n.toNatClampNeg)))) α0 h0 s (H.setIfInBounds (α k1) (vp_cell (D.2 .int) (n1, .inl (va_cpy f g sp.toNatClampNeg dp.toNatClampNeg n.toNatClampNeg)))) (locs ++ L) :=
    fun L hL => hW.putL hk1 hro (show h_ce h (Sum.inl (FieldType.int, n1, Sum.inl (va_cpy f g sp.toNatClampNeg dp.toNatClampNeg n.toNatClampNeg))) from trivial) hat (by simp) oq hL
  obtain ⟨t, a1, b1⟩ := kk p l e s m args below meth c _ _ D α α0 h0 lsA hC (hW' _ (fun q hq => by
      obtain ⟨z, -, hz⟩ := List.mem_map.mp hq
      rw [← hz])) (h_ll_mono hup_mono hll) (h_cl_mono hup_mono (h_cl_tl (h_cl_tl (h_cl_tl (h_cl_tl (h_cl_tl hcl)))))) hl _ hheap X'
  exact ⟨t, step t a1, b1⟩
end XJDK
end
section
theorem kjJ7_304 : Cond.methodLink RJ7 304 Lib.Math.min.name ∈ lw_tbl := List.mem_of_getElem? (i := 490) (by decide +kernel)
theorem kjJ7_150 : Cond.methodLink RJ7 150 arraycopyName ∈ lw_tbl := List.mem_of_getElem? (i := 493) (by decide +kernel)
theorem kjX6_237 : Cond.methodLink RX6 237 Lib.MathLoose.max_long.x ∈ lw_tbl := List.mem_of_getElem? (i := 579) (by decide +kernel)
theorem kjX0_33 : Cond.methodLink RX0 33 arraycopyName ∈ lw_tbl := List.mem_of_getElem? (i := 675) (by decide +kernel)
theorem kjX0_77 : Cond.methodLink RX0 77 Lib.Math.min.name ∈ lw_tbl := List.mem_of_getElem? (i := 700) (by decide +kernel)
theorem kjX6_305 : Cond.methodLink RX6 305 Lib.Math.min.name ∈ lw_tbl := List.mem_of_getElem? (i := 712) (by decide +kernel)
theorem kj_math : Cond.initialized "java/lang/Math" ∈ lw_tbl := List.mem_of_getElem? (i := 63) (by decide +kernel)
theorem kj_sys : Cond.initialized "java/lang/System" ∈ lw_tbl := List.mem_of_getElem? (i := 64) (by decide +kernel)
theorem kj_min_s : Cond.static Lib.Math.min.name ∈ lw_tbl := List.mem_of_getElem? (i := 491) (by decide +kernel)
theorem kj_min_c : Cond.code Lib.Math.min.name Lib.Math.min.code 2 (some .int) ∈ lw_tbl := List.mem_of_getElem? (i := 492) (by decide +kernel)
theorem kj_max_s : Cond.static Lib.MathLoose.max_long.x ∈ lw_tbl := List.mem_of_getElem? (i := 580) (by decide +kernel)
theorem kj_max_c : Cond.code Lib.MathLoose.max_long.x Lib.MathLoose.max_long.code 4 (some .long) ∈ lw_tbl := List.mem_of_getElem? (i := 581) (by decide +kernel)
theorem kj_cp_n : Cond.native arraycopyName ∈ lw_tbl := List.mem_of_getElem? (i := 495) (by decide +kernel)
theorem kj_cp_s : Cond.static arraycopyName ∈ lw_tbl := List.mem_of_getElem? (i := 494) (by decide +kernel)
end
section
/-! STRING CONSTANTS over the abstract heap: key 9001 + i the i-th String of the Tape, 9011 + i its bytes -/
section XSTR
variable {M : hM} {R : Room} {Q : Option Value → hH → Prop} {cells slots : Nat} {h : hH} {pc pc' : Nat} {ls : List (Nat × Value)} {st : List Value}
theorem j_ishr {x y : Int32} (hd : fnd (h_tab M) pc = some (.ishr, 1)) (hp : pc + 1 = pc') (k : J M R Q cells slots h pc' ls (.int (x >>> (y &&& 31)) :: st)) : J M R Q cells slots h pc ls (.int y :: .int x :: st) := by
  subst hp
  intro p l e s m args below meth c H locs D α α0 h0 lsA hC hW hll hcl hl
  exact lv_ishr hC.1 hC.2.1 (h_dec hC hd) (k p l e s m args below meth c H locs D α α0 h0 lsA hC hW hll (h_cl_i (h_cl_tl (h_cl_tl hcl))) hl)
theorem j_i2c {x : Int32} (hd : fnd (h_tab M) pc = some (.i2c, 1)) (hp : pc + 1 = pc') (k : J M R Q cells slots h pc' ls (.int (x.toUInt32 % 65536).toInt32 :: st)) : J M R Q cells slots h pc ls (.int x :: st) := by
  subst hp
  intro p l e s m args below meth c H locs D α α0 h0 lsA hC hW hll hcl hl
  exact lv_i2c hC.1 hC.2.1 (h_dec hC hd) rfl (k p l e s m args below meth c H locs D α α0 h0 lsA hC hW hll (h_cl_i (h_cl_tl hcl)) hl)
theorem j_tret {v : Int32} {ty : FieldType} (hd : fnd (h_tab M) pc = some (.ireturn, 1)) (hr : h_ret M = some ty) (hb : narrow ty (.int v) = .int v) (hcs : cells ≤ R.cells) (hss : slots ≤ R.slots) (q : Q (some (.int v)) h) : J M R Q cells slots h pc ls [.int v] := by
  intro p l e s m args below meth c H locs D α α0 h0 lsA hC hW hll hcl hl
  refine W.widen hcs hss ?_
  exact W.zret (hlocks := hC.2.2.2.2.2.2.1) hC.1 hC.2.1 (hC.2.2.2.2.2.1.trans hr) hb (fun t ht hWa => ⟨some (.int v), h, α, rfl, q, by rw [ht]; exact hW.1, hW.2.1, hW.2.2.2.1, ⟨hW.2.2.2.2.1, hW.2.2.2.2.2.1⟩, (fun w hw => by cases hw; trivial), hW.2.2.1.F ht⟩) hW.2.2.1.2.2 (h_dec hC hd)
theorem h_c9 (i : Nat) : h_cv h (.ref (9001 + i)) := Or.inr (by omega)
/-- ldc of a String of the Tape -/
theorem j_ldcS {idx i : Nat} {tx : String} (hd : fnd (h_tab M) pc = some (.ldc idx, 2)) (hp : pc + 2 = pc') (hown : h_own M = RX5) (hR : ∀ (D : hG) (U : State), h_SS D U → vk_R RX5 idx tx (h_sK D i) U) (k : J M R Q cells slots h pc' ls (.ref (9001 + i) :: st)) : J M R Q cells slots h pc ls st := by
  subst hp
  intro p l e s m args below meth c H locs D α α0 h0 lsA hC hW hll hcl hl
  have hv := hR D s hC.2.2.2.2.2.2.2.2.1.2.2.2
  refine va_ldcS hC.1 hC.2.1 (by rw [← hown]; exact hC.2.2.2.1) hv (h_dec hC hd) ?_
  have K := k p l e s m args below meth c H locs D α α0 h0 lsA hC hW hll (h_cl_cons (h_c9 i) hcl) hl
  have e1 : h_rv α (.ref (9001 + i)) = .ref (h_sK D i) := congrArg Value.ref (hW.2.2.2.2.2.1.2 i)
  rw [List.map_cons, e1] at K
  exact K
theorem h_vkS {p : Program} {s : State} {m : MethodId} {args : Array Value} {meth : Method} {c : Code} {D : hG} {α α0 : Nat → Nat} {h0 : hH} {H : Heap} {locs : List Loc} (hC : h_Cx M p s m args meth c D) (hW : h_Wd D α h α0 h0 s H locs) : vk_S 4 h_len h_byt (h_sK D) (h_sV D) (h_AA α0 h0 s.heap.size) s s.heap := (hC.2.2.2.2.2.2.2.2.1.2.2.2.2.1).narrow hW.above
/-- String.value -/
theorem j_getSv {idx i : Nat} (hd : fnd (h_tab M) pc = some (.getfield idx, 3)) (hp : pc + 3 = pc') (hi : i < 4) (hw : Cond.fieldLink (h_own M) idx "java/lang/String" "value" "[B" ∈ lw_tbl) (k : J M R Q cells slots h pc' ls (.ref (9001 + (10 + i)) :: st)) : J M R Q cells slots h pc ls (.ref (9001 + i) :: st) := by
  subst hp
  intro p l e s m args below meth c H locs D α α0 h0 lsA hC hW hll hcl hl
  have hv := (h_vkS hC hW).1 i hi
  have e1 : h_rv α (.ref (9001 + i)) = .ref (h_sK D i) := congrArg Value.ref (hW.2.2.2.2.2.1.2 i)
  have e2 : h_rv α (.ref (9001 + (10 + i))) = .ref (h_sV D i) := congrArg Value.ref (hW.2.2.2.2.2.1.2 (10 + i))
  have K := k p l e s m args below meth c H locs D α α0 h0 lsA hC hW hll (h_cl_cons (h_c9 _) (h_cl_tl hcl)) hl
  rw [List.map_cons, e2] at K
  rw [List.map_cons, e1]
  exact vk_getf hC.1 hC.2.1 hv.2.2.1 hW.2.2.1 hC.2.2.2.1 (hC.2.2.2.2.1 _ (h_in hw rfl)) (fun _ q => q) (h_dec hC hd) K
/-- String.coder -/
theorem j_getSc {idx i : Nat} (hd : fnd (h_tab M) pc = some (.getfield idx, 3)) (hp : pc + 3 = pc') (hi : i < 4) (hw : Cond.fieldLink (h_own M) idx "java/lang/String" "coder" "B" ∈ lw_tbl) (k : J M R Q cells slots h pc' ls (.int 0 :: st)) : J M R Q cells slots h pc ls (.ref (9001 + i) :: st) := by
  subst hp
  intro p l e s m args below meth c H locs D α α0 h0 lsA hC hW hll hcl hl
  have hv := (h_vkS hC hW).1 i hi
  have e1 : h_rv α (.ref (9001 + i)) = .ref (h_sK D i) := congrArg Value.ref (hW.2.2.2.2.2.1.2 i)
  have K := k p l e s m args below meth c H locs D α α0 h0 lsA hC hW hll (h_cl_i (h_cl_tl hcl)) hl
  rw [List.map_cons, e1]
  exact vk_getf hC.1 hC.2.1 hv.2.1 hW.2.2.1 hC.2.2.2.1 (hC.2.2.2.2.1 _ (h_in hw rfl)) (fun _ q => q) (h_dec hC hd) K
/-- the bytes' length, a byte -/
theorem j_alenS {i : Nat} {v : Int32} (hd : fnd (h_tab M) pc = some (.arraylength, 1)) (hp : pc + 1 = pc') (hi : i < 4) (hv : Int32.ofNat (h_len.getD i 0) = v) (k : J M R Q cells slots h pc' ls (.int v :: st)) : J M R Q cells slots h pc ls (.ref (9001 + (10 + i)) :: st) := by
  subst hp
  intro p l e s m args below meth c H locs D α α0 h0 lsA hC hW hll hcl hl
  have hT := (h_vkS hC hW).1 i hi
  have e2 : h_rv α (.ref (9001 + (10 + i))) = .ref (h_sV D i) := congrArg Value.ref (hW.2.2.2.2.2.1.2 (10 + i))
  have K := k p l e s m args below meth c H locs D α α0 h0 lsA hC hW hll (h_cl_i (h_cl_tl hcl)) hl
  rw [List.map_cons, e2]
  exact va_tlen hC.1 hC.2.1 hT.2.2.2 hW.2.2.1 hv (h_dec hC hd) K
theorem j_baldS {i : Nat} {j : Int32} {v : Int32} (hd : fnd (h_tab M) pc = some (.baload, 1)) (hp : pc + 1 = pc') (hi : i < 4) (hj : vp_in j (h_len.getD i 0)) (hv : (h_byt.getD i []).getD j.toNatClampNeg 0 = v) (k : J M R Q cells slots h pc' ls (.int v :: st)) : J M R Q cells slots h pc ls (.int j :: .ref (9001 + (10 + i)) :: st) := by
  subst hp
  intro p l e s m args below meth c H locs D α α0 h0 lsA hC hW hll hcl hl
  have hT := (h_vkS hC hW).1 i hi
  have e2 : h_rv α (.ref (9001 + (10 + i))) = .ref (h_sV D i) := congrArg Value.ref (hW.2.2.2.2.2.1.2 (10 + i))
  have K := k p l e s m args below meth c H locs D α α0 h0 lsA hC hW hll (h_cl_i (h_cl_tl (h_cl_tl hcl))) hl
  rw [List.map_cons, List.map_cons, e2]
  exact va_tb hC.1 hC.2.1 hT.2.2.2 hW.2.2.1 hj (congrArg Value.int hv) (h_dec hC hd) K
/-- the statics -/
theorem j_getsC {idx : Nat} (hd : fnd (h_tab M) pc = some (.getstatic idx, 3)) (hp : pc + 3 = pc') (hw : Cond.fieldLink (h_own M) idx "java/lang/String" "COMPACT_STRINGS" "Z" ∈ lw_tbl) (k : J M R Q cells slots h pc' ls (.int 1 :: st)) : J M R Q cells slots h pc ls st := by
  subst hp
  intro p l e s m args below meth c H locs D α α0 h0 lsA hC hW hll hcl hl
  have hZ := (hC.2.2.2.2.2.2.2.2.1.2.2.2.2.2.2.1).narrow hW.above
  exact va_gets hC.1 hC.2.1 hZ hW.2.2.1 hC.2.2.2.1 (hC.2.2.2.2.1 _ (h_in hw rfl)) (fun _ q => q) (h_dec hC hd) (k p l e s m args below meth c H locs D α α0 h0 lsA hC hW hll (h_cl_i hcl) hl)
theorem j_getsF {idx : Nat} (hd : fnd (h_tab M) pc = some (.getstatic idx, 3)) (hp : pc + 3 = pc') (hw : Cond.fieldLink (h_own M) idx "jdk/internal/util/Preconditions" "SIOOBE_FORMATTER" "Ljava/util/function/BiFunction;" ∈ lw_tbl) (k1 : J M R Q cells slots h pc' ls (.null :: st)) (k2 : J M R Q cells slots h pc' ls (.ref (9001 + 20) :: st)) : J M R Q cells slots h pc ls st := by
  subst hp
  intro p l e s m args below meth c H locs D α α0 h0 lsA hC hW hll hcl hl
  rcases hC.2.2.2.2.2.2.2.2.1.2.2.2.2.2.2.2.1 with hZ | hZ
  · exact va_gets hC.1 hC.2.1 (hZ.narrow hW.above) hW.2.2.1 hC.2.2.2.1 (hC.2.2.2.2.1 _ (h_in hw rfl)) (fun _ q => q) (h_dec hC hd) (k1 p l e s m args below meth c H locs D α α0 h0 lsA hC hW hll (h_cl_cons trivial hcl) hl)
  · have e2 : h_rv α (.ref (9001 + 20)) = .ref (h_cn D 20) := congrArg Value.ref (hW.2.2.2.2.2.1.2 20)
    have K := k2 p l e s m args below meth c H locs D α α0 h0 lsA hC hW hll (h_cl_cons (h_c9 20) hcl) hl
    rw [List.map_cons, e2] at K
    exact va_gets hC.1 hC.2.1 (hZ.narrow hW.above) hW.2.2.1 hC.2.2.2.1 (hC.2.2.2.2.1 _ (h_in hw rfl)) (fun _ q => q) (h_dec hC hd) K
/-- a call on a String of the Tape -/
theorem j_callVS {idx i n : Nat} {M' : hM} {R' : Room} {As : List Value} {r : Value} {c' s' : Nat} (hd : fnd (h_tab M) pc = some (.invokevirtual idx, 3)) (hp : pc + 3 = pc') (I : h_MI M' n) (L : h_LV (h_own M) idx (h_y M')) (hi : i < 4) (hci : (h_y M').cls = "java/lang/String") (hn : As.length = n) (rm : h_rm R R' (h_nL M') cells slots) (hW8 : (st.map fun v => v.category).sum ≤ 8) (S : SpD M' R' (.ref (9001 + i) :: As) h (some r) h) (hc' : cells + R'.cells = c') (hs' : slots + R'.slots = s')
    (kk : J M R Q c' s' h pc' ls (r :: st)) : J M R Q cells slots h pc ls (As.reverse ++ .ref (9001 + i) :: st) := by
  subst hp; subst hc'; subst hs'
  intro p l e s m args below meth c H locs D α α0 h0 lsA hC hW hll hcl hl
  have hts := hC.2.2.2.2.1
  have hst : h_cl h st := fun w hw => hcl w (List.mem_append_right _ (List.mem_cons_of_mem _ hw))
  have hav : h_cl h (.ref (9001 + i) :: As) := fun w hw => by
    rcases List.mem_cons.mp hw with q | q
    · rw [q]; exact hcl _ (List.mem_append_right _ List.mem_cons_self)
    · exact hcl w (List.mem_append_left _ (List.mem_reverse.mpr q))
  have hK := hC.2.2.2.2.2.2.2.2.1
  have hrv := vk_recv (h_vkS hC hW) hi hW.2.2.1
  rw [show h_sK D i = α (9001 + i) from (hW.2.2.2.2.2.1.2 i).symm, ← hci] at hrv
  have cw : CallW R s args (h_own M) (h_y M').cls idx (h_y M') (h_cc M') (h_nL M') (h_ret M') (h_ws M') R' R'.cells R'.slots n := ⟨callB_of n hts (h_code I) rfl rfl rfl (hts _ (h_in L.2.2.2 rfl)) (hts _ (h_in L.1 rfl)) I.2.2.2.1 rm.1, hts _ (h_in L.2.1 rfl), hts _ (h_in L.2.2.1 rfl)⟩
  refine j_back (R' := R') hC hW hll hst hl (va_runV (As := As.map (h_rv α)) (b := α (9001 + i)) (rest := st.map (h_rv α)) (Ts := hw_tbl) ⟨hC.1, hC.2.1, hC.2.2.1, hC.2.2.2.1, hts⟩ (S l D α H.size) cw ⟨h_blind, hrv, fun U hU hWU => ⟨rfl, by rw [hU], hK.warm hW hU hWU, by rw [hU]; exact hW.1, ⟨hW.2.1.1, fun _ _ _ => trivial⟩, hW.2.2.2.2.1, hav, hW.2.2.2.2.2.1⟩⟩ rfl (by rw [List.length_map]; exact hn) hl.1 ?_ (h_cats α st hW8) (h_dec hC hd) rm.2) (fun v h' q => by obtain ⟨q1, q2⟩ := q; rw [q1, q2]; exact kk)
  show (As.reverse ++ .ref (9001 + i) :: st).map (h_rv α) = _
  rw [List.map_append, List.map_reverse]
  rfl
end XSTR
end
section
/-! String.length and String.charAt on the Tape's constants; Arrays.copyOf of the same length -/
section XSTRM
theorem kS_38 : Cond.fieldLink RJ0 38 "java/lang/String" "COMPACT_STRINGS" "Z" ∈ lw_tbl := List.mem_of_getElem? (i := 411) (by decide +kernel)
theorem kS_1053 : Cond.fieldLink RJ0 1053 "jdk/internal/util/Preconditions" "SIOOBE_FORMATTER" "Ljava/util/function/BiFunction;" ∈ lw_tbl := List.mem_of_getElem? (i := 427) (by decide +kernel)
theorem kS_9 : Cond.fieldLink RJ0 9 "java/lang/String" "value" "[B" ∈ lw_tbl := List.mem_of_getElem? (i := 1119) (by decide +kernel)
theorem kS_15 : Cond.fieldLink RJ0 15 "java/lang/String" "coder" "B" ∈ lw_tbl := List.mem_of_getElem? (i := 1120) (by decide +kernel)
def rS0 : Room := { frames := 0, cells := 0, slots := 0, locals := 0 }
def rS_len : Room := { frames := 1, cells := 0, slots := 0, locals := 20 }
def rS_chk : Room := { frames := 1, cells := 0, slots := 0, locals := 22 }
def rS_lch : Room := { frames := 2, cells := 0, slots := 0, locals := 43 }
def rS_cha : Room := { frames := 3, cells := 0, slots := 0, locals := 64 }
theorem s_coder {i : Nat} (hi : i < 4) (h : hH) : SpD mJ0_coder_7d493 rS0 [.ref (9001 + i)] h (some (.int 0)) h := by
  refine sp_of miJ0_coder_7d493 (Nat.le_of_ble_eq_true rfl) ?_
  show J _ _ _ 0 0 _ 0 [(0, .ref (9001 + i))] []
  refine j_getsC (pc' := 3) rfl rfl kS_38 ?_
  refine j_if_eq (tgt := 13) (pc' := 6) rfl rfl rfl (fun c => absurd c (by decide)) (fun _ => ?_)
  refine j_aload_n (pc' := 7) rfl rfl rfl ?_
  refine j_getSc (pc' := 10) rfl rfl hi kS_15 ?_
  refine j_goto (tgt := 14) rfl rfl ?_
  exact j_tret rfl rfl (by decide) (Nat.zero_le _) (Nat.zero_le _) ⟨rfl, rfl⟩
theorem s_isLatin1 {i : Nat} (hi : i < 4) (h : hH) : SpD mJ0_isLatin1_aae02 rS0 [.ref (9001 + i)] h (some (.int 1)) h := by
  refine sp_of miJ0_isLatin1_aae02 (Nat.le_of_ble_eq_true rfl) ?_
  show J _ _ _ 0 0 _ 0 [(0, .ref (9001 + i))] []
  refine j_getsC (pc' := 3) rfl rfl kS_38 ?_
  refine j_if_eq (tgt := 17) (pc' := 6) rfl rfl rfl (fun c => absurd c (by decide)) (fun _ => ?_)
  refine j_aload_n (pc' := 7) rfl rfl rfl ?_
  refine j_getSc (pc' := 10) rfl rfl hi kS_15 ?_
  refine j_if_ne (tgt := 17) (pc' := 13) rfl rfl rfl (fun c => absurd rfl c) (fun _ => ?_)
  refine j_iconst (v := 1) (pc' := 14) rfl rfl (by decide) ?_
  refine j_goto (tgt := 18) rfl rfl ?_
  exact j_tret rfl rfl (by decide) (Nat.zero_le _) (Nat.zero_le _) ⟨rfl, rfl⟩
theorem str_len : ∀ i : Nat, i < 4 → Int32.ofNat (h_len.getD i 0) >>> ((0 : Int32) &&& 31) = Int32.ofNat (h_len.getD i 0) := by decide +kernel
theorem s_length {i : Nat} (hi : i < 4) (h : hH) : SpD mJ0_length_8abf5 rS_len [.ref (9001 + i)] h (some (.int (Int32.ofNat (h_len.getD i 0)))) h := by
  refine sp_of miJ0_length_8abf5 (Nat.le_of_ble_eq_true rfl) ?_
  show J _ _ _ 0 0 _ 0 [(0, .ref (9001 + i))] []
  refine j_aload_n (pc' := 1) rfl rfl rfl ?_
  refine j_getSv (pc' := 4) rfl rfl hi kS_9 ?_
  refine j_alenS (pc' := 5) rfl rfl hi rfl ?_
  refine j_aload_n (pc' := 6) rfl rfl rfl ?_
  refine j_callVS (As := []) (pc' := 9) rfl rfl miJ0_coder_7d493 lnJ0_335 hi rfl rfl (h_rm_of rfl) (Nat.le_of_ble_eq_true rfl) (s_coder hi h) (c' := 0) (s' := 0) rfl rfl ?_
  refine j_ishr (pc' := 10) rfl rfl ?_
  rw [str_len i hi]
  exact j_iret rfl rfl (Nat.zero_le _) (Nat.zero_le _) ⟨rfl, rfl⟩
theorem s_pchk {j n : Int32} (h1 : ¬ j < 0) (h2 : j < n) {v : Value} (hv : v = .null ∨ v = .ref (9001 + 20)) (h : hH) : SpD mJ3_checkIndex_8e157 rS0 [.int j, .int n, v] h (some (.int j)) h := by
  rcases hv with rfl | rfl
  · refine sp_of miJ3_checkIndex_8e157 (Nat.le_of_ble_eq_true rfl) ?_
    show J _ _ _ 0 0 _ 0 [(0, .int j), (1, .int n), (2, .null)] []
    refine j_iload_n (pc' := 1) rfl rfl rfl ?_
    refine j_if_lt (tgt := 9) (pc' := 4) rfl rfl rfl (fun c => absurd c h1) (fun _ => ?_)
    refine j_iload_n (pc' := 5) rfl rfl rfl ?_
    refine j_iload_n (pc' := 6) rfl rfl rfl ?_
    refine j_icmp_lt (tgt := 16) (pc' := 9) rfl rfl rfl (fun _ => ?_) (fun c => absurd h2 c)
    refine j_iload_n (pc' := 17) rfl rfl rfl ?_
    exact j_iret rfl rfl (Nat.zero_le _) (Nat.zero_le _) ⟨rfl, rfl⟩
  · refine sp_of miJ3_checkIndex_8e157 (Nat.le_of_ble_eq_true rfl) ?_
    show J _ _ _ 0 0 _ 0 [(0, .int j), (1, .int n), (2, .ref (9001 + 20))] []
    refine j_iload_n (pc' := 1) rfl rfl rfl ?_
    refine j_if_lt (tgt := 9) (pc' := 4) rfl rfl rfl (fun c => absurd c h1) (fun _ => ?_)
    refine j_iload_n (pc' := 5) rfl rfl rfl ?_
    refine j_iload_n (pc' := 6) rfl rfl rfl ?_
    refine j_icmp_lt (tgt := 16) (pc' := 9) rfl rfl rfl (fun _ => ?_) (fun c => absurd h2 c)
    refine j_iload_n (pc' := 17) rfl rfl rfl ?_
    exact j_iret rfl rfl (Nat.zero_le _) (Nat.zero_le _) ⟨rfl, rfl⟩
theorem s_schk {j n : Int32} (h1 : ¬ j < 0) (h2 : j < n) (h : hH) : SpD mJ0_checkIndex_df160 rS_chk [.int j, .int n] h none h := by
  refine sp_of miJ0_checkIndex_df160 (Nat.le_of_ble_eq_true rfl) ?_
  show J _ _ _ 0 0 _ 0 [(0, .int j), (1, .int n)] []
  refine j_iload_n (pc' := 1) rfl rfl rfl ?_
  refine j_iload_n (pc' := 2) rfl rfl rfl ?_
  refine j_getsF (pc' := 5) rfl rfl kS_1053 ?_ ?_
  · refine j_s3 (pc' := 8) rfl rfl miJ3_checkIndex_8e157 lnJ0_1059 (s_pchk h1 h2 (Or.inl rfl) h) (h_rm_of rfl) (Nat.le_of_ble_eq_true rfl) (c' := 0) (s' := 0) rfl rfl ?_
    refine j_pop (pc' := 9) rfl rfl rfl ?_
    exact j_vret rfl rfl (Nat.zero_le _) (Nat.zero_le _) ⟨rfl, rfl⟩
  · refine j_s3 (pc' := 8) rfl rfl miJ3_checkIndex_8e157 lnJ0_1059 (s_pchk h1 h2 (Or.inr rfl) h) (h_rm_of rfl) (Nat.le_of_ble_eq_true rfl) (c' := 0) (s' := 0) rfl rfl ?_
    refine j_pop (pc' := 9) rfl rfl rfl ?_
    exact j_vret rfl rfl (Nat.zero_le _) (Nat.zero_le _) ⟨rfl, rfl⟩
theorem str_b : ∀ i : Nat, i < 4 → ∀ j : Nat, j < h_len.getD i 0 → ((((h_byt.getD i []).getD j 0 &&& 255).toUInt32 % 65536).toInt32 = (h_byt.getD i []).getD j 0 ∧ narrow .char (.int ((h_byt.getD i []).getD j 0)) = .int ((h_byt.getD i []).getD j 0)) ∧ (¬ Int32.ofNat j < 0 ∧ Int32.ofNat j < Int32.ofNat (h_len.getD i 0)) ∧ (Int32.ofNat j).toNatClampNeg = j := by decide +kernel
theorem s_lchar {i j : Nat} (hi : i < 4) (hj : j < h_len.getD i 0) (h : hH) : SpD mJ1_charAt_3b067 rS_lch [.ref (9001 + (10 + i)), .int (Int32.ofNat j)] h (some (.int ((h_byt.getD i []).getD j 0))) h := by
  obtain ⟨⟨b1, b2⟩, ⟨b3, b4⟩, b5⟩ := str_b i hi j hj
  refine sp_of miJ1_charAt_3b067 (Nat.le_of_ble_eq_true rfl) ?_
  show J _ _ _ 0 0 _ 0 [(0, .ref (9001 + (10 + i))), (1, .int (Int32.ofNat j))] []
  refine j_iload_n (pc' := 1) rfl rfl rfl ?_
  refine j_aload_n (pc' := 2) rfl rfl rfl ?_
  refine j_alenS (pc' := 3) rfl rfl hi rfl ?_
  refine j_sw2 (pc' := 6) rfl rfl miJ0_checkIndex_df160 lnJ1_9 (s_schk b3 b4 h) (h_rm_of rfl) (Nat.le_of_ble_eq_true rfl) (c' := 0) (s' := 0) rfl rfl ?_
  refine j_aload_n (pc' := 7) rfl rfl rfl ?_
  refine j_iload_n (pc' := 8) rfl rfl rfl ?_
  refine j_baldS (pc' := 9) (v := (h_byt.getD i []).getD j 0) rfl rfl hi (fun z => by
    rcases z with z | z
    · exact b3 z
    · rw [b5] at z; omega) (by rw [b5]) ?_
  refine j_sipush (v := 255) (pc' := 12) rfl rfl (by decide) ?_
  refine j_iand (pc' := 13) rfl rfl ?_
  refine j_i2c (pc' := 14) rfl rfl ?_
  rw [b1]
  exact j_tret rfl rfl b2 (Nat.zero_le _) (Nat.zero_le _) ⟨rfl, rfl⟩
theorem s_charAt {i j : Nat} (hi : i < 4) (hj : j < h_len.getD i 0) (h : hH) : SpD mJ0_charAt_5068e rS_cha [.ref (9001 + i), .int (Int32.ofNat j)] h (some (.int ((h_byt.getD i []).getD j 0))) h := by
  obtain ⟨⟨b1, b2⟩, ⟨b3, b4⟩, b5⟩ := str_b i hi j hj
  refine sp_of miJ0_charAt_5068e (Nat.le_of_ble_eq_true rfl) ?_
  show J _ _ _ 0 0 _ 0 [(0, .ref (9001 + i)), (1, .int (Int32.ofNat j))] []
  refine j_aload_n (pc' := 1) rfl rfl rfl ?_
  refine j_callVS (As := []) (pc' := 4) rfl rfl miJ0_isLatin1_aae02 lnJ0_492 hi rfl rfl (h_rm_of rfl) (Nat.le_of_ble_eq_true rfl) (s_isLatin1 hi h) (c' := 0) (s' := 0) rfl rfl ?_
  refine j_if_eq (tgt := 16) (pc' := 7) rfl rfl rfl (fun c => absurd c (by decide)) (fun _ => ?_)
  refine j_aload_n (pc' := 8) rfl rfl rfl ?_
  refine j_getSv (pc' := 11) rfl rfl hi kS_9 ?_
  refine j_iload_n (pc' := 12) rfl rfl rfl ?_
  refine j_s2 (pc' := 15) rfl rfl miJ1_charAt_3b067 lnJ0_495 (s_lchar hi hj h) (h_rm_of rfl) (Nat.le_of_ble_eq_true rfl) (c' := 0) (s' := 0) rfl rfl ?_
  exact j_tret rfl rfl b2 (Nat.zero_le _) (Nat.zero_le _) ⟨rfl, rfl⟩
end XSTRM
end
section
/-! clone of an int array, Arrays.copyOf of the same length -/
section XCPY
variable {M : hM} {R : Room} {Q : Option Value → hH → Prop} {cells slots : Nat} {h : hH} {pc pc' : Nat} {ls : List (Nat × Value)} {st : List Value}
theorem j_clone {idx key nk n : Nat} {f : Nat → Int32} (hd : fnd (h_tab M) pc = some (.invokevirtual idx, 3)) (hp : pc + 3 = pc') (w1 : Cond.methodLink (h_own M) idx ⟨"[I", "clone", "()Ljava/lang/Object;"⟩ ∈ lw_tbl) (w2 : Cond.sameMethod "[I" "java/lang/Object" "clone" "()Ljava/lang/Object;" ∈ lw_tbl) (w3 : Cond.native ⟨"java/lang/Object", "clone", "()Ljava/lang/Object;"⟩ ∈ lw_tbl) (w4 : Cond.instanceMethod ⟨"java/lang/Object", "clone", "()Ljava/lang/Object;"⟩ ∈ lw_tbl) (w5 : Cond.selects "[I" ⟨"[I", "clone", "()Ljava/lang/Object;"⟩ ⟨"java/lang/Object", "clone", "()Ljava/lang/Object;"⟩ ∈ lw_tbl)
    (hk : h key = some (.inl (.int, n, .inl f))) (hnk : h nk = none) (hnk9 : nk < 9000) (hR : 1 ≤ R.frames ∧ (st.map fun v => v.category).sum + 14 ≤ R.locals) (hcells : cells + 1 ≤ R.cells) (hslots : slots + n ≤ R.slots)
    (kk : J M R Q (cells + 1) (slots + n) (hup h nk (.inl (.int, n, .inl f))) pc' ls (.ref nk :: st)) : J M R Q cells slots h pc ls (.ref key :: st) := by
  subst hp
  intro p l e s m args below meth c H locs D α α0 h0 lsA hC hW hll hcl hl
  have hts := hC.2.2.2.2.1
  have hK := hC.2.2.2.2.2.2.2.2.1.1
  have hcl2 := hC.2.2.2.2.2.2.2.2.1.2.2.2.2.2.2.2.2
  obtain ⟨c0, t0', f1, f2, f3⟩ := Cond.castable_spec (va_Nw.use (A := args) rfl hcl2)
  have hnm : s.vm.findClass "[I" = some (D.2 .int) := (hK.2 0 _ rfl).2
  cases hnm.symm.trans f1
  have hsz : (vp_cell (D.2 .int) (n, .inl f)).slots.size = n := arrV_size _ _ _
  have hcellE : ({ cls := (vp_cell (D.2 .int) (n, .inl f)).cls, slots := (vp_cell (D.2 .int) (n, .inl f)).slots } : Cell) = vp_cell (D.2 .int) (n, .inl f) := rfl
  intro T hT X
  have hcellT : T.heap[α key]? = some (vp_cell (D.2 .int) (n, .inl f)) := by rw [hT]; exact hW.1 key _ hk
  obtain ⟨-, kA, hkA, comp, hkind⟩ := State.isArrayOf_alike X.warmed.alike ((hK.2 0 _ rfl).1 0 (fun _ => .null))
  obtain ⟨-, kS, hkS, compS, hkindS⟩ := (hK.2 0 _ rfl).1 0 (fun _ => .null)
  obtain ⟨vm', X', stp⟩ := X.cloneArray hC.1 hC.2.2.2.1 (hts _ (h_in w1 rfl)) (hts _ (h_in w2 rfl)) (hts _ (h_in w3 rfl)) (hts _ (h_in w4 rfl)) (hts _ (h_in w5 rfl)) (a := α key) (cell := vp_cell (D.2 .int) (n, .inl f)) hcellT (fun k h => by cases h) (fun h => by cases h) hnm f2 f3
    (fun i v hv => by
      have hk' : T.vm.classes[D.2 .int]? = some kA := hkA
      have hfit : fits .int v = true := by
        have hlt : i < n := by
          have := (Array.getElem?_eq_some_iff.mp hv).1
          rw [hsz] at this
          exact this
        have hr : (arrV (D.2 .int) n (fun j => Value.int (f j))).slots[i]? = some (.int (f i)) := arrV_read _ _ hlt
        have := (show some v = some (Value.int (f i)) from hv.symm.trans hr)
        cases this
        rfl
      show T.fitsSlot (D.2 .int) .none i v = true
      simpa [State.fitsSlot, State.slotType?, hk', hkind] using hfit)
    (g := F0 m pc lsA ((Value.ref key :: st).map (h_rv α))) rfl (by rw [hC.2.2.1]; exact hl.1) rfl (by rw [hC.2.1]; exact h_dec hC hd) hR.1 (by show 2 * 0 + ((st.map (h_rv α)).map fun v => v.category).sum + 14 ≤ _; rw [h_cat2]; omega) hcells (by rw [hsz]; exact hslots) (hloader := Vm.clonesLoader_of_array hkS hkindS)
  rw [hcellE, hsz] at X'
  generalize hH1 : H.push (vp_cell (D.2 .int) (n, .inl f)) = H1
  have z1 : H1.size = H.size + 1 := by rw [← hH1, Array.size_push]
  have e1 : H1[H.size]? = some (vp_cell (D.2 .int) (n, .inl f)) := by rw [← hH1, Array.getElem?_push_size]
  have o1 : ∀ q : Nat, q < H.size → H1[q]? = H[q]? := fun q hq => by rw [← hH1, Array.getElem?_push, if_neg (Nat.ne_of_lt hq)]
  obtain ⟨hW', hal⟩ := hW.push hnk hnk9 (e := .inl (.int, n, .inl f)) trivial (show va_at D.1 vwCl (H.size, h_re D α (.inl (.int, n, .inl f))) H1 from e1) z1 o1
  have hself : h_al α nk H.size nk = H.size := if_pos rfl
  have K := j_ext (l := l) (e := e) (below := below) kk hC hW' hup_mono hal hll (h_cl_cons (show h_ok (hup h nk _) nk from Or.inl (hup_some h nk _)) (h_cl_mono hup_mono (h_cl_tl hcl))) hl
  rw [List.map_cons, h_map_ext hal (h_cl_tl hcl)] at K
  have e9 : h_rv (h_al α nk H.size) (.ref nk) = .ref H.size := congrArg Value.ref hself
  rw [e9] at K
  obtain ⟨t, b1, b2⟩ := K _ (by rw [← hH1, ← hT]; rfl) X'
  refine ⟨t, stp t ?_, b2⟩
  rw [hT]
  exact b1
theorem j_castA {idx key n : Nat} {f : Nat → Int32} (hd : fnd (h_tab M) pc = some (.checkcast idx, 3)) (hp : pc + 3 = pc') (w1 : Cond.classLink (h_own M) idx "[I" ∈ lw_tbl) (hk : h key = some (.inl (.int, n, .inl f))) (kk : J M R Q cells slots h pc' ls (.ref key :: st)) : J M R Q cells slots h pc ls (.ref key :: st) := by
  subst hp
  intro p l e s m args below meth c H locs D α α0 h0 lsA hC hW hll hcl hl
  exact va_castA hC.1 hC.2.1 hC.2.2.2.1 (hC.2.2.2.2.1 _ (h_in w1 rfl)) (h_one hW.1 hk) 0 rfl (hC.2.2.2.2.2.2.2.2.1.1.2 0 _ rfl).2 (h_dec hC hd) (kk p l e s m args below meth c H locs D α α0 h0 lsA hC hW hll hcl hl)
theorem kS_316 : Cond.methodLink RJ7 316 ⟨"[I", "clone", "()Ljava/lang/Object;"⟩ ∈ lw_tbl := List.mem_of_getElem? (i := 483) (by decide +kernel)
theorem kS_same : Cond.sameMethod "[I" "java/lang/Object" "clone" "()Ljava/lang/Object;" ∈ lw_tbl := List.mem_of_getElem? (i := 484) (by decide +kernel)
theorem kS_nat : Cond.native ⟨"java/lang/Object", "clone", "()Ljava/lang/Object;"⟩ ∈ lw_tbl := List.mem_of_getElem? (i := 485) (by decide +kernel)
theorem kS_inst : Cond.instanceMethod ⟨"java/lang/Object", "clone", "()Ljava/lang/Object;"⟩ ∈ lw_tbl := List.mem_of_getElem? (i := 486) (by decide +kernel)
theorem kS_sel : Cond.selects "[I" ⟨"[I", "clone", "()Ljava/lang/Object;"⟩ ⟨"java/lang/Object", "clone", "()Ljava/lang/Object;"⟩ ∈ lw_tbl := List.mem_of_getElem? (i := 487) (by decide +kernel)
theorem kS_317 : Cond.classLink RJ7 317 "[I" ∈ lw_tbl := List.mem_of_getElem? (i := 489) (by decide +kernel)
def rJ7_copyOf : Room := { frames := 1, cells := 1, slots := 8, locals := 30 }
theorem s_copyOf {key nk : Nat} {f : Nat → Int32} {h : hH} (hk : h key = some (.inl (.int, 8, .inl f))) (hnk : h nk = none) (hnk9 : nk < 9000) : SpD mJ7_copyOf_59c91 rJ7_copyOf [.ref key, .int 8] h (some (.ref nk)) (hup h nk (.inl (.int, 8, .inl f))) := by
  refine sp_of miJ7_copyOf_59c91 (Nat.le_of_ble_eq_true rfl) ?_
  show J _ _ _ 0 0 _ 0 [(0, .ref key), (1, .int 8)] []
  refine j_iload_n (pc' := 1) rfl rfl rfl ?_
  refine j_aload_n (pc' := 2) rfl rfl rfl ?_
  refine j_alen (pc' := 3) (v := 8) (t0 := 0) rfl rfl hk (fun _ => rfl) (show Int32.ofNat 8 = 8 by decide) ?_
  refine j_icmp_ne (tgt := 14) (pc' := 6) rfl rfl rfl (fun c => absurd rfl c) (fun _ => ?_)
  refine j_aload_n (pc' := 7) rfl rfl rfl ?_
  refine j_clone (pc' := 10) rfl rfl kS_316 kS_same kS_nat kS_inst kS_sel hk hnk hnk9 ⟨Nat.le_of_ble_eq_true rfl, Nat.le_of_ble_eq_true rfl⟩ (Nat.le_of_ble_eq_true rfl) (Nat.le_of_ble_eq_true rfl) ?_
  refine j_castA (pc' := 13) rfl rfl kS_317 (hup_self _ _ _) ?_
  exact j_aret rfl rfl (Or.inr ⟨_, rfl⟩) (Or.inr ⟨_, rfl⟩) (Nat.le_of_ble_eq_true rfl) (Nat.le_of_ble_eq_true rfl) ⟨rfl, rfl⟩
end XCPY
end
