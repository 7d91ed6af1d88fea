section
-- ===== PART A: goes FIRST, ahead of the names: the tables' words, and 'selects' of the private methods out of them =====
/-- a private method of a class that the tables say can be made, by its rows of tables_1 -/
def lw_okq (q : MethodName × Nat) : Prop := (q.1.cls ≠ "java/lang/invoke/MethodHandle" ∧ q.1.cls ≠ "java/lang/invoke/VarHandle") ∧ Cond.instantiable q.1.cls q.2 ∈ tables_1 ∧ Cond.privateMethod q.1 ∈ tables_1 ∧ Cond.instanceMethod q.1 ∈ tables_1
theorem lw_p0 : lw_okq (⟨"NewSilver", "sortAt", "(I)LNewSilver$Sort;"⟩, 17) := ⟨⟨by decide +kernel, by decide +kernel⟩, List.mem_of_getElem? (i := 17) (by decide +kernel), List.mem_of_getElem? (i := 219) (by decide +kernel), List.mem_of_getElem? (i := 220) (by decide +kernel)⟩
theorem lw_p1 : lw_okq (⟨"NewSilver", "keepLot", "(LNewSilver$Lot;)I"⟩, 17) := ⟨⟨by decide +kernel, by decide +kernel⟩, List.mem_of_getElem? (i := 17) (by decide +kernel), List.mem_of_getElem? (i := 289) (by decide +kernel), List.mem_of_getElem? (i := 290) (by decide +kernel)⟩
theorem lw_p2 : lw_okq (⟨"NewSilver", "lotAt", "(I)LNewSilver$Lot;"⟩, 17) := ⟨⟨by decide +kernel, by decide +kernel⟩, List.mem_of_getElem? (i := 17) (by decide +kernel), List.mem_of_getElem? (i := 297) (by decide +kernel), List.mem_of_getElem? (i := 298) (by decide +kernel)⟩
theorem lw_p3 : lw_okq (⟨"NewSilver$Tape", "readClauses", "()Z"⟩, 5) := ⟨⟨by decide +kernel, by decide +kernel⟩, List.mem_of_getElem? (i := 31) (by decide +kernel), List.mem_of_getElem? (i := 346) (by decide +kernel), List.mem_of_getElem? (i := 347) (by decide +kernel)⟩
theorem lw_p4 : lw_okq (⟨"NewSilver$Tape", "readWord", "(Ljava/lang/String;)Z"⟩, 5) := ⟨⟨by decide +kernel, by decide +kernel⟩, List.mem_of_getElem? (i := 31) (by decide +kernel), List.mem_of_getElem? (i := 351) (by decide +kernel), List.mem_of_getElem? (i := 352) (by decide +kernel)⟩
theorem lw_p5 : lw_okq (⟨"NewSilver$Tape", "isHere", "(C)Z"⟩, 5) := ⟨⟨by decide +kernel, by decide +kernel⟩, List.mem_of_getElem? (i := 31) (by decide +kernel), List.mem_of_getElem? (i := 403) (by decide +kernel), List.mem_of_getElem? (i := 404) (by decide +kernel)⟩
theorem lw_p6 : lw_okq (⟨"NewSilver$Tape", "readClause", "()Z"⟩, 5) := ⟨⟨by decide +kernel, by decide +kernel⟩, List.mem_of_getElem? (i := 31) (by decide +kernel), List.mem_of_getElem? (i := 407) (by decide +kernel), List.mem_of_getElem? (i := 408) (by decide +kernel)⟩
theorem lw_p7 : lw_okq (⟨"NewSilver$Tape", "digitHere", "()I"⟩, 5) := ⟨⟨by decide +kernel, by decide +kernel⟩, List.mem_of_getElem? (i := 31) (by decide +kernel), List.mem_of_getElem? (i := 411) (by decide +kernel), List.mem_of_getElem? (i := 412) (by decide +kernel)⟩
theorem lw_p8 : lw_okq (⟨"NewSilver$Tape", "readNumber", "(II)I"⟩, 5) := ⟨⟨by decide +kernel, by decide +kernel⟩, List.mem_of_getElem? (i := 31) (by decide +kernel), List.mem_of_getElem? (i := 418) (by decide +kernel), List.mem_of_getElem? (i := 419) (by decide +kernel)⟩
theorem lw_p9 : lw_okq (⟨"NewSilver$Tape", "readWeight", "(I)Z"⟩, 5) := ⟨⟨by decide +kernel, by decide +kernel⟩, List.mem_of_getElem? (i := 31) (by decide +kernel), List.mem_of_getElem? (i := 422) (by decide +kernel), List.mem_of_getElem? (i := 423) (by decide +kernel)⟩
theorem lw_p10 : lw_okq (⟨"NewSilver", "orderAt", "(I)LNewSilver$Order;"⟩, 17) := ⟨⟨by decide +kernel, by decide +kernel⟩, List.mem_of_getElem? (i := 17) (by decide +kernel), List.mem_of_getElem? (i := 466) (by decide +kernel), List.mem_of_getElem? (i := 467) (by decide +kernel)⟩
theorem lw_p11 : lw_okq (⟨"NewSilver", "orderInForce", "(II)I"⟩, 17) := ⟨⟨by decide +kernel, by decide +kernel⟩, List.mem_of_getElem? (i := 17) (by decide +kernel), List.mem_of_getElem? (i := 474) (by decide +kernel), List.mem_of_getElem? (i := 475) (by decide +kernel)⟩
theorem lw_p12 : lw_okq (⟨"NewSilver", "reckonWorth", "(I)J"⟩, 17) := ⟨⟨by decide +kernel, by decide +kernel⟩, List.mem_of_getElem? (i := 17) (by decide +kernel), List.mem_of_getElem? (i := 504) (by decide +kernel), List.mem_of_getElem? (i := 505) (by decide +kernel)⟩
theorem lw_p13 : lw_okq (⟨"NewSilver", "payWorst", "()I"⟩, 17) := ⟨⟨by decide +kernel, by decide +kernel⟩, List.mem_of_getElem? (i := 17) (by decide +kernel), List.mem_of_getElem? (i := 508) (by decide +kernel), List.mem_of_getElem? (i := 509) (by decide +kernel)⟩
theorem lw_p14 : lw_okq (⟨"NewSilver", "potAt", "(I)LNewSilver$Pot;"⟩, 17) := ⟨⟨by decide +kernel, by decide +kernel⟩, List.mem_of_getElem? (i := 17) (by decide +kernel), List.mem_of_getElem? (i := 553) (by decide +kernel), List.mem_of_getElem? (i := 554) (by decide +kernel)⟩
theorem lw_p15 : lw_okq (⟨"NewSilver", "findFalse", "(I)V"⟩, 17) := ⟨⟨by decide +kernel, by decide +kernel⟩, List.mem_of_getElem? (i := 17) (by decide +kernel), List.mem_of_getElem? (i := 557) (by decide +kernel), List.mem_of_getElem? (i := 558) (by decide +kernel)⟩
def lw_privs_1 : List (MethodName × Nat) := [(⟨"NewSilver", "sortAt", "(I)LNewSilver$Sort;"⟩, 17), (⟨"NewSilver", "keepLot", "(LNewSilver$Lot;)I"⟩, 17), (⟨"NewSilver", "lotAt", "(I)LNewSilver$Lot;"⟩, 17), (⟨"NewSilver$Tape", "readClauses", "()Z"⟩, 5), (⟨"NewSilver$Tape", "readWord", "(Ljava/lang/String;)Z"⟩, 5), (⟨"NewSilver$Tape", "isHere", "(C)Z"⟩, 5), (⟨"NewSilver$Tape", "readClause", "()Z"⟩, 5), (⟨"NewSilver$Tape", "digitHere", "()I"⟩, 5), (⟨"NewSilver$Tape", "readNumber", "(II)I"⟩, 5), (⟨"NewSilver$Tape", "readWeight", "(I)Z"⟩, 5), (⟨"NewSilver", "orderAt", "(I)LNewSilver$Order;"⟩, 17), (⟨"NewSilver", "orderInForce", "(II)I"⟩, 17), (⟨"NewSilver", "reckonWorth", "(I)J"⟩, 17), (⟨"NewSilver", "payWorst", "()I"⟩, 17), (⟨"NewSilver", "potAt", "(I)LNewSilver$Pot;"⟩, 17), (⟨"NewSilver", "findFalse", "(I)V"⟩, 17)]
theorem lw_r1 : ∀ q ∈ lw_privs_1, lw_okq q := List.forall_mem_cons.mpr ⟨lw_p0, List.forall_mem_cons.mpr ⟨lw_p1, List.forall_mem_cons.mpr ⟨lw_p2, List.forall_mem_cons.mpr ⟨lw_p3, List.forall_mem_cons.mpr ⟨lw_p4, List.forall_mem_cons.mpr ⟨lw_p5, List.forall_mem_cons.mpr ⟨lw_p6, List.forall_mem_cons.mpr ⟨lw_p7, List.forall_mem_cons.mpr ⟨lw_p8, List.forall_mem_cons.mpr ⟨lw_p9, List.forall_mem_cons.mpr ⟨lw_p10, List.forall_mem_cons.mpr ⟨lw_p11, List.forall_mem_cons.mpr ⟨lw_p12, List.forall_mem_cons.mpr ⟨lw_p13, List.forall_mem_cons.mpr ⟨lw_p14, List.forall_mem_cons.mpr ⟨lw_p15, fun _ h => absurd h List.not_mem_nil⟩⟩⟩⟩⟩⟩⟩⟩⟩⟩⟩⟩⟩⟩⟩⟩
theorem lw_p16 : lw_okq (⟨"NewSilver$Carrier", "findWays", "([I)V"⟩, 7) := ⟨⟨by decide +kernel, by decide +kernel⟩, List.mem_of_getElem? (i := 60) (by decide +kernel), List.mem_of_getElem? (i := 629) (by decide +kernel), List.mem_of_getElem? (i := 630) (by decide +kernel)⟩
theorem lw_p17 : lw_okq (⟨"NewSilver$Carrier", "goOn", "(I[I)V"⟩, 7) := ⟨⟨by decide +kernel, by decide +kernel⟩, List.mem_of_getElem? (i := 60) (by decide +kernel), List.mem_of_getElem? (i := 634) (by decide +kernel), List.mem_of_getElem? (i := 635) (by decide +kernel)⟩
theorem lw_p18 : lw_okq (⟨"NewSilver$Carrier", "takeBack", "(I[I)Z"⟩, 7) := ⟨⟨by decide +kernel, by decide +kernel⟩, List.mem_of_getElem? (i := 60) (by decide +kernel), List.mem_of_getElem? (i := 638) (by decide +kernel), List.mem_of_getElem? (i := 639) (by decide +kernel)⟩
theorem lw_p19 : lw_okq (⟨"NewSilver$Carrier", "cheapestTown", "()I"⟩, 7) := ⟨⟨by decide +kernel, by decide +kernel⟩, List.mem_of_getElem? (i := 60) (by decide +kernel), List.mem_of_getElem? (i := 642) (by decide +kernel), List.mem_of_getElem? (i := 643) (by decide +kernel)⟩
theorem lw_p20 : lw_okq (⟨"NewSilver$Carrier", "roomOfWay", "(I)I"⟩, 7) := ⟨⟨by decide +kernel, by decide +kernel⟩, List.mem_of_getElem? (i := 60) (by decide +kernel), List.mem_of_getElem? (i := 646) (by decide +kernel), List.mem_of_getElem? (i := 647) (by decide +kernel)⟩
theorem lw_p21 : lw_okq (⟨"NewSilver$Carrier", "carry", "(II)V"⟩, 7) := ⟨⟨by decide +kernel, by decide +kernel⟩, List.mem_of_getElem? (i := 60) (by decide +kernel), List.mem_of_getElem? (i := 653) (by decide +kernel), List.mem_of_getElem? (i := 654) (by decide +kernel)⟩
theorem lw_p22 : lw_okq (⟨"NewSilver", "countMelted", "()I"⟩, 17) := ⟨⟨by decide +kernel, by decide +kernel⟩, List.mem_of_getElem? (i := 17) (by decide +kernel), List.mem_of_getElem? (i := 669) (by decide +kernel), List.mem_of_getElem? (i := 670) (by decide +kernel)⟩
theorem lw_p23 : lw_okq (⟨"NewSilver", "countOnRoads", "()I"⟩, 17) := ⟨⟨by decide +kernel, by decide +kernel⟩, List.mem_of_getElem? (i := 17) (by decide +kernel), List.mem_of_getElem? (i := 673) (by decide +kernel), List.mem_of_getElem? (i := 674) (by decide +kernel)⟩
theorem lw_p24 : lw_okq (⟨"NewSilver", "countInChests", "()I"⟩, 17) := ⟨⟨by decide +kernel, by decide +kernel⟩, List.mem_of_getElem? (i := 17) (by decide +kernel), List.mem_of_getElem? (i := 677) (by decide +kernel), List.mem_of_getElem? (i := 678) (by decide +kernel)⟩
theorem lw_p25 : lw_okq (⟨"NewSilverModel", "isSort", "(I)Z"⟩, 49) := ⟨⟨by decide +kernel, by decide +kernel⟩, List.mem_of_getElem? (i := 681) (by decide +kernel), List.mem_of_getElem? (i := 847) (by decide +kernel), List.mem_of_getElem? (i := 848) (by decide +kernel)⟩
theorem lw_p26 : lw_okq (⟨"NewSilverModel", "isWeight", "(IIII)Z"⟩, 49) := ⟨⟨by decide +kernel, by decide +kernel⟩, List.mem_of_getElem? (i := 681) (by decide +kernel), List.mem_of_getElem? (i := 854) (by decide +kernel), List.mem_of_getElem? (i := 855) (by decide +kernel)⟩
theorem lw_p27 : lw_okq (⟨"NewSilverModel", "newLot", "(IIIIIII)I"⟩, 49) := ⟨⟨by decide +kernel, by decide +kernel⟩, List.mem_of_getElem? (i := 681) (by decide +kernel), List.mem_of_getElem? (i := 858) (by decide +kernel), List.mem_of_getElem? (i := 859) (by decide +kernel)⟩
theorem lw_p28 : lw_okq (⟨"NewSilverModel", "isLot", "(I)Z"⟩, 49) := ⟨⟨by decide +kernel, by decide +kernel⟩, List.mem_of_getElem? (i := 681) (by decide +kernel), List.mem_of_getElem? (i := 866) (by decide +kernel), List.mem_of_getElem? (i := 867) (by decide +kernel)⟩
theorem lw_p29 : lw_okq (⟨"NewSilverModel", "fine", "(I)I"⟩, 49) := ⟨⟨by decide +kernel, by decide +kernel⟩, List.mem_of_getElem? (i := 681) (by decide +kernel), List.mem_of_getElem? (i := 874) (by decide +kernel), List.mem_of_getElem? (i := 875) (by decide +kernel)⟩
theorem lw_p30 : lw_okq (⟨"NewSilverModel", "isUnderWay", "(I)Z"⟩, 49) := ⟨⟨by decide +kernel, by decide +kernel⟩, List.mem_of_getElem? (i := 681) (by decide +kernel), List.mem_of_getElem? (i := 878) (by decide +kernel), List.mem_of_getElem? (i := 879) (by decide +kernel)⟩
theorem lw_p31 : lw_okq (⟨"NewSilverModel", "silverOf", "(I)J"⟩, 49) := ⟨⟨by decide +kernel, by decide +kernel⟩, List.mem_of_getElem? (i := 681) (by decide +kernel), List.mem_of_getElem? (i := 886) (by decide +kernel), List.mem_of_getElem? (i := 887) (by decide +kernel)⟩
def lw_privs_2 : List (MethodName × Nat) := [(⟨"NewSilver$Carrier", "findWays", "([I)V"⟩, 7), (⟨"NewSilver$Carrier", "goOn", "(I[I)V"⟩, 7), (⟨"NewSilver$Carrier", "takeBack", "(I[I)Z"⟩, 7), (⟨"NewSilver$Carrier", "cheapestTown", "()I"⟩, 7), (⟨"NewSilver$Carrier", "roomOfWay", "(I)I"⟩, 7), (⟨"NewSilver$Carrier", "carry", "(II)V"⟩, 7), (⟨"NewSilver", "countMelted", "()I"⟩, 17), (⟨"NewSilver", "countOnRoads", "()I"⟩, 17), (⟨"NewSilver", "countInChests", "()I"⟩, 17), (⟨"NewSilverModel", "isSort", "(I)Z"⟩, 49), (⟨"NewSilverModel", "isWeight", "(IIII)Z"⟩, 49), (⟨"NewSilverModel", "newLot", "(IIIIIII)I"⟩, 49), (⟨"NewSilverModel", "isLot", "(I)Z"⟩, 49), (⟨"NewSilverModel", "fine", "(I)I"⟩, 49), (⟨"NewSilverModel", "isUnderWay", "(I)Z"⟩, 49), (⟨"NewSilverModel", "silverOf", "(I)J"⟩, 49)]
theorem lw_r2 : ∀ q ∈ lw_privs_2, lw_okq q := List.forall_mem_cons.mpr ⟨lw_p16, List.forall_mem_cons.mpr ⟨lw_p17, List.forall_mem_cons.mpr ⟨lw_p18, List.forall_mem_cons.mpr ⟨lw_p19, List.forall_mem_cons.mpr ⟨lw_p20, List.forall_mem_cons.mpr ⟨lw_p21, List.forall_mem_cons.mpr ⟨lw_p22, List.forall_mem_cons.mpr ⟨lw_p23, List.forall_mem_cons.mpr ⟨lw_p24, List.forall_mem_cons.mpr ⟨lw_p25, List.forall_mem_cons.mpr ⟨lw_p26, List.forall_mem_cons.mpr ⟨lw_p27, List.forall_mem_cons.mpr ⟨lw_p28, List.forall_mem_cons.mpr ⟨lw_p29, List.forall_mem_cons.mpr ⟨lw_p30, List.forall_mem_cons.mpr ⟨lw_p31, fun _ h => absurd h List.not_mem_nil⟩⟩⟩⟩⟩⟩⟩⟩⟩⟩⟩⟩⟩⟩⟩⟩
theorem lw_p32 : lw_okq (⟨"NewSilverModel", "clause", "(I)Z"⟩, 49) := ⟨⟨by decide +kernel, by decide +kernel⟩, List.mem_of_getElem? (i := 681) (by decide +kernel), List.mem_of_getElem? (i := 903) (by decide +kernel), List.mem_of_getElem? (i := 904) (by decide +kernel)⟩
theorem lw_p33 : lw_okq (⟨"NewSilverModel", "takesIs", "()Z"⟩, 49) := ⟨⟨by decide +kernel, by decide +kernel⟩, List.mem_of_getElem? (i := 681) (by decide +kernel), List.mem_of_getElem? (i := 907) (by decide +kernel), List.mem_of_getElem? (i := 908) (by decide +kernel)⟩
theorem lw_p34 : lw_okq (⟨"NewSilverModel", "takes", "(I)Z"⟩, 49) := ⟨⟨by decide +kernel, by decide +kernel⟩, List.mem_of_getElem? (i := 681) (by decide +kernel), List.mem_of_getElem? (i := 911) (by decide +kernel), List.mem_of_getElem? (i := 912) (by decide +kernel)⟩
theorem lw_p35 : lw_okq (⟨"NewSilverModel", "takesNumber", "(II)Z"⟩, 49) := ⟨⟨by decide +kernel, by decide +kernel⟩, List.mem_of_getElem? (i := 681) (by decide +kernel), List.mem_of_getElem? (i := 915) (by decide +kernel), List.mem_of_getElem? (i := 916) (by decide +kernel)⟩
theorem lw_p36 : lw_okq (⟨"NewSilverModel", "digitAt", "(I)Z"⟩, 49) := ⟨⟨by decide +kernel, by decide +kernel⟩, List.mem_of_getElem? (i := 681) (by decide +kernel), List.mem_of_getElem? (i := 919) (by decide +kernel), List.mem_of_getElem? (i := 920) (by decide +kernel)⟩
theorem lw_p37 : lw_okq (⟨"NewSilverModel", "takesWeight", "()Z"⟩, 49) := ⟨⟨by decide +kernel, by decide +kernel⟩, List.mem_of_getElem? (i := 681) (by decide +kernel), List.mem_of_getElem? (i := 923) (by decide +kernel), List.mem_of_getElem? (i := 924) (by decide +kernel)⟩
theorem lw_p38 : lw_okq (⟨"NewSilverModel", "isOrder", "(I)Z"⟩, 49) := ⟨⟨by decide +kernel, by decide +kernel⟩, List.mem_of_getElem? (i := 681) (by decide +kernel), List.mem_of_getElem? (i := 931) (by decide +kernel), List.mem_of_getElem? (i := 932) (by decide +kernel)⟩
theorem lw_p39 : lw_okq (⟨"NewSilverModel", "forceIn", "(II)I"⟩, 49) := ⟨⟨by decide +kernel, by decide +kernel⟩, List.mem_of_getElem? (i := 681) (by decide +kernel), List.mem_of_getElem? (i := 939) (by decide +kernel), List.mem_of_getElem? (i := 940) (by decide +kernel)⟩
theorem lw_p40 : lw_okq (⟨"NewSilverModel", "passes", "(III)I"⟩, 49) := ⟨⟨by decide +kernel, by decide +kernel⟩, List.mem_of_getElem? (i := 681) (by decide +kernel), List.mem_of_getElem? (i := 947) (by decide +kernel), List.mem_of_getElem? (i := 948) (by decide +kernel)⟩
theorem lw_p41 : lw_okq (⟨"NewSilverModel", "isDrawn", "(III)Z"⟩, 49) := ⟨⟨by decide +kernel, by decide +kernel⟩, List.mem_of_getElem? (i := 681) (by decide +kernel), List.mem_of_getElem? (i := 955) (by decide +kernel), List.mem_of_getElem? (i := 956) (by decide +kernel)⟩
theorem lw_p42 : lw_okq (⟨"NewSilverModel", "lowest", "(I)I"⟩, 49) := ⟨⟨by decide +kernel, by decide +kernel⟩, List.mem_of_getElem? (i := 681) (by decide +kernel), List.mem_of_getElem? (i := 959) (by decide +kernel), List.mem_of_getElem? (i := 960) (by decide +kernel)⟩
theorem lw_p43 : lw_okq (⟨"NewSilverModel", "isThere", "(II)Z"⟩, 49) := ⟨⟨by decide +kernel, by decide +kernel⟩, List.mem_of_getElem? (i := 681) (by decide +kernel), List.mem_of_getElem? (i := 968) (by decide +kernel), List.mem_of_getElem? (i := 969) (by decide +kernel)⟩
theorem lw_p44 : lw_okq (⟨"NewSilverModel", "isWorse", "(III)Z"⟩, 49) := ⟨⟨by decide +kernel, by decide +kernel⟩, List.mem_of_getElem? (i := 681) (by decide +kernel), List.mem_of_getElem? (i := 972) (by decide +kernel), List.mem_of_getElem? (i := 973) (by decide +kernel)⟩
theorem lw_p45 : lw_okq (⟨"NewSilverModel", "isAtMint", "(I)Z"⟩, 49) := ⟨⟨by decide +kernel, by decide +kernel⟩, List.mem_of_getElem? (i := 681) (by decide +kernel), List.mem_of_getElem? (i := 1007) (by decide +kernel), List.mem_of_getElem? (i := 1008) (by decide +kernel)⟩
theorem lw_p46 : lw_okq (⟨"NewSilverModel", "meltedToday", "(I)I"⟩, 49) := ⟨⟨by decide +kernel, by decide +kernel⟩, List.mem_of_getElem? (i := 681) (by decide +kernel), List.mem_of_getElem? (i := 1015) (by decide +kernel), List.mem_of_getElem? (i := 1016) (by decide +kernel)⟩
theorem lw_p47 : lw_okq (⟨"NewSilverModel", "sendOne", "()I"⟩, 49) := ⟨⟨by decide +kernel, by decide +kernel⟩, List.mem_of_getElem? (i := 681) (by decide +kernel), List.mem_of_getElem? (i := 1054) (by decide +kernel), List.mem_of_getElem? (i := 1055) (by decide +kernel)⟩
def lw_privs_3 : List (MethodName × Nat) := [(⟨"NewSilverModel", "clause", "(I)Z"⟩, 49), (⟨"NewSilverModel", "takesIs", "()Z"⟩, 49), (⟨"NewSilverModel", "takes", "(I)Z"⟩, 49), (⟨"NewSilverModel", "takesNumber", "(II)Z"⟩, 49), (⟨"NewSilverModel", "digitAt", "(I)Z"⟩, 49), (⟨"NewSilverModel", "takesWeight", "()Z"⟩, 49), (⟨"NewSilverModel", "isOrder", "(I)Z"⟩, 49), (⟨"NewSilverModel", "forceIn", "(II)I"⟩, 49), (⟨"NewSilverModel", "passes", "(III)I"⟩, 49), (⟨"NewSilverModel", "isDrawn", "(III)Z"⟩, 49), (⟨"NewSilverModel", "lowest", "(I)I"⟩, 49), (⟨"NewSilverModel", "isThere", "(II)Z"⟩, 49), (⟨"NewSilverModel", "isWorse", "(III)Z"⟩, 49), (⟨"NewSilverModel", "isAtMint", "(I)Z"⟩, 49), (⟨"NewSilverModel", "meltedToday", "(I)I"⟩, 49), (⟨"NewSilverModel", "sendOne", "()I"⟩, 49)]
theorem lw_r3 : ∀ q ∈ lw_privs_3, lw_okq q := List.forall_mem_cons.mpr ⟨lw_p32, List.forall_mem_cons.mpr ⟨lw_p33, List.forall_mem_cons.mpr ⟨lw_p34, List.forall_mem_cons.mpr ⟨lw_p35, List.forall_mem_cons.mpr ⟨lw_p36, List.forall_mem_cons.mpr ⟨lw_p37, List.forall_mem_cons.mpr ⟨lw_p38, List.forall_mem_cons.mpr ⟨lw_p39, List.forall_mem_cons.mpr ⟨lw_p40, List.forall_mem_cons.mpr ⟨lw_p41, List.forall_mem_cons.mpr ⟨lw_p42, List.forall_mem_cons.mpr ⟨lw_p43, List.forall_mem_cons.mpr ⟨lw_p44, List.forall_mem_cons.mpr ⟨lw_p45, List.forall_mem_cons.mpr ⟨lw_p46, List.forall_mem_cons.mpr ⟨lw_p47, fun _ h => absurd h List.not_mem_nil⟩⟩⟩⟩⟩⟩⟩⟩⟩⟩⟩⟩⟩⟩⟩⟩
theorem lw_p48 : lw_okq (⟨"NewSilverModel", "findFar", "()V"⟩, 49) := ⟨⟨by decide +kernel, by decide +kernel⟩, List.mem_of_getElem? (i := 681) (by decide +kernel), List.mem_of_getElem? (i := 1058) (by decide +kernel), List.mem_of_getElem? (i := 1059) (by decide +kernel)⟩
def lw_privs_4 : List (MethodName × Nat) := [(⟨"NewSilverModel", "findFar", "()V"⟩, 49)]
theorem lw_r4 : ∀ q ∈ lw_privs_4, lw_okq q := List.forall_mem_cons.mpr ⟨lw_p48, fun _ h => absurd h List.not_mem_nil⟩
def lw_privs : List (MethodName × Nat) := lw_privs_1 ++ (lw_privs_2 ++ (lw_privs_3 ++ (lw_privs_4)))
def lw_tbl : List Cond := k2_sels lw_privs ++ tables_1
theorem lw_privs_ok : ∀ q ∈ lw_privs, lw_okq q := by
  show ∀ q ∈ lw_privs_1 ++ (lw_privs_2 ++ (lw_privs_3 ++ (lw_privs_4))), lw_okq q
  exact List.forall_mem_append.mpr ⟨lw_r1, List.forall_mem_append.mpr ⟨lw_r2, List.forall_mem_append.mpr ⟨lw_r3, lw_r4⟩⟩⟩
-- ===== names, by program =====
def RX0 : String := "NewSilver$Carrier"
def TX0 : u_T := fun k => match k with
  | 0 => ("NewSilver$Carrier", "left", "[I", true)
  | 1 => ("NewSilver$Carrier", "wanted", "[I", true)
  | 2 => ("NewSilver$Carrier", "carried", "[I", true)
  | 3 => ("NewSilver$Carrier", "mintCost", "[I", true)
  | 4 => ("NewSilver$Carrier", "townCost", "[I", true)
  | 5 => ("NewSilver$Carrier", "townBefore", "[I", true)
  | _ => ("NewSilver$Carrier", "mintBefore", "[I", true)
def tyX0 : Nat → FieldType := fun k => match k with
  | 0 => .array .int
  | 1 => .array .int
  | 2 => .array .int
  | 3 => .array .int
  | 4 => .array .int
  | 5 => .array .int
  | _ => .array .int
abbrev wsX00 : List Cond := u_ws RX0 TX0 7
theorem nmX0 : ∀ a, a < 7 → ∀ b, b < 7 → a ≠ b → (TX0 a).2.1 ≠ (TX0 b).2.1 := by decide +kernel
theorem tyX0_ok : ∀ k, k < 7 → parseFieldDescriptor (TX0 k).2.2.1 = some (tyX0 k) := by decide +kernel
abbrev cX0_init : ByteArray := prog_2_method_1_code
def yX0_init : MethodName := ⟨RX0, "<init>", "()V"⟩
abbrev cX0_leastCost : ByteArray := prog_2_method_2_code
def yX0_leastCost : MethodName := ⟨RX0, "leastCost", "([I[I[I)I"⟩
abbrev cX0_findWays : ByteArray := prog_2_method_3_code
def yX0_findWays : MethodName := ⟨RX0, "findWays", "([I)V"⟩
abbrev cX0_goOn : ByteArray := prog_2_method_4_code
def yX0_goOn : MethodName := ⟨RX0, "goOn", "(I[I)V"⟩
abbrev cX0_takeBack : ByteArray := prog_2_method_5_code
def yX0_takeBack : MethodName := ⟨RX0, "takeBack", "(I[I)Z"⟩
abbrev cX0_cheapestTown : ByteArray := prog_2_method_6_code
def yX0_cheapestTown : MethodName := ⟨RX0, "cheapestTown", "()I"⟩
abbrev cX0_roomOfWay : ByteArray := prog_2_method_7_code
def yX0_roomOfWay : MethodName := ⟨RX0, "roomOfWay", "(I)I"⟩
abbrev cX0_carry : ByteArray := prog_2_method_8_code
def yX0_carry : MethodName := ⟨RX0, "carry", "(II)V"⟩
def RX1 : String := "NewSilver$Lot"
def TX1 : u_T := fun k => match k with
  | 0 => ("NewSilver$Lot", "sortNumber", "I", true)
  | 1 => ("NewSilver$Lot", "sort", "LNewSilver$Sort;", true)
  | 2 => ("NewSilver$Lot", "coins", "I", true)
  | 3 => ("NewSilver$Lot", "fine", "I", true)
  | 4 => ("NewSilver$Lot", "kind", "I", false)
  | 5 => ("NewSilver$Lot", "weight", "I", false)
  | 6 => ("NewSilver$Lot", "town", "I", false)
  | 7 => ("NewSilver$Lot", "mint", "I", false)
  | 8 => ("NewSilver$Lot", "comes", "I", false)
  | 9 => ("NewSilver$Lot", "melted", "Z", false)
  | 10 => ("NewSilver$Lot", "inChest", "Z", false)
  | _ => ("NewSilver$Lot", "found", "Z", false)
def tyX1 : Nat → FieldType := fun k => match k with
  | 0 => .int
  | 1 => .object "NewSilver$Sort"
  | 2 => .int
  | 3 => .int
  | 4 => .int
  | 5 => .int
  | 6 => .int
  | 7 => .int
  | 8 => .int
  | 9 => .boolean
  | 10 => .boolean
  | _ => .boolean
abbrev wsX10 : List Cond := u_ws RX1 TX1 12
theorem nmX1 : ∀ a, a < 12 → ∀ b, b < 12 → a ≠ b → (TX1 a).2.1 ≠ (TX1 b).2.1 := by decide +kernel
theorem tyX1_ok : ∀ k, k < 12 → parseFieldDescriptor (TX1 k).2.2.1 = some (tyX1 k) := by decide +kernel
abbrev cX1_init : ByteArray := prog_3_method_1_code
def yX1_init : MethodName := ⟨RX1, "<init>", "(IILNewSilver$Sort;III)V"⟩
abbrev cX1_silverHeld : ByteArray := prog_3_method_2_code
def yX1_silverHeld : MethodName := ⟨RX1, "silverHeld", "()J"⟩
abbrev cX1_isSealedBag : ByteArray := prog_3_method_3_code
def yX1_isSealedBag : MethodName := ⟨RX1, "isSealedBag", "()Z"⟩
abbrev cX1_isOnRoad : ByteArray := prog_3_method_4_code
def yX1_isOnRoad : MethodName := ⟨RX1, "isOnRoad", "(I)Z"⟩
abbrev cX1_vanish : ByteArray := prog_3_method_5_code
def yX1_vanish : MethodName := ⟨RX1, "vanish", "()V"⟩
abbrev cX1_canDraw : ByteArray := prog_3_method_6_code
def yX1_canDraw : MethodName := ⟨RX1, "canDraw", "(II)Z"⟩
abbrev cX1_leastDrawn : ByteArray := prog_3_method_7_code
def yX1_leastDrawn : MethodName := ⟨RX1, "leastDrawn", "(II)I"⟩
abbrev cX1_mostDrawn : ByteArray := prog_3_method_8_code
def yX1_mostDrawn : MethodName := ⟨RX1, "mostDrawn", "(II)I"⟩
def RX2 : String := "NewSilver$Order"
def TX2 : u_T := fun k => match k with
  | 0 => ("NewSilver$Order", "pence", "[I", true)
  | 1 => ("NewSilver$Order", "grains", "[I", true)
  | _ => ("NewSilver$Order", "told", "[I", true)
def tyX2 : Nat → FieldType := fun k => match k with
  | 0 => .array .int
  | 1 => .array .int
  | _ => .array .int
abbrev wsX20 : List Cond := u_ws RX2 TX2 3
theorem nmX2 : ∀ a, a < 3 → ∀ b, b < 3 → a ≠ b → (TX2 a).2.1 ≠ (TX2 b).2.1 := by decide +kernel
theorem tyX2_ok : ∀ k, k < 3 → parseFieldDescriptor (TX2 k).2.2.1 = some (tyX2 k) := by decide +kernel
abbrev cX2_init : ByteArray := prog_4_method_1_code
def yX2_init : MethodName := ⟨RX2, "<init>", "([I[I)V"⟩
def RX3 : String := "NewSilver$Pot"
def TX3 : u_T := fun k => match k with
  | 0 => ("NewSilver$Pot", "grains", "J", false)
  | 1 => ("NewSilver$Pot", "silver", "J", false)
  | 2 => ("NewSilver$Pot", "refined", "Z", false)
  | 3 => ("NewSilver$Pot", "copper", "J", false)
  | 4 => ("NewSilver$Pot", "treasure", "J", false)
  | 5 => ("NewSilver$Pot", "wentOff", "J", false)
  | 6 => ("NewSilver$Pot", "furnace", "I", false)
  | 7 => ("NewSilver$Pot", "melted", "I", false)
  | _ => ("NewSilver$Pot", "meltingDay", "I", false)
def tyX3 : Nat → FieldType := fun k => match k with
  | 0 => .long
  | 1 => .long
  | 2 => .boolean
  | 3 => .long
  | 4 => .long
  | 5 => .long
  | 6 => .int
  | 7 => .int
  | _ => .int
abbrev wsX30 : List Cond := u_ws RX3 TX3 9
theorem nmX3 : ∀ a, a < 9 → ∀ b, b < 9 → a ≠ b → (TX3 a).2.1 ≠ (TX3 b).2.1 := by decide +kernel
theorem tyX3_ok : ∀ k, k < 9 → parseFieldDescriptor (TX3 k).2.2.1 = some (tyX3 k) := by decide +kernel
abbrev cX3_init : ByteArray := prog_5_method_1_code
def yX3_init : MethodName := ⟨RX3, "<init>", "()V"⟩
abbrev cX3_meltedOn : ByteArray := prog_5_method_2_code
def yX3_meltedOn : MethodName := ⟨RX3, "meltedOn", "(I)I"⟩
abbrev cX3_takeIn : ByteArray := prog_5_method_3_code
def yX3_takeIn : MethodName := ⟨RX3, "takeIn", "(IJI)V"⟩
abbrev cX3_bringToLaw : ByteArray := prog_5_method_4_code
def yX3_bringToLaw : MethodName := ⟨RX3, "bringToLaw", "()J"⟩
abbrev cX3_pourOut : ByteArray := prog_5_method_5_code
def yX3_pourOut : MethodName := ⟨RX3, "pourOut", "(I)V"⟩
def RX4 : String := "NewSilver$Sort"
def TX4 : u_T := fun k => match k with
  | 0 => ("NewSilver$Sort", "least", "I", true)
  | 1 => ("NewSilver$Sort", "most", "I", true)
  | 2 => ("NewSilver$Sort", "fine", "I", true)
  | _ => ("NewSilver$Sort", "value", "I", true)
def tyX4 : Nat → FieldType := fun k => match k with
  | 0 => .int
  | 1 => .int
  | 2 => .int
  | _ => .int
abbrev wsX40 : List Cond := u_ws RX4 TX4 4
theorem nmX4 : ∀ a, a < 4 → ∀ b, b < 4 → a ≠ b → (TX4 a).2.1 ≠ (TX4 b).2.1 := by decide +kernel
theorem tyX4_ok : ∀ k, k < 4 → parseFieldDescriptor (TX4 k).2.2.1 = some (tyX4 k) := by decide +kernel
abbrev cX4_init : ByteArray := prog_6_method_1_code
def yX4_init : MethodName := ⟨RX4, "<init>", "(IIII)V"⟩
abbrev cX4_leastOfCoin : ByteArray := prog_6_method_2_code
def yX4_leastOfCoin : MethodName := ⟨RX4, "leastOfCoin", "(I)I"⟩
def RX5 : String := "NewSilver$Tape"
def TX5 : u_T := fun k => match k with
  | 0 => ("NewSilver$Tape", "pence", "[I", true)
  | 1 => ("NewSilver$Tape", "grains", "[I", true)
  | 2 => ("NewSilver$Tape", "length", "I", false)
  | 3 => ("NewSilver$Tape", "bytes", "[B", true)
  | _ => ("NewSilver$Tape", "at", "I", false)
def tyX5 : Nat → FieldType := fun k => match k with
  | 0 => .array .int
  | 1 => .array .int
  | 2 => .int
  | 3 => .array .byte
  | _ => .int
abbrev wsX50 : List Cond := u_ws RX5 TX5 5
theorem nmX5 : ∀ a, a < 5 → ∀ b, b < 5 → a ≠ b → (TX5 a).2.1 ≠ (TX5 b).2.1 := by decide +kernel
theorem tyX5_ok : ∀ k, k < 5 → parseFieldDescriptor (TX5 k).2.2.1 = some (tyX5 k) := by decide +kernel
abbrev cX5_init : ByteArray := prog_7_method_1_code
def yX5_init : MethodName := ⟨RX5, "<init>", "()V"⟩
abbrev cX5_append : ByteArray := prog_7_method_2_code
def yX5_append : MethodName := ⟨RX5, "append", "(JI)Z"⟩
abbrev cX5_findFault : ByteArray := prog_7_method_3_code
def yX5_findFault : MethodName := ⟨RX5, "findFault", "()I"⟩
abbrev cX5_readClauses : ByteArray := prog_7_method_4_code
def yX5_readClauses : MethodName := ⟨RX5, "readClauses", "()Z"⟩
abbrev cX5_readClause : ByteArray := prog_7_method_5_code
def yX5_readClause : MethodName := ⟨RX5, "readClause", "()Z"⟩
abbrev cX5_readWeight : ByteArray := prog_7_method_6_code
def yX5_readWeight : MethodName := ⟨RX5, "readWeight", "(I)Z"⟩
abbrev cX5_readWord : ByteArray := prog_7_method_7_code
def yX5_readWord : MethodName := ⟨RX5, "readWord", "(Ljava/lang/String;)Z"⟩
abbrev cX5_readNumber : ByteArray := prog_7_method_8_code
def yX5_readNumber : MethodName := ⟨RX5, "readNumber", "(II)I"⟩
abbrev cX5_isHere : ByteArray := prog_7_method_9_code
def yX5_isHere : MethodName := ⟨RX5, "isHere", "(C)Z"⟩
abbrev cX5_digitHere : ByteArray := prog_7_method_10_code
def yX5_digitHere : MethodName := ⟨RX5, "digitHere", "()I"⟩
def RX6 : String := "NewSilver"
def TX6 : u_T := fun k => match k with
  | 0 => ("NewSilver", "sorts", "[LNewSilver$Sort;", true)
  | 1 => ("NewSilver", "sortCount", "I", false)
  | 2 => ("NewSilver", "lots", "[LNewSilver$Lot;", true)
  | 3 => ("NewSilver", "lotCount", "I", false)
  | 4 => ("NewSilver", "orders", "[LNewSilver$Order;", true)
  | 5 => ("NewSilver", "orderCount", "I", false)
  | 6 => ("NewSilver", "tape", "LNewSilver$Tape;", true)
  | 7 => ("NewSilver", "pots", "[LNewSilver$Pot;", true)
  | 8 => ("NewSilver", "roadDays", "[I", true)
  | 9 => ("NewSilver", "credits", "[J", true)
  | 10 => ("NewSilver", "payment", "[I", true)
  | 11 => ("NewSilver", "paymentCount", "I", false)
  | 12 => ("NewSilver", "worth", "[I", true)
  | 13 => ("NewSilver", "gives", "[I", true)
  | 14 => ("NewSilver", "needs", "[I", true)
  | 15 => ("NewSilver", "carrier", "LNewSilver$Carrier;", true)
  | _ => ("NewSilver", "thisDay", "I", false)
def tyX6 : Nat → FieldType := fun k => match k with
  | 0 => .array (.object "NewSilver$Sort")
  | 1 => .int
  | 2 => .array (.object "NewSilver$Lot")
  | 3 => .int
  | 4 => .array (.object "NewSilver$Order")
  | 5 => .int
  | 6 => .object "NewSilver$Tape"
  | 7 => .array (.object "NewSilver$Pot")
  | 8 => .array .int
  | 9 => .array .long
  | 10 => .array .int
  | 11 => .int
  | 12 => .array .int
  | 13 => .array .int
  | 14 => .array .int
  | 15 => .object "NewSilver$Carrier"
  | _ => .int
abbrev wsX60 : List Cond := u_ws RX6 TX6 17
theorem nmX6 : ∀ a, a < 17 → ∀ b, b < 17 → a ≠ b → (TX6 a).2.1 ≠ (TX6 b).2.1 := by decide +kernel
theorem tyX6_ok : ∀ k, k < 17 → parseFieldDescriptor (TX6 k).2.2.1 = some (tyX6 k) := by decide +kernel
abbrev cX6_init : ByteArray := prog_1_method_1_code
def yX6_init : MethodName := ⟨RX6, "<init>", "()V"⟩
abbrev cX6_sort : ByteArray := prog_1_method_2_code
def yX6_sort : MethodName := ⟨RX6, "sort", "(IIII)I"⟩
abbrev cX6_lot : ByteArray := prog_1_method_3_code
def yX6_lot : MethodName := ⟨RX6, "lot", "(IIIIII)I"⟩
abbrev cX6_open : ByteArray := prog_1_method_4_code
def yX6_open : MethodName := ⟨RX6, "open", "(II)I"⟩
abbrev cX6_about : ByteArray := prog_1_method_5_code
def yX6_about : MethodName := ⟨RX6, "about", "(II)I"⟩
abbrev cX6_silver : ByteArray := prog_1_method_6_code
def yX6_silver : MethodName := ⟨RX6, "silver", "(I)J"⟩
abbrev cX6_today : ByteArray := prog_1_method_7_code
def yX6_today : MethodName := ⟨RX6, "today", "(I)I"⟩
abbrev cX6_feed : ByteArray := prog_1_method_8_code
def yX6_feed : MethodName := ⟨RX6, "feed", "(JI)I"⟩
abbrev cX6_order : ByteArray := prog_1_method_9_code
def yX6_order : MethodName := ⟨RX6, "order", "()I"⟩
abbrev cX6_tell : ByteArray := prog_1_method_10_code
def yX6_tell : MethodName := ⟨RX6, "tell", "(II)I"⟩
abbrev cX6_force : ByteArray := prog_1_method_11_code
def yX6_force : MethodName := ⟨RX6, "force", "(II)I"⟩
abbrev cX6_pass : ByteArray := prog_1_method_12_code
def yX6_pass : MethodName := ⟨RX6, "pass", "(III)I"⟩
abbrev cX6_light : ByteArray := prog_1_method_13_code
def yX6_light : MethodName := ⟨RX6, "light", "(IIII)I"⟩
abbrev cX6_pay : ByteArray := prog_1_method_14_code
def yX6_pay : MethodName := ⟨RX6, "pay", "(II)I"⟩
abbrev cX6_paid : ByteArray := prog_1_method_15_code
def yX6_paid : MethodName := ⟨RX6, "paid", "(I)I"⟩
abbrev cX6_credit : ByteArray := prog_1_method_16_code
def yX6_credit : MethodName := ⟨RX6, "credit", "(I)J"⟩
abbrev cX6_give : ByteArray := prog_1_method_17_code
def yX6_give : MethodName := ⟨RX6, "give", "(I)I"⟩
abbrev cX6_lack : ByteArray := prog_1_method_18_code
def yX6_lack : MethodName := ⟨RX6, "lack", "(II)I"⟩
abbrev cX6_road : ByteArray := prog_1_method_19_code
def yX6_road : MethodName := ⟨RX6, "road", "(III)I"⟩
abbrev cX6_send : ByteArray := prog_1_method_20_code
def yX6_send : MethodName := ⟨RX6, "send", "(II)I"⟩
abbrev cX6_bring : ByteArray := prog_1_method_21_code
def yX6_bring : MethodName := ⟨RX6, "bring", "(II)I"⟩
abbrev cX6_melt : ByteArray := prog_1_method_22_code
def yX6_melt : MethodName := ⟨RX6, "melt", "(I)I"⟩
abbrev cX6_furnace : ByteArray := prog_1_method_23_code
def yX6_furnace : MethodName := ⟨RX6, "furnace", "(II)I"⟩
abbrev cX6_refine : ByteArray := prog_1_method_24_code
def yX6_refine : MethodName := ⟨RX6, "refine", "(I)I"⟩
abbrev cX6_strike : ByteArray := prog_1_method_25_code
def yX6_strike : MethodName := ⟨RX6, "strike", "(III)I"⟩
abbrev cX6_mint : ByteArray := prog_1_method_26_code
def yX6_mint : MethodName := ⟨RX6, "mint", "(II)J"⟩
abbrev cX6_all : ByteArray := prog_1_method_27_code
def yX6_all : MethodName := ⟨RX6, "all", "()J"⟩
abbrev cX6_drawn : ByteArray := prog_1_method_28_code
def yX6_drawn : MethodName := ⟨RX6, "drawn", "(IIII)I"⟩
abbrev cX6_wish : ByteArray := prog_1_method_29_code
def yX6_wish : MethodName := ⟨RX6, "wish", "(III)I"⟩
abbrev cX6_flow : ByteArray := prog_1_method_30_code
def yX6_flow : MethodName := ⟨RX6, "flow", "()I"⟩
abbrev cX6_sent : ByteArray := prog_1_method_31_code
def yX6_sent : MethodName := ⟨RX6, "sent", "()I"⟩
abbrev cX6_count : ByteArray := prog_1_method_32_code
def yX6_count : MethodName := ⟨RX6, "count", "(I)I"⟩
abbrev cX6_within : ByteArray := prog_1_method_33_code
def yX6_within : MethodName := ⟨RX6, "within", "(III)Z"⟩
abbrev cX6_oneIf : ByteArray := prog_1_method_34_code
def yX6_oneIf : MethodName := ⟨RX6, "oneIf", "(Z)I"⟩
abbrev cX6_sumOf : ByteArray := prog_1_method_35_code
def yX6_sumOf : MethodName := ⟨RX6, "sumOf", "([I)I"⟩
abbrev cX6_isTown : ByteArray := prog_1_method_36_code
def yX6_isTown : MethodName := ⟨RX6, "isTown", "(I)Z"⟩
abbrev cX6_isMint : ByteArray := prog_1_method_37_code
def yX6_isMint : MethodName := ⟨RX6, "isMint", "(I)Z"⟩
abbrev cX6_sortAt : ByteArray := prog_1_method_38_code
def yX6_sortAt : MethodName := ⟨RX6, "sortAt", "(I)LNewSilver$Sort;"⟩
abbrev cX6_lotAt : ByteArray := prog_1_method_39_code
def yX6_lotAt : MethodName := ⟨RX6, "lotAt", "(I)LNewSilver$Lot;"⟩
abbrev cX6_orderAt : ByteArray := prog_1_method_40_code
def yX6_orderAt : MethodName := ⟨RX6, "orderAt", "(I)LNewSilver$Order;"⟩
abbrev cX6_potAt : ByteArray := prog_1_method_41_code
def yX6_potAt : MethodName := ⟨RX6, "potAt", "(I)LNewSilver$Pot;"⟩
abbrev cX6_hasOwnFine : ByteArray := prog_1_method_42_code
def yX6_hasOwnFine : MethodName := ⟨RX6, "hasOwnFine", "(I)Z"⟩
abbrev cX6_isLotAsTold : ByteArray := prog_1_method_43_code
def yX6_isLotAsTold : MethodName := ⟨RX6, "isLotAsTold", "(ILNewSilver$Sort;III)Z"⟩
abbrev cX6_keepLot : ByteArray := prog_1_method_44_code
def yX6_keepLot : MethodName := ⟨RX6, "keepLot", "(LNewSilver$Lot;)I"⟩
abbrev cX6_orderInForce : ByteArray := prog_1_method_45_code
def yX6_orderInForce : MethodName := ⟨RX6, "orderInForce", "(II)I"⟩
abbrev cX6_worthOf : ByteArray := prog_1_method_46_code
def yX6_worthOf : MethodName := ⟨RX6, "worthOf", "(LNewSilver$Lot;ILNewSilver$Order;)I"⟩
abbrev cX6_reckonWorth : ByteArray := prog_1_method_47_code
def yX6_reckonWorth : MethodName := ⟨RX6, "reckonWorth", "(I)J"⟩
abbrev cX6_payWorst : ByteArray := prog_1_method_48_code
def yX6_payWorst : MethodName := ⟨RX6, "payWorst", "()I"⟩
abbrev cX6_isWorse : ByteArray := prog_1_method_49_code
def yX6_isWorse : MethodName := ⟨RX6, "isWorse", "(LNewSilver$Lot;ILNewSilver$Lot;I)Z"⟩
abbrev cX6_findFalse : ByteArray := prog_1_method_50_code
def yX6_findFalse : MethodName := ⟨RX6, "findFalse", "(I)V"⟩
abbrev cX6_countMelted : ByteArray := prog_1_method_51_code
def yX6_countMelted : MethodName := ⟨RX6, "countMelted", "()I"⟩
abbrev cX6_countOnRoads : ByteArray := prog_1_method_52_code
def yX6_countOnRoads : MethodName := ⟨RX6, "countOnRoads", "()I"⟩
abbrev cX6_countInChests : ByteArray := prog_1_method_53_code
def yX6_countInChests : MethodName := ⟨RX6, "countInChests", "()I"⟩
def RX7 : String := "NewSilverModel"
def TX7 : u_T := fun k => match k with
  | 0 => ("NewSilverModel", "code", "I", false)
  | 1 => ("NewSilverModel", "sorts", "I", false)
  | 2 => ("NewSilverModel", "least", "[I", true)
  | 3 => ("NewSilverModel", "most", "[I", true)
  | 4 => ("NewSilverModel", "fineOf", "[I", true)
  | 5 => ("NewSilverModel", "value", "[I", true)
  | 6 => ("NewSilverModel", "today", "I", false)
  | 7 => ("NewSilverModel", "lots", "I", false)
  | 8 => ("NewSilverModel", "kind", "[I", true)
  | 9 => ("NewSilverModel", "sort", "[I", true)
  | 10 => ("NewSilverModel", "coins", "[I", true)
  | 11 => ("NewSilverModel", "weight", "[I", true)
  | 12 => ("NewSilverModel", "ownFine", "[I", true)
  | 13 => ("NewSilverModel", "town", "[I", true)
  | 14 => ("NewSilverModel", "mint", "[I", true)
  | 15 => ("NewSilverModel", "comes", "[I", true)
  | 16 => ("NewSilverModel", "melted", "[Z", true)
  | 17 => ("NewSilverModel", "chest", "[Z", true)
  | 18 => ("NewSilverModel", "isFound", "[Z", true)
  | 19 => ("NewSilverModel", "tape", "[B", true)
  | 20 => ("NewSilverModel", "taped", "I", false)
  | 21 => ("NewSilverModel", "orders", "I", false)
  | 22 => ("NewSilverModel", "says", "[I", true)
  | 23 => ("NewSilverModel", "pence", "[I", true)
  | 24 => ("NewSilverModel", "grains", "[I", true)
  | 25 => ("NewSilverModel", "toldOn", "[I", true)
  | 26 => ("NewSilverModel", "at", "I", false)
  | 27 => ("NewSilverModel", "number", "I", false)
  | 28 => ("NewSilverModel", "credits", "[J", true)
  | 29 => ("NewSilverModel", "paidMany", "I", false)
  | 30 => ("NewSilverModel", "paidLot", "[I", true)
  | 31 => ("NewSilverModel", "row", "[I", true)
  | 32 => ("NewSilverModel", "roads", "[I", true)
  | 33 => ("NewSilverModel", "pot", "[J", true)
  | 34 => ("NewSilverModel", "potSilver", "[J", true)
  | 35 => ("NewSilverModel", "refined", "[Z", true)
  | 36 => ("NewSilverModel", "copper", "[J", true)
  | 37 => ("NewSilverModel", "treasury", "[J", true)
  | 38 => ("NewSilverModel", "furnace", "[I", true)
  | 39 => ("NewSilverModel", "meltedGrains", "[I", true)
  | 40 => ("NewSilverModel", "meltedOn", "[I", true)
  | 41 => ("NewSilverModel", "off", "J", false)
  | 42 => ("NewSilverModel", "gives", "[I", true)
  | 43 => ("NewSilverModel", "needs", "[I", true)
  | 44 => ("NewSilverModel", "flow", "[I", true)
  | 45 => ("NewSilverModel", "has", "[I", true)
  | 46 => ("NewSilverModel", "wants", "[I", true)
  | 47 => ("NewSilverModel", "far", "[I", true)
  | _ => ("NewSilverModel", "before", "[I", true)
def tyX7 : Nat → FieldType := fun k => match k with
  | 0 => .int
  | 1 => .int
  | 2 => .array .int
  | 3 => .array .int
  | 4 => .array .int
  | 5 => .array .int
  | 6 => .int
  | 7 => .int
  | 8 => .array .int
  | 9 => .array .int
  | 10 => .array .int
  | 11 => .array .int
  | 12 => .array .int
  | 13 => .array .int
  | 14 => .array .int
  | 15 => .array .int
  | 16 => .array .boolean
  | 17 => .array .boolean
  | 18 => .array .boolean
  | 19 => .array .byte
  | 20 => .int
  | 21 => .int
  | 22 => .array .int
  | 23 => .array .int
  | 24 => .array .int
  | 25 => .array .int
  | 26 => .int
  | 27 => .int
  | 28 => .array .long
  | 29 => .int
  | 30 => .array .int
  | 31 => .array .int
  | 32 => .array .int
  | 33 => .array .long
  | 34 => .array .long
  | 35 => .array .boolean
  | 36 => .array .long
  | 37 => .array .long
  | 38 => .array .int
  | 39 => .array .int
  | 40 => .array .int
  | 41 => .long
  | 42 => .array .int
  | 43 => .array .int
  | 44 => .array .int
  | 45 => .array .int
  | 46 => .array .int
  | 47 => .array .int
  | _ => .array .int
abbrev wsX70 : List Cond := u_ws RX7 TX7 49
theorem nmX7 : ∀ a, a < 49 → ∀ b, b < 49 → a ≠ b → (TX7 a).2.1 ≠ (TX7 b).2.1 := by decide +kernel
theorem tyX7_ok : ∀ k, k < 49 → parseFieldDescriptor (TX7 k).2.2.1 = some (tyX7 k) := by decide +kernel
abbrev cX7_init : ByteArray := prog_9_method_1_code
def yX7_init : MethodName := ⟨RX7, "<init>", "()V"⟩
abbrev cX7_in : ByteArray := prog_9_method_3_code
def yX7_in : MethodName := ⟨RX7, "in", "(III)Z"⟩
abbrev cX7_isSort : ByteArray := prog_9_method_4_code
def yX7_isSort : MethodName := ⟨RX7, "isSort", "(I)Z"⟩
abbrev cX7_isLot : ByteArray := prog_9_method_5_code
def yX7_isLot : MethodName := ⟨RX7, "isLot", "(I)Z"⟩
abbrev cX7_isTown : ByteArray := prog_9_method_6_code
def yX7_isTown : MethodName := ⟨RX7, "isTown", "(I)Z"⟩
abbrev cX7_isMint : ByteArray := prog_9_method_7_code
def yX7_isMint : MethodName := ⟨RX7, "isMint", "(I)Z"⟩
abbrev cX7_sort : ByteArray := prog_9_method_8_code
def yX7_sort : MethodName := ⟨RX7, "sort", "(IIII)I"⟩
abbrev cX7_isWeight : ByteArray := prog_9_method_9_code
def yX7_isWeight : MethodName := ⟨RX7, "isWeight", "(IIII)Z"⟩
abbrev cX7_newLot : ByteArray := prog_9_method_10_code
def yX7_newLot : MethodName := ⟨RX7, "newLot", "(IIIIIII)I"⟩
abbrev cX7_lot : ByteArray := prog_9_method_11_code
def yX7_lot : MethodName := ⟨RX7, "lot", "(IIIIII)I"⟩
abbrev cX7_open : ByteArray := prog_9_method_12_code
def yX7_open : MethodName := ⟨RX7, "open", "(II)I"⟩
abbrev cX7_fine : ByteArray := prog_9_method_13_code
def yX7_fine : MethodName := ⟨RX7, "fine", "(I)I"⟩
abbrev cX7_silverOf : ByteArray := prog_9_method_14_code
def yX7_silverOf : MethodName := ⟨RX7, "silverOf", "(I)J"⟩
abbrev cX7_isUnderWay : ByteArray := prog_9_method_15_code
def yX7_isUnderWay : MethodName := ⟨RX7, "isUnderWay", "(I)Z"⟩
abbrev cX7_about : ByteArray := prog_9_method_16_code
def yX7_about : MethodName := ⟨RX7, "about", "(II)I"⟩
abbrev cX7_silver : ByteArray := prog_9_method_17_code
def yX7_silver : MethodName := ⟨RX7, "silver", "(I)J"⟩
abbrev cX7_today : ByteArray := prog_9_method_18_code
def yX7_today : MethodName := ⟨RX7, "today", "(I)I"⟩
abbrev cX7_feed : ByteArray := prog_9_method_19_code
def yX7_feed : MethodName := ⟨RX7, "feed", "(JI)I"⟩
abbrev cX7_takes : ByteArray := prog_9_method_20_code
def yX7_takes : MethodName := ⟨RX7, "takes", "(I)Z"⟩
abbrev cX7_digitAt : ByteArray := prog_9_method_21_code
def yX7_digitAt : MethodName := ⟨RX7, "digitAt", "(I)Z"⟩
abbrev cX7_takesNumber : ByteArray := prog_9_method_22_code
def yX7_takesNumber : MethodName := ⟨RX7, "takesNumber", "(II)Z"⟩
abbrev cX7_takesIs : ByteArray := prog_9_method_23_code
def yX7_takesIs : MethodName := ⟨RX7, "takesIs", "()Z"⟩
abbrev cX7_takesWeight : ByteArray := prog_9_method_24_code
def yX7_takesWeight : MethodName := ⟨RX7, "takesWeight", "()Z"⟩
abbrev cX7_clause : ByteArray := prog_9_method_25_code
def yX7_clause : MethodName := ⟨RX7, "clause", "(I)Z"⟩
abbrev cX7_order : ByteArray := prog_9_method_26_code
def yX7_order : MethodName := ⟨RX7, "order", "()I"⟩
abbrev cX7_isOrder : ByteArray := prog_9_method_27_code
def yX7_isOrder : MethodName := ⟨RX7, "isOrder", "(I)Z"⟩
abbrev cX7_tell : ByteArray := prog_9_method_28_code
def yX7_tell : MethodName := ⟨RX7, "tell", "(II)I"⟩
abbrev cX7_forceIn : ByteArray := prog_9_method_29_code
def yX7_forceIn : MethodName := ⟨RX7, "forceIn", "(II)I"⟩
abbrev cX7_force : ByteArray := prog_9_method_30_code
def yX7_force : MethodName := ⟨RX7, "force", "(II)I"⟩
abbrev cX7_passes : ByteArray := prog_9_method_31_code
def yX7_passes : MethodName := ⟨RX7, "passes", "(III)I"⟩
abbrev cX7_pass : ByteArray := prog_9_method_32_code
def yX7_pass : MethodName := ⟨RX7, "pass", "(III)I"⟩
abbrev cX7_lowest : ByteArray := prog_9_method_33_code
def yX7_lowest : MethodName := ⟨RX7, "lowest", "(I)I"⟩
abbrev cX7_isDrawn : ByteArray := prog_9_method_34_code
def yX7_isDrawn : MethodName := ⟨RX7, "isDrawn", "(III)Z"⟩
abbrev cX7_light : ByteArray := prog_9_method_35_code
def yX7_light : MethodName := ⟨RX7, "light", "(IIII)I"⟩
abbrev cX7_isThere : ByteArray := prog_9_method_36_code
def yX7_isThere : MethodName := ⟨RX7, "isThere", "(II)Z"⟩
abbrev cX7_isWorse : ByteArray := prog_9_method_37_code
def yX7_isWorse : MethodName := ⟨RX7, "isWorse", "(III)Z"⟩
abbrev cX7_pay : ByteArray := prog_9_method_38_code
def yX7_pay : MethodName := ⟨RX7, "pay", "(II)I"⟩
abbrev cX7_paid : ByteArray := prog_9_method_39_code
def yX7_paid : MethodName := ⟨RX7, "paid", "(I)I"⟩
abbrev cX7_credit : ByteArray := prog_9_method_40_code
def yX7_credit : MethodName := ⟨RX7, "credit", "(I)J"⟩
abbrev cX7_give : ByteArray := prog_9_method_41_code
def yX7_give : MethodName := ⟨RX7, "give", "(I)I"⟩
abbrev cX7_lack : ByteArray := prog_9_method_42_code
def yX7_lack : MethodName := ⟨RX7, "lack", "(II)I"⟩
abbrev cX7_road : ByteArray := prog_9_method_43_code
def yX7_road : MethodName := ⟨RX7, "road", "(III)I"⟩
abbrev cX7_send : ByteArray := prog_9_method_44_code
def yX7_send : MethodName := ⟨RX7, "send", "(II)I"⟩
abbrev cX7_isAtMint : ByteArray := prog_9_method_45_code
def yX7_isAtMint : MethodName := ⟨RX7, "isAtMint", "(I)Z"⟩
abbrev cX7_bring : ByteArray := prog_9_method_46_code
def yX7_bring : MethodName := ⟨RX7, "bring", "(II)I"⟩
abbrev cX7_meltedToday : ByteArray := prog_9_method_47_code
def yX7_meltedToday : MethodName := ⟨RX7, "meltedToday", "(I)I"⟩
abbrev cX7_melt : ByteArray := prog_9_method_48_code
def yX7_melt : MethodName := ⟨RX7, "melt", "(I)I"⟩
abbrev cX7_furnace : ByteArray := prog_9_method_49_code
def yX7_furnace : MethodName := ⟨RX7, "furnace", "(II)I"⟩
abbrev cX7_refine : ByteArray := prog_9_method_50_code
def yX7_refine : MethodName := ⟨RX7, "refine", "(I)I"⟩
abbrev cX7_strike : ByteArray := prog_9_method_51_code
def yX7_strike : MethodName := ⟨RX7, "strike", "(III)I"⟩
abbrev cX7_mint : ByteArray := prog_9_method_52_code
def yX7_mint : MethodName := ⟨RX7, "mint", "(II)J"⟩
abbrev cX7_all : ByteArray := prog_9_method_53_code
def yX7_all : MethodName := ⟨RX7, "all", "()J"⟩
abbrev cX7_drawn : ByteArray := prog_9_method_54_code
def yX7_drawn : MethodName := ⟨RX7, "drawn", "(IIII)I"⟩
abbrev cX7_wish : ByteArray := prog_9_method_55_code
def yX7_wish : MethodName := ⟨RX7, "wish", "(III)I"⟩
abbrev cX7_findFar : ByteArray := prog_9_method_56_code
def yX7_findFar : MethodName := ⟨RX7, "findFar", "()V"⟩
abbrev cX7_sendOne : ByteArray := prog_9_method_57_code
def yX7_sendOne : MethodName := ⟨RX7, "sendOne", "()I"⟩
abbrev cX7_flow : ByteArray := prog_9_method_58_code
def yX7_flow : MethodName := ⟨RX7, "flow", "()I"⟩
abbrev cX7_sent : ByteArray := prog_9_method_59_code
def yX7_sent : MethodName := ⟨RX7, "sent", "()I"⟩
abbrev cX7_count : ByteArray := prog_9_method_60_code
def yX7_count : MethodName := ⟨RX7, "count", "(I)I"⟩
def RJx8e188 : String := "java/lang/Cloneable"
def TJx8e188 : u_T := fun k => match k with
  | _ => ("", "", "", false)
def tyJx8e188 : Nat → FieldType := fun k => match k with
  | _ => .int
abbrev wsJx8e1880 : List Cond := u_ws RJx8e188 TJx8e188 0
theorem nmJx8e188 : ∀ a, a < 0 → ∀ b, b < 0 → a ≠ b → (TJx8e188 a).2.1 ≠ (TJx8e188 b).2.1 := by decide +kernel
theorem tyJx8e188_ok : ∀ k, k < 0 → parseFieldDescriptor (TJx8e188 k).2.2.1 = some (tyJx8e188 k) := by decide +kernel
def RJ9 : String := "java/lang/Math"
def TJ9 : u_T := fun k => match k with
  | _ => ("", "", "", false)
def tyJ9 : Nat → FieldType := fun k => match k with
  | _ => .int
abbrev wsJ90 : List Cond := u_ws RJ9 TJ9 0
theorem nmJ9 : ∀ a, a < 0 → ∀ b, b < 0 → a ≠ b → (TJ9 a).2.1 ≠ (TJ9 b).2.1 := by decide +kernel
theorem tyJ9_ok : ∀ k, k < 0 → parseFieldDescriptor (TJ9 k).2.2.1 = some (tyJ9 k) := by decide +kernel
abbrev cJ9_max_f86c9 : ByteArray := prog_11_method_66_code
def yJ9_max_f86c9 : MethodName := ⟨RJ9, "max", "(JJ)J"⟩
abbrev cJ9_min_7cf53 : ByteArray := prog_11_method_69_code
def yJ9_min_7cf53 : MethodName := ⟨RJ9, "min", "(II)I"⟩
def RJ0 : String := "java/lang/String"
def TJ0 : u_T := fun k => match k with
  | _ => ("", "", "", false)
def tyJ0 : Nat → FieldType := fun k => match k with
  | _ => .int
abbrev wsJ00 : List Cond := u_ws RJ0 TJ0 0
theorem nmJ0 : ∀ a, a < 0 → ∀ b, b < 0 → a ≠ b → (TJ0 a).2.1 ≠ (TJ0 b).2.1 := by decide +kernel
theorem tyJ0_ok : ∀ k, k < 0 → parseFieldDescriptor (TJ0 k).2.2.1 = some (tyJ0 k) := by decide +kernel
abbrev cJ0_length_8abf5 : ByteArray := prog_12_method_54_code
def yJ0_length_8abf5 : MethodName := ⟨RJ0, "length", "()I"⟩
abbrev cJ0_charAt_5068e : ByteArray := prog_12_method_56_code
def yJ0_charAt_5068e : MethodName := ⟨RJ0, "charAt", "(I)C"⟩
abbrev cJ0_coder_7d493 : ByteArray := prog_12_method_152_code
def yJ0_coder_7d493 : MethodName := ⟨RJ0, "coder", "()B"⟩
abbrev cJ0_isLatin1_aae02 : ByteArray := prog_12_method_154_code
def yJ0_isLatin1_aae02 : MethodName := ⟨RJ0, "isLatin1", "()Z"⟩
abbrev cJ0_checkIndex_df160 : ByteArray := prog_12_method_155_code
def yJ0_checkIndex_df160 : MethodName := ⟨RJ0, "checkIndex", "(II)V"⟩
def RJ1 : String := "java/lang/StringLatin1"
def TJ1 : u_T := fun k => match k with
  | _ => ("", "", "", false)
def tyJ1 : Nat → FieldType := fun k => match k with
  | _ => .int
abbrev wsJ10 : List Cond := u_ws RJ1 TJ1 0
theorem nmJ1 : ∀ a, a < 0 → ∀ b, b < 0 → a ≠ b → (TJ1 a).2.1 ≠ (TJ1 b).2.1 := by decide +kernel
theorem tyJ1_ok : ∀ k, k < 0 → parseFieldDescriptor (TJ1 k).2.2.1 = some (tyJ1 k) := by decide +kernel
abbrev cJ1_charAt_3b067 : ByteArray := prog_13_method_2_code
def yJ1_charAt_3b067 : MethodName := ⟨RJ1, "charAt", "([BI)C"⟩
def RJ2 : String := "java/lang/StringUTF16"
def TJ2 : u_T := fun k => match k with
  | _ => ("", "", "", false)
def tyJ2 : Nat → FieldType := fun k => match k with
  | _ => .int
abbrev wsJ20 : List Cond := u_ws RJ2 TJ2 0
theorem nmJ2 : ∀ a, a < 0 → ∀ b, b < 0 → a ≠ b → (TJ2 a).2.1 ≠ (TJ2 b).2.1 := by decide +kernel
theorem tyJ2_ok : ∀ k, k < 0 → parseFieldDescriptor (TJ2 k).2.2.1 = some (tyJ2 k) := by decide +kernel
abbrev cJ2_getChar_3b067 : ByteArray := prog_14_method_5_code
def yJ2_getChar_3b067 : MethodName := ⟨RJ2, "getChar", "([BI)C"⟩
abbrev cJ2_length_9d52b : ByteArray := prog_14_method_6_code
def yJ2_length_9d52b : MethodName := ⟨RJ2, "length", "([B)I"⟩
abbrev cJ2_charAt_3b067 : ByteArray := prog_14_method_83_code
def yJ2_charAt_3b067 : MethodName := ⟨RJ2, "charAt", "([BI)C"⟩
abbrev cJ2_checkIndex_2214a : ByteArray := prog_14_method_91_code
def yJ2_checkIndex_2214a : MethodName := ⟨RJ2, "checkIndex", "(I[B)V"⟩
def RJ10 : String := "java/lang/System"
def TJ10 : u_T := fun k => match k with
  | _ => ("", "", "", false)
def tyJ10 : Nat → FieldType := fun k => match k with
  | _ => .int
abbrev wsJ100 : List Cond := u_ws RJ10 TJ10 0
theorem nmJ10 : ∀ a, a < 0 → ∀ b, b < 0 → a ≠ b → (TJ10 a).2.1 ≠ (TJ10 b).2.1 := by decide +kernel
theorem tyJ10_ok : ∀ k, k < 0 → parseFieldDescriptor (TJ10 k).2.2.1 = some (tyJ10 k) := by decide +kernel
def RJ7 : String := "java/util/Arrays"
def TJ7 : u_T := fun k => match k with
  | _ => ("", "", "", false)
def tyJ7 : Nat → FieldType := fun k => match k with
  | _ => .int
abbrev wsJ70 : List Cond := u_ws RJ7 TJ7 0
theorem nmJ7 : ∀ a, a < 0 → ∀ b, b < 0 → a ≠ b → (TJ7 a).2.1 ≠ (TJ7 b).2.1 := by decide +kernel
theorem tyJ7_ok : ∀ k, k < 0 → parseFieldDescriptor (TJ7 k).2.2.1 = some (tyJ7 k) := by decide +kernel
abbrev cJ7_fill_53178 : ByteArray := prog_16_method_103_code
def yJ7_fill_53178 : MethodName := ⟨RJ7, "fill", "([II)V"⟩
abbrev cJ7_copyOf_59c91 : ByteArray := prog_16_method_123_code
def yJ7_copyOf_59c91 : MethodName := ⟨RJ7, "copyOf", "([II)[I"⟩
def RJ3 : String := "jdk/internal/util/Preconditions"
def TJ3 : u_T := fun k => match k with
  | _ => ("", "", "", false)
def tyJ3 : Nat → FieldType := fun k => match k with
  | _ => .int
abbrev wsJ30 : List Cond := u_ws RJ3 TJ3 0
theorem nmJ3 : ∀ a, a < 0 → ∀ b, b < 0 → a ≠ b → (TJ3 a).2.1 ≠ (TJ3 b).2.1 := by decide +kernel
theorem tyJ3_ok : ∀ k, k < 0 → parseFieldDescriptor (TJ3 k).2.2.1 = some (tyJ3 k) := by decide +kernel
abbrev cJ3_checkIndex_8e157 : ByteArray := prog_17_method_11_code
def yJ3_checkIndex_8e157 : MethodName := ⟨RJ3, "checkIndex", "(IILjava/util/function/BiFunction;)I"⟩
def RL : String := "NewSilverLaw"
abbrev cL_law : ByteArray := code
def yL_law : MethodName := ⟨RL, "law", "([I)Z"⟩
abbrev vwCl : List vw_C := [(RX0, TX0, 7), (RX1, TX1, 12), (RX2, TX2, 3), (RX3, TX3, 9), (RX4, TX4, 4), (RX5, TX5, 5), (RX6, TX6, 17), (RX7, TX7, 49)]
-- ===== what the tables say of a field's use: own class, pool number, class number, slot, type, final =====
def h_FL (own : String) (idx ci k : Nat) (ty : FieldType) (fin : Bool) : Prop := ∃ (C : String) (T : u_T) (N : Nat), vwCl[ci]? = some (C, T, N) ∧ k < N ∧ (T k).1 = C ∧ (T k).2.2.2 = fin ∧ parseFieldDescriptor (T k).2.2.1 = some ty ∧ Cond.fieldLink own idx C (T k).2.1 (T k).2.2.1 ∈ lw_tbl
theorem flX5_9 : h_FL RX5 9 5 0 (.array .int) true := ⟨_, _, _, rfl, by decide, rfl, rfl, by decide +kernel, List.mem_of_getElem? (i := 85) (by decide +kernel)⟩
theorem flX6_193 : h_FL RX6 193 5 0 (.array .int) true := ⟨_, _, _, rfl, by decide, rfl, rfl, by decide +kernel, List.mem_of_getElem? (i := 86) (by decide +kernel)⟩
theorem flX5_15 : h_FL RX5 15 5 1 (.array .int) true := ⟨_, _, _, rfl, by decide, rfl, rfl, by decide +kernel, List.mem_of_getElem? (i := 87) (by decide +kernel)⟩
theorem flX6_196 : h_FL RX6 196 5 1 (.array .int) true := ⟨_, _, _, rfl, by decide, rfl, rfl, by decide +kernel, List.mem_of_getElem? (i := 88) (by decide +kernel)⟩
theorem flX5_22 : h_FL RX5 22 5 2 .int false := ⟨_, _, _, rfl, by decide, rfl, rfl, by decide +kernel, List.mem_of_getElem? (i := 89) (by decide +kernel)⟩
theorem flX6_183 : h_FL RX6 183 5 2 .int false := ⟨_, _, _, rfl, by decide, rfl, rfl, by decide +kernel, List.mem_of_getElem? (i := 90) (by decide +kernel)⟩
theorem flX5_18 : h_FL RX5 18 5 3 (.array .byte) true := ⟨_, _, _, rfl, by decide, rfl, rfl, by decide +kernel, List.mem_of_getElem? (i := 91) (by decide +kernel)⟩
theorem flX5_26 : h_FL RX5 26 5 4 .int false := ⟨_, _, _, rfl, by decide, rfl, rfl, by decide +kernel, List.mem_of_getElem? (i := 92) (by decide +kernel)⟩
theorem flX0_9 : h_FL RX0 9 0 0 (.array .int) true := ⟨_, _, _, rfl, by decide, rfl, rfl, by decide +kernel, List.mem_of_getElem? (i := 114) (by decide +kernel)⟩
theorem flX0_15 : h_FL RX0 15 0 1 (.array .int) true := ⟨_, _, _, rfl, by decide, rfl, rfl, by decide +kernel, List.mem_of_getElem? (i := 115) (by decide +kernel)⟩
theorem flX0_18 : h_FL RX0 18 0 2 (.array .int) true := ⟨_, _, _, rfl, by decide, rfl, rfl, by decide +kernel, List.mem_of_getElem? (i := 116) (by decide +kernel)⟩
theorem flX0_21 : h_FL RX0 21 0 3 (.array .int) true := ⟨_, _, _, rfl, by decide, rfl, rfl, by decide +kernel, List.mem_of_getElem? (i := 117) (by decide +kernel)⟩
theorem flX0_24 : h_FL RX0 24 0 4 (.array .int) true := ⟨_, _, _, rfl, by decide, rfl, rfl, by decide +kernel, List.mem_of_getElem? (i := 118) (by decide +kernel)⟩
theorem flX0_27 : h_FL RX0 27 0 5 (.array .int) true := ⟨_, _, _, rfl, by decide, rfl, rfl, by decide +kernel, List.mem_of_getElem? (i := 119) (by decide +kernel)⟩
theorem flX0_30 : h_FL RX0 30 0 6 (.array .int) true := ⟨_, _, _, rfl, by decide, rfl, rfl, by decide +kernel, List.mem_of_getElem? (i := 120) (by decide +kernel)⟩
theorem flX3_26 : h_FL RX3 26 3 0 .long false := ⟨_, _, _, rfl, by decide, rfl, rfl, by decide +kernel, List.mem_of_getElem? (i := 146) (by decide +kernel)⟩
theorem flX6_268 : h_FL RX6 268 3 0 .long false := ⟨_, _, _, rfl, by decide, rfl, rfl, by decide +kernel, List.mem_of_getElem? (i := 147) (by decide +kernel)⟩
theorem flX3_30 : h_FL RX3 30 3 1 .long false := ⟨_, _, _, rfl, by decide, rfl, rfl, by decide +kernel, List.mem_of_getElem? (i := 148) (by decide +kernel)⟩
theorem flX6_280 : h_FL RX6 280 3 1 .long false := ⟨_, _, _, rfl, by decide, rfl, rfl, by decide +kernel, List.mem_of_getElem? (i := 149) (by decide +kernel)⟩
theorem flX3_33 : h_FL RX3 33 3 2 .boolean false := ⟨_, _, _, rfl, by decide, rfl, rfl, by decide +kernel, List.mem_of_getElem? (i := 150) (by decide +kernel)⟩
theorem flX6_274 : h_FL RX6 274 3 2 .boolean false := ⟨_, _, _, rfl, by decide, rfl, rfl, by decide +kernel, List.mem_of_getElem? (i := 151) (by decide +kernel)⟩
theorem flX3_39 : h_FL RX3 39 3 3 .long false := ⟨_, _, _, rfl, by decide, rfl, rfl, by decide +kernel, List.mem_of_getElem? (i := 152) (by decide +kernel)⟩
theorem flX6_283 : h_FL RX6 283 3 3 .long false := ⟨_, _, _, rfl, by decide, rfl, rfl, by decide +kernel, List.mem_of_getElem? (i := 153) (by decide +kernel)⟩
theorem flX3_46 : h_FL RX3 46 3 4 .long false := ⟨_, _, _, rfl, by decide, rfl, rfl, by decide +kernel, List.mem_of_getElem? (i := 154) (by decide +kernel)⟩
theorem flX6_286 : h_FL RX6 286 3 4 .long false := ⟨_, _, _, rfl, by decide, rfl, rfl, by decide +kernel, List.mem_of_getElem? (i := 155) (by decide +kernel)⟩
theorem flX3_51 : h_FL RX3 51 3 5 .long false := ⟨_, _, _, rfl, by decide, rfl, rfl, by decide +kernel, List.mem_of_getElem? (i := 156) (by decide +kernel)⟩
theorem flX6_291 : h_FL RX6 291 3 5 .long false := ⟨_, _, _, rfl, by decide, rfl, rfl, by decide +kernel, List.mem_of_getElem? (i := 157) (by decide +kernel)⟩
theorem flX3_10 : h_FL RX3 10 3 6 .int false := ⟨_, _, _, rfl, by decide, rfl, rfl, by decide +kernel, List.mem_of_getElem? (i := 158) (by decide +kernel)⟩
theorem flX6_258 : h_FL RX6 258 3 6 .int false := ⟨_, _, _, rfl, by decide, rfl, rfl, by decide +kernel, List.mem_of_getElem? (i := 159) (by decide +kernel)⟩
theorem flX3_19 : h_FL RX3 19 3 7 .int false := ⟨_, _, _, rfl, by decide, rfl, rfl, by decide +kernel, List.mem_of_getElem? (i := 160) (by decide +kernel)⟩
theorem flX3_16 : h_FL RX3 16 3 8 .int false := ⟨_, _, _, rfl, by decide, rfl, rfl, by decide +kernel, List.mem_of_getElem? (i := 161) (by decide +kernel)⟩
theorem flX6_11 : h_FL RX6 11 6 0 (.array (.object "NewSilver$Sort")) true := ⟨_, _, _, rfl, by decide, rfl, rfl, by decide +kernel, List.mem_of_getElem? (i := 181) (by decide +kernel)⟩
theorem flX6_78 : h_FL RX6 78 6 1 .int false := ⟨_, _, _, rfl, by decide, rfl, rfl, by decide +kernel, List.mem_of_getElem? (i := 182) (by decide +kernel)⟩
theorem flX6_17 : h_FL RX6 17 6 2 (.array (.object "NewSilver$Lot")) true := ⟨_, _, _, rfl, by decide, rfl, rfl, by decide +kernel, List.mem_of_getElem? (i := 183) (by decide +kernel)⟩
theorem flX6_97 : h_FL RX6 97 6 3 .int false := ⟨_, _, _, rfl, by decide, rfl, rfl, by decide +kernel, List.mem_of_getElem? (i := 184) (by decide +kernel)⟩
theorem flX6_23 : h_FL RX6 23 6 4 (.array (.object "NewSilver$Order")) true := ⟨_, _, _, rfl, by decide, rfl, rfl, by decide +kernel, List.mem_of_getElem? (i := 185) (by decide +kernel)⟩
theorem flX6_186 : h_FL RX6 186 6 5 .int false := ⟨_, _, _, rfl, by decide, rfl, rfl, by decide +kernel, List.mem_of_getElem? (i := 186) (by decide +kernel)⟩
theorem flX6_30 : h_FL RX6 30 6 6 (.object "NewSilver$Tape") true := ⟨_, _, _, rfl, by decide, rfl, rfl, by decide +kernel, List.mem_of_getElem? (i := 187) (by decide +kernel)⟩
theorem flX6_36 : h_FL RX6 36 6 7 (.array (.object "NewSilver$Pot")) true := ⟨_, _, _, rfl, by decide, rfl, rfl, by decide +kernel, List.mem_of_getElem? (i := 188) (by decide +kernel)⟩
theorem flX6_40 : h_FL RX6 40 6 8 (.array .int) true := ⟨_, _, _, rfl, by decide, rfl, rfl, by decide +kernel, List.mem_of_getElem? (i := 189) (by decide +kernel)⟩
theorem flX6_44 : h_FL RX6 44 6 9 (.array .long) true := ⟨_, _, _, rfl, by decide, rfl, rfl, by decide +kernel, List.mem_of_getElem? (i := 190) (by decide +kernel)⟩
theorem flX6_48 : h_FL RX6 48 6 10 (.array .int) true := ⟨_, _, _, rfl, by decide, rfl, rfl, by decide +kernel, List.mem_of_getElem? (i := 191) (by decide +kernel)⟩
theorem flX6_230 : h_FL RX6 230 6 11 .int false := ⟨_, _, _, rfl, by decide, rfl, rfl, by decide +kernel, List.mem_of_getElem? (i := 192) (by decide +kernel)⟩
theorem flX6_51 : h_FL RX6 51 6 12 (.array .int) true := ⟨_, _, _, rfl, by decide, rfl, rfl, by decide +kernel, List.mem_of_getElem? (i := 193) (by decide +kernel)⟩
theorem flX6_54 : h_FL RX6 54 6 13 (.array .int) true := ⟨_, _, _, rfl, by decide, rfl, rfl, by decide +kernel, List.mem_of_getElem? (i := 194) (by decide +kernel)⟩
theorem flX6_57 : h_FL RX6 57 6 14 (.array .int) true := ⟨_, _, _, rfl, by decide, rfl, rfl, by decide +kernel, List.mem_of_getElem? (i := 195) (by decide +kernel)⟩
theorem flX6_63 : h_FL RX6 63 6 15 (.object "NewSilver$Carrier") true := ⟨_, _, _, rfl, by decide, rfl, rfl, by decide +kernel, List.mem_of_getElem? (i := 196) (by decide +kernel)⟩
theorem flX6_154 : h_FL RX6 154 6 16 .int false := ⟨_, _, _, rfl, by decide, rfl, rfl, by decide +kernel, List.mem_of_getElem? (i := 197) (by decide +kernel)⟩
theorem flX4_9 : h_FL RX4 9 4 0 .int true := ⟨_, _, _, rfl, by decide, rfl, rfl, by decide +kernel, List.mem_of_getElem? (i := 245) (by decide +kernel)⟩
theorem flX6_134 : h_FL RX6 134 4 0 .int true := ⟨_, _, _, rfl, by decide, rfl, rfl, by decide +kernel, List.mem_of_getElem? (i := 246) (by decide +kernel)⟩
theorem flX4_15 : h_FL RX4 15 4 1 .int true := ⟨_, _, _, rfl, by decide, rfl, rfl, by decide +kernel, List.mem_of_getElem? (i := 247) (by decide +kernel)⟩
theorem flX6_127 : h_FL RX6 127 4 1 .int true := ⟨_, _, _, rfl, by decide, rfl, rfl, by decide +kernel, List.mem_of_getElem? (i := 248) (by decide +kernel)⟩
theorem flX1_54 : h_FL RX1 54 4 1 .int true := ⟨_, _, _, rfl, by decide, rfl, rfl, by decide +kernel, List.mem_of_getElem? (i := 249) (by decide +kernel)⟩
theorem flX4_18 : h_FL RX4 18 4 2 .int true := ⟨_, _, _, rfl, by decide, rfl, rfl, by decide +kernel, List.mem_of_getElem? (i := 250) (by decide +kernel)⟩
theorem flX6_103 : h_FL RX6 103 4 2 .int true := ⟨_, _, _, rfl, by decide, rfl, rfl, by decide +kernel, List.mem_of_getElem? (i := 251) (by decide +kernel)⟩
theorem flX4_21 : h_FL RX4 21 4 3 .int true := ⟨_, _, _, rfl, by decide, rfl, rfl, by decide +kernel, List.mem_of_getElem? (i := 252) (by decide +kernel)⟩
theorem flX6_321 : h_FL RX6 321 4 3 .int true := ⟨_, _, _, rfl, by decide, rfl, rfl, by decide +kernel, List.mem_of_getElem? (i := 253) (by decide +kernel)⟩
theorem flX1_21 : h_FL RX1 21 1 0 .int true := ⟨_, _, _, rfl, by decide, rfl, rfl, by decide +kernel, List.mem_of_getElem? (i := 290) (by decide +kernel)⟩
theorem flX6_147 : h_FL RX6 147 1 0 .int true := ⟨_, _, _, rfl, by decide, rfl, rfl, by decide +kernel, List.mem_of_getElem? (i := 291) (by decide +kernel)⟩
theorem flX1_24 : h_FL RX1 24 1 1 (.object "NewSilver$Sort") true := ⟨_, _, _, rfl, by decide, rfl, rfl, by decide +kernel, List.mem_of_getElem? (i := 292) (by decide +kernel)⟩
theorem flX6_123 : h_FL RX6 123 1 1 (.object "NewSilver$Sort") true := ⟨_, _, _, rfl, by decide, rfl, rfl, by decide +kernel, List.mem_of_getElem? (i := 293) (by decide +kernel)⟩
theorem flX1_28 : h_FL RX1 28 1 2 .int true := ⟨_, _, _, rfl, by decide, rfl, rfl, by decide +kernel, List.mem_of_getElem? (i := 294) (by decide +kernel)⟩
theorem flX6_120 : h_FL RX6 120 1 2 .int true := ⟨_, _, _, rfl, by decide, rfl, rfl, by decide +kernel, List.mem_of_getElem? (i := 295) (by decide +kernel)⟩
theorem flX1_34 : h_FL RX1 34 1 3 .int true := ⟨_, _, _, rfl, by decide, rfl, rfl, by decide +kernel, List.mem_of_getElem? (i := 296) (by decide +kernel)⟩
theorem flX6_150 : h_FL RX6 150 1 3 .int true := ⟨_, _, _, rfl, by decide, rfl, rfl, by decide +kernel, List.mem_of_getElem? (i := 297) (by decide +kernel)⟩
theorem flX1_18 : h_FL RX1 18 1 4 .int false := ⟨_, _, _, rfl, by decide, rfl, rfl, by decide +kernel, List.mem_of_getElem? (i := 298) (by decide +kernel)⟩
theorem flX6_137 : h_FL RX6 137 1 4 .int false := ⟨_, _, _, rfl, by decide, rfl, rfl, by decide +kernel, List.mem_of_getElem? (i := 299) (by decide +kernel)⟩
theorem flX1_31 : h_FL RX1 31 1 5 .int false := ⟨_, _, _, rfl, by decide, rfl, rfl, by decide +kernel, List.mem_of_getElem? (i := 300) (by decide +kernel)⟩
theorem flX6_140 : h_FL RX6 140 1 5 .int false := ⟨_, _, _, rfl, by decide, rfl, rfl, by decide +kernel, List.mem_of_getElem? (i := 301) (by decide +kernel)⟩
theorem flX1_9 : h_FL RX1 9 1 6 .int false := ⟨_, _, _, rfl, by decide, rfl, rfl, by decide +kernel, List.mem_of_getElem? (i := 302) (by decide +kernel)⟩
theorem flX6_109 : h_FL RX6 109 1 6 .int false := ⟨_, _, _, rfl, by decide, rfl, rfl, by decide +kernel, List.mem_of_getElem? (i := 303) (by decide +kernel)⟩
theorem flX1_15 : h_FL RX1 15 1 7 .int false := ⟨_, _, _, rfl, by decide, rfl, rfl, by decide +kernel, List.mem_of_getElem? (i := 304) (by decide +kernel)⟩
theorem flX6_151 : h_FL RX6 151 1 7 .int false := ⟨_, _, _, rfl, by decide, rfl, rfl, by decide +kernel, List.mem_of_getElem? (i := 305) (by decide +kernel)⟩
theorem flX1_41 : h_FL RX1 41 1 8 .int false := ⟨_, _, _, rfl, by decide, rfl, rfl, by decide +kernel, List.mem_of_getElem? (i := 306) (by decide +kernel)⟩
theorem flX6_160 : h_FL RX6 160 1 8 .int false := ⟨_, _, _, rfl, by decide, rfl, rfl, by decide +kernel, List.mem_of_getElem? (i := 307) (by decide +kernel)⟩
theorem flX1_37 : h_FL RX1 37 1 9 .boolean false := ⟨_, _, _, rfl, by decide, rfl, rfl, by decide +kernel, List.mem_of_getElem? (i := 308) (by decide +kernel)⟩
theorem flX6_163 : h_FL RX6 163 1 9 .boolean false := ⟨_, _, _, rfl, by decide, rfl, rfl, by decide +kernel, List.mem_of_getElem? (i := 309) (by decide +kernel)⟩
theorem flX6_167 : h_FL RX6 167 1 10 .boolean false := ⟨_, _, _, rfl, by decide, rfl, rfl, by decide +kernel, List.mem_of_getElem? (i := 310) (by decide +kernel)⟩
theorem flX6_170 : h_FL RX6 170 1 11 .boolean false := ⟨_, _, _, rfl, by decide, rfl, rfl, by decide +kernel, List.mem_of_getElem? (i := 311) (by decide +kernel)⟩
theorem flX2_21 : h_FL RX2 21 2 0 (.array .int) true := ⟨_, _, _, rfl, by decide, rfl, rfl, by decide +kernel, List.mem_of_getElem? (i := 497) (by decide +kernel)⟩
theorem flX6_320 : h_FL RX6 320 2 0 (.array .int) true := ⟨_, _, _, rfl, by decide, rfl, rfl, by decide +kernel, List.mem_of_getElem? (i := 498) (by decide +kernel)⟩
theorem flX2_24 : h_FL RX2 24 2 1 (.array .int) true := ⟨_, _, _, rfl, by decide, rfl, rfl, by decide +kernel, List.mem_of_getElem? (i := 499) (by decide +kernel)⟩
theorem flX6_224 : h_FL RX6 224 2 1 (.array .int) true := ⟨_, _, _, rfl, by decide, rfl, rfl, by decide +kernel, List.mem_of_getElem? (i := 500) (by decide +kernel)⟩
theorem flX2_9 : h_FL RX2 9 2 2 (.array .int) true := ⟨_, _, _, rfl, by decide, rfl, rfl, by decide +kernel, List.mem_of_getElem? (i := 501) (by decide +kernel)⟩
theorem flX6_206 : h_FL RX6 206 2 2 (.array .int) true := ⟨_, _, _, rfl, by decide, rfl, rfl, by decide +kernel, List.mem_of_getElem? (i := 502) (by decide +kernel)⟩
theorem flX7_135 : h_FL RX7 135 7 1 .int false := ⟨_, _, _, rfl, by decide, rfl, rfl, by decide +kernel, List.mem_of_getElem? (i := 736) (by decide +kernel)⟩
theorem flX7_7 : h_FL RX7 7 7 2 (.array .int) true := ⟨_, _, _, rfl, by decide, rfl, rfl, by decide +kernel, List.mem_of_getElem? (i := 737) (by decide +kernel)⟩
theorem flX7_13 : h_FL RX7 13 7 3 (.array .int) true := ⟨_, _, _, rfl, by decide, rfl, rfl, by decide +kernel, List.mem_of_getElem? (i := 738) (by decide +kernel)⟩
theorem flX7_16 : h_FL RX7 16 7 4 (.array .int) true := ⟨_, _, _, rfl, by decide, rfl, rfl, by decide +kernel, List.mem_of_getElem? (i := 739) (by decide +kernel)⟩
theorem flX7_19 : h_FL RX7 19 7 5 (.array .int) true := ⟨_, _, _, rfl, by decide, rfl, rfl, by decide +kernel, List.mem_of_getElem? (i := 740) (by decide +kernel)⟩
theorem flX7_167 : h_FL RX7 167 7 6 .int false := ⟨_, _, _, rfl, by decide, rfl, rfl, by decide +kernel, List.mem_of_getElem? (i := 741) (by decide +kernel)⟩
theorem flX7_142 : h_FL RX7 142 7 7 .int false := ⟨_, _, _, rfl, by decide, rfl, rfl, by decide +kernel, List.mem_of_getElem? (i := 742) (by decide +kernel)⟩
theorem flX7_22 : h_FL RX7 22 7 8 (.array .int) true := ⟨_, _, _, rfl, by decide, rfl, rfl, by decide +kernel, List.mem_of_getElem? (i := 743) (by decide +kernel)⟩
theorem flX7_25 : h_FL RX7 25 7 9 (.array .int) true := ⟨_, _, _, rfl, by decide, rfl, rfl, by decide +kernel, List.mem_of_getElem? (i := 744) (by decide +kernel)⟩
theorem flX7_28 : h_FL RX7 28 7 10 (.array .int) true := ⟨_, _, _, rfl, by decide, rfl, rfl, by decide +kernel, List.mem_of_getElem? (i := 745) (by decide +kernel)⟩
theorem flX7_31 : h_FL RX7 31 7 11 (.array .int) true := ⟨_, _, _, rfl, by decide, rfl, rfl, by decide +kernel, List.mem_of_getElem? (i := 746) (by decide +kernel)⟩
theorem flX7_34 : h_FL RX7 34 7 12 (.array .int) true := ⟨_, _, _, rfl, by decide, rfl, rfl, by decide +kernel, List.mem_of_getElem? (i := 747) (by decide +kernel)⟩
theorem flX7_37 : h_FL RX7 37 7 13 (.array .int) true := ⟨_, _, _, rfl, by decide, rfl, rfl, by decide +kernel, List.mem_of_getElem? (i := 748) (by decide +kernel)⟩
theorem flX7_40 : h_FL RX7 40 7 14 (.array .int) true := ⟨_, _, _, rfl, by decide, rfl, rfl, by decide +kernel, List.mem_of_getElem? (i := 749) (by decide +kernel)⟩
theorem flX7_43 : h_FL RX7 43 7 15 (.array .int) true := ⟨_, _, _, rfl, by decide, rfl, rfl, by decide +kernel, List.mem_of_getElem? (i := 750) (by decide +kernel)⟩
theorem flX7_46 : h_FL RX7 46 7 16 (.array .boolean) true := ⟨_, _, _, rfl, by decide, rfl, rfl, by decide +kernel, List.mem_of_getElem? (i := 751) (by decide +kernel)⟩
theorem flX7_50 : h_FL RX7 50 7 17 (.array .boolean) true := ⟨_, _, _, rfl, by decide, rfl, rfl, by decide +kernel, List.mem_of_getElem? (i := 752) (by decide +kernel)⟩
theorem flX7_53 : h_FL RX7 53 7 18 (.array .boolean) true := ⟨_, _, _, rfl, by decide, rfl, rfl, by decide +kernel, List.mem_of_getElem? (i := 753) (by decide +kernel)⟩
theorem flX7_56 : h_FL RX7 56 7 19 (.array .byte) true := ⟨_, _, _, rfl, by decide, rfl, rfl, by decide +kernel, List.mem_of_getElem? (i := 754) (by decide +kernel)⟩
theorem flX7_179 : h_FL RX7 179 7 20 .int false := ⟨_, _, _, rfl, by decide, rfl, rfl, by decide +kernel, List.mem_of_getElem? (i := 755) (by decide +kernel)⟩
theorem flX7_205 : h_FL RX7 205 7 21 .int false := ⟨_, _, _, rfl, by decide, rfl, rfl, by decide +kernel, List.mem_of_getElem? (i := 756) (by decide +kernel)⟩
theorem flX7_60 : h_FL RX7 60 7 22 (.array .int) true := ⟨_, _, _, rfl, by decide, rfl, rfl, by decide +kernel, List.mem_of_getElem? (i := 757) (by decide +kernel)⟩
theorem flX7_63 : h_FL RX7 63 7 23 (.array .int) true := ⟨_, _, _, rfl, by decide, rfl, rfl, by decide +kernel, List.mem_of_getElem? (i := 758) (by decide +kernel)⟩
theorem flX7_66 : h_FL RX7 66 7 24 (.array .int) true := ⟨_, _, _, rfl, by decide, rfl, rfl, by decide +kernel, List.mem_of_getElem? (i := 759) (by decide +kernel)⟩
theorem flX7_69 : h_FL RX7 69 7 25 (.array .int) true := ⟨_, _, _, rfl, by decide, rfl, rfl, by decide +kernel, List.mem_of_getElem? (i := 760) (by decide +kernel)⟩
theorem flX7_182 : h_FL RX7 182 7 26 .int false := ⟨_, _, _, rfl, by decide, rfl, rfl, by decide +kernel, List.mem_of_getElem? (i := 761) (by decide +kernel)⟩
theorem flX7_188 : h_FL RX7 188 7 27 .int false := ⟨_, _, _, rfl, by decide, rfl, rfl, by decide +kernel, List.mem_of_getElem? (i := 762) (by decide +kernel)⟩
theorem flX7_72 : h_FL RX7 72 7 28 (.array .long) true := ⟨_, _, _, rfl, by decide, rfl, rfl, by decide +kernel, List.mem_of_getElem? (i := 763) (by decide +kernel)⟩
theorem flX7_235 : h_FL RX7 235 7 29 .int false := ⟨_, _, _, rfl, by decide, rfl, rfl, by decide +kernel, List.mem_of_getElem? (i := 764) (by decide +kernel)⟩
theorem flX7_76 : h_FL RX7 76 7 30 (.array .int) true := ⟨_, _, _, rfl, by decide, rfl, rfl, by decide +kernel, List.mem_of_getElem? (i := 765) (by decide +kernel)⟩
theorem flX7_79 : h_FL RX7 79 7 31 (.array .int) true := ⟨_, _, _, rfl, by decide, rfl, rfl, by decide +kernel, List.mem_of_getElem? (i := 766) (by decide +kernel)⟩
theorem flX7_82 : h_FL RX7 82 7 32 (.array .int) true := ⟨_, _, _, rfl, by decide, rfl, rfl, by decide +kernel, List.mem_of_getElem? (i := 767) (by decide +kernel)⟩
theorem flX7_85 : h_FL RX7 85 7 33 (.array .long) true := ⟨_, _, _, rfl, by decide, rfl, rfl, by decide +kernel, List.mem_of_getElem? (i := 768) (by decide +kernel)⟩
theorem flX7_88 : h_FL RX7 88 7 34 (.array .long) true := ⟨_, _, _, rfl, by decide, rfl, rfl, by decide +kernel, List.mem_of_getElem? (i := 769) (by decide +kernel)⟩
theorem flX7_91 : h_FL RX7 91 7 35 (.array .boolean) true := ⟨_, _, _, rfl, by decide, rfl, rfl, by decide +kernel, List.mem_of_getElem? (i := 770) (by decide +kernel)⟩
theorem flX7_94 : h_FL RX7 94 7 36 (.array .long) true := ⟨_, _, _, rfl, by decide, rfl, rfl, by decide +kernel, List.mem_of_getElem? (i := 771) (by decide +kernel)⟩
theorem flX7_97 : h_FL RX7 97 7 37 (.array .long) true := ⟨_, _, _, rfl, by decide, rfl, rfl, by decide +kernel, List.mem_of_getElem? (i := 772) (by decide +kernel)⟩
theorem flX7_101 : h_FL RX7 101 7 38 (.array .int) true := ⟨_, _, _, rfl, by decide, rfl, rfl, by decide +kernel, List.mem_of_getElem? (i := 773) (by decide +kernel)⟩
theorem flX7_104 : h_FL RX7 104 7 39 (.array .int) true := ⟨_, _, _, rfl, by decide, rfl, rfl, by decide +kernel, List.mem_of_getElem? (i := 774) (by decide +kernel)⟩
theorem flX7_107 : h_FL RX7 107 7 40 (.array .int) true := ⟨_, _, _, rfl, by decide, rfl, rfl, by decide +kernel, List.mem_of_getElem? (i := 775) (by decide +kernel)⟩
theorem flX7_253 : h_FL RX7 253 7 41 .long false := ⟨_, _, _, rfl, by decide, rfl, rfl, by decide +kernel, List.mem_of_getElem? (i := 776) (by decide +kernel)⟩
theorem flX7_110 : h_FL RX7 110 7 42 (.array .int) true := ⟨_, _, _, rfl, by decide, rfl, rfl, by decide +kernel, List.mem_of_getElem? (i := 777) (by decide +kernel)⟩
theorem flX7_113 : h_FL RX7 113 7 43 (.array .int) true := ⟨_, _, _, rfl, by decide, rfl, rfl, by decide +kernel, List.mem_of_getElem? (i := 778) (by decide +kernel)⟩
theorem flX7_116 : h_FL RX7 116 7 44 (.array .int) true := ⟨_, _, _, rfl, by decide, rfl, rfl, by decide +kernel, List.mem_of_getElem? (i := 779) (by decide +kernel)⟩
theorem flX7_119 : h_FL RX7 119 7 45 (.array .int) true := ⟨_, _, _, rfl, by decide, rfl, rfl, by decide +kernel, List.mem_of_getElem? (i := 780) (by decide +kernel)⟩
theorem flX7_122 : h_FL RX7 122 7 46 (.array .int) true := ⟨_, _, _, rfl, by decide, rfl, rfl, by decide +kernel, List.mem_of_getElem? (i := 781) (by decide +kernel)⟩
theorem flX7_125 : h_FL RX7 125 7 47 (.array .int) true := ⟨_, _, _, rfl, by decide, rfl, rfl, by decide +kernel, List.mem_of_getElem? (i := 782) (by decide +kernel)⟩
theorem flX7_128 : h_FL RX7 128 7 48 (.array .int) true := ⟨_, _, _, rfl, by decide, rfl, rfl, by decide +kernel, List.mem_of_getElem? (i := 783) (by decide +kernel)⟩
-- ===== the classes of the world =====
def h_CK (C : String) (T : u_T) (N : Nat) : Prop := (∀ w ∈ u_ws C T N, w ∈ lw_tbl) ∧ (∃ ty : Nat → FieldType, ∀ k, k < N → parseFieldDescriptor (T k).2.2.1 = some (ty k)) ∧ (∀ a, a < N → ∀ b, b < N → a ≠ b → (T a).2.1 ≠ (T b).2.1) ∧ Cond.instantiable C N ∈ lw_tbl ∧ Cond.initialized C ∈ lw_tbl
theorem ckwX0 : u_ws RX0 TX0 7 = ([121, 123, 125, 127, 129, 131, 133] : List Nat).filterMap (fun i => lw_tbl[i]?) := by decide +kernel
theorem ckX0 : h_CK RX0 TX0 7 := ⟨fun w h => by rw [ckwX0] at h; obtain ⟨i, -, hi⟩ := List.mem_filterMap.mp h; exact List.mem_of_getElem? hi, ⟨tyX0, tyX0_ok⟩, nmX0, List.mem_of_getElem? (i := 109) (by decide +kernel), List.mem_of_getElem? (i := 52) (by decide +kernel)⟩
theorem ckwX1 : u_ws RX1 TX1 12 = ([312, 314, 316, 318, 320, 322, 324, 326, 328, 330, 332, 334] : List Nat).filterMap (fun i => lw_tbl[i]?) := by decide +kernel
theorem ckX1 : h_CK RX1 TX1 12 := ⟨fun w h => by rw [ckwX1] at h; obtain ⟨i, -, hi⟩ := List.mem_filterMap.mp h; exact List.mem_of_getElem? hi, ⟨tyX1, tyX1_ok⟩, nmX1, List.mem_of_getElem? (i := 285) (by decide +kernel), List.mem_of_getElem? (i := 57) (by decide +kernel)⟩
theorem ckwX2 : u_ws RX2 TX2 3 = ([503, 505, 507] : List Nat).filterMap (fun i => lw_tbl[i]?) := by decide +kernel
theorem ckX2 : h_CK RX2 TX2 3 := ⟨fun w h => by rw [ckwX2] at h; obtain ⟨i, -, hi⟩ := List.mem_filterMap.mp h; exact List.mem_of_getElem? hi, ⟨tyX2, tyX2_ok⟩, nmX2, List.mem_of_getElem? (i := 475) (by decide +kernel), List.mem_of_getElem? (i := 62) (by decide +kernel)⟩
theorem ckwX3 : u_ws RX3 TX3 9 = ([162, 164, 166, 168, 170, 172, 174, 176, 178] : List Nat).filterMap (fun i => lw_tbl[i]?) := by decide +kernel
theorem ckX3 : h_CK RX3 TX3 9 := ⟨fun w h => by rw [ckwX3] at h; obtain ⟨i, -, hi⟩ := List.mem_filterMap.mp h; exact List.mem_of_getElem? hi, ⟨tyX3, tyX3_ok⟩, nmX3, List.mem_of_getElem? (i := 140) (by decide +kernel), List.mem_of_getElem? (i := 54) (by decide +kernel)⟩
theorem ckwX4 : u_ws RX4 TX4 4 = ([254, 256, 258, 260] : List Nat).filterMap (fun i => lw_tbl[i]?) := by decide +kernel
theorem ckX4 : h_CK RX4 TX4 4 := ⟨fun w h => by rw [ckwX4] at h; obtain ⟨i, -, hi⟩ := List.mem_filterMap.mp h; exact List.mem_of_getElem? hi, ⟨tyX4, tyX4_ok⟩, nmX4, List.mem_of_getElem? (i := 240) (by decide +kernel), List.mem_of_getElem? (i := 56) (by decide +kernel)⟩
theorem ckwX5 : u_ws RX5 TX5 5 = ([93, 95, 97, 99, 101] : List Nat).filterMap (fun i => lw_tbl[i]?) := by decide +kernel
theorem ckX5 : h_CK RX5 TX5 5 := ⟨fun w h => by rw [ckwX5] at h; obtain ⟨i, -, hi⟩ := List.mem_filterMap.mp h; exact List.mem_of_getElem? hi, ⟨tyX5, tyX5_ok⟩, nmX5, List.mem_of_getElem? (i := 80) (by decide +kernel), List.mem_of_getElem? (i := 51) (by decide +kernel)⟩
theorem ckwX6 : u_ws RX6 TX6 17 = ([198, 200, 202, 204, 206, 208, 210, 212, 214, 216, 218, 220, 222, 224, 226, 228, 230] : List Nat).filterMap (fun i => lw_tbl[i]?) := by decide +kernel
theorem ckX6 : h_CK RX6 TX6 17 := ⟨fun w h => by rw [ckwX6] at h; obtain ⟨i, -, hi⟩ := List.mem_filterMap.mp h; exact List.mem_of_getElem? hi, ⟨tyX6, tyX6_ok⟩, nmX6, List.mem_of_getElem? (i := 66) (by decide +kernel), List.mem_of_getElem? (i := 50) (by decide +kernel)⟩
theorem ckwX7 : u_ws RX7 TX7 49 = ([784, 786, 788, 790, 792, 794, 796, 798, 800, 802, 804, 806, 808, 810, 812, 814, 816, 818, 820, 822, 824, 826, 828, 830, 832, 834, 836, 838, 840, 842, 844, 846, 848, 850, 852, 854, 856, 858, 860, 862, 864, 866, 868, 870, 872, 874, 876, 878, 880] : List Nat).filterMap (fun i => lw_tbl[i]?) := by decide +kernel
theorem ckX7 : h_CK RX7 TX7 49 := ⟨fun w h => by rw [ckwX7] at h; obtain ⟨i, -, hi⟩ := List.mem_filterMap.mp h; exact List.mem_of_getElem? hi, ⟨tyX7, tyX7_ok⟩, nmX7, List.mem_of_getElem? (i := 730) (by decide +kernel), List.mem_of_getElem? (i := 55) (by decide +kernel)⟩
theorem h_cls (ci : Nat) (C : String) (T : u_T) (N : Nat) (h : vwCl[ci]? = some (C, T, N)) : h_CK C T N := by
  match ci, h with
  | 0, h => cases h; exact ckX0
  | 1, h => cases h; exact ckX1
  | 2, h => cases h; exact ckX2
  | 3, h => cases h; exact ckX3
  | 4, h => cases h; exact ckX4
  | 5, h => cases h; exact ckX5
  | 6, h => cases h; exact ckX6
  | 7, h => cases h; exact ckX7
  | n + 8, h => simp [vwCl] at h
/-! methods: own class, name, bytes, locals, return type, what each place decodes to -/
abbrev hM : Type := String × MethodName × ByteArray × Nat × Option FieldType × List (Nat × (Instr × Nat))
abbrev h_own (M : hM) : String := M.1
abbrev h_y (M : hM) : MethodName := M.2.1
abbrev h_cc (M : hM) : ByteArray := M.2.2.1
abbrev h_nL (M : hM) : Nat := M.2.2.2.1
abbrev h_ret (M : hM) : Option FieldType := M.2.2.2.2.1
abbrev h_tab (M : hM) : List (Nat × (Instr × Nat)) := M.2.2.2.2.2
/-- what the tables say of a method: its code, its class, how many arguments -/
def h_MI (M : hM) (n : Nat) : Prop := Cond.code (h_y M) (h_cc M) (h_nL M) (h_ret M) ∈ lw_tbl ∧ plainName (h_y M).cls = true ∧ (h_y M).cls = h_own M ∧ ((h_y M).cls ≠ "java/lang/invoke/MethodHandle" ∧ (h_y M).cls ≠ "java/lang/invoke/VarHandle" ∧ (parseMethodDescriptor (h_y M).desc).map (fun d => d.parameters.length) = some n) ∧ (∀ q ∈ h_tab M, decode (h_cc M) q.1 = .ok q.2)
end
section
/-! THE ABSTRACT HEAP: keys instead of addresses; a method's contract speaks of keys and cells alone. -/
section HCORE
abbrev hG : Type := va_G × (FieldType → ClassId)
abbrev hE : Type := (FieldType × vp_A) ⊕ (Nat × List Value)
abbrev hH : Type := Nat → Option hE
def h_rv (α : Nat → Nat) (v : Value) : Value := match v with
  | .ref k => .ref (α k)
  | v => v
def h_ra (α : Nat → Nat) (a : vp_A) : vp_A := match a with
  | (n, .inr (.inr (.inr (.inr f)))) => (n, .inr (.inr (.inr (.inr (fun j => (f j).map α)))))
  | a => a
def h_re (D : hG) (α : Nat → Nat) (e : hE) : va_E := match e with
  | .inl q => .inl (D.2 q.1, h_ra α q.2)
  | .inr q => .inr (q.1, q.2.map (h_rv α))
def h_P (D : hG) (α : Nat → Nat) (h : hH) (H : Heap) : Prop := ∀ (k : Nat) (e : hE), h k = some e → va_at D.1 vwCl (α k, h_re D α e) H
def h_D (A : Nat → Prop) (α : Nat → Nat) (h : hH) : Prop := (∀ i j : Nat, h i ≠ none → h j ≠ none → α i = α j → i = j) ∧ ∀ k : Nat, k < 9000 → h k ≠ none → A (α k)
/-- closed: a reference is to a key that is there -/
def h_cv (h : hH) (v : Value) : Prop := match v with
  | .ref k => h k ≠ none
  | _ => True
def h_ce (h : hH) (e : hE) : Prop := match e with
  | .inl (_, _, .inr (.inr (.inr (.inr f)))) => ∀ (j k : Nat), f j = some k → h k ≠ none
  | .inl _ => True
  | .inr q => ∀ v ∈ q.2, h_cv h v
def h_cH (h : hH) : Prop := ∀ (k : Nat) (e : hE), h k = some e → h_ce h e
def h_cl (h : hH) (st : List Value) : Prop := ∀ v ∈ st, h_cv h v
def h_ll (h : hH) (ls : List (Nat × Value)) : Prop := ∀ q ∈ ls, h_cv h q.2
def h_AA (α0 : Nat → Nat) (h0 : hH) (n : Nat) : Nat → Prop := fun q => (∃ k : Nat, k < 9000 ∧ h0 k ≠ none ∧ q = α0 k) ∨ n ≤ q
abbrev h_tys (D : hG) : List (ClassId × FieldType) := [(D.2 .int, .int), (D.2 .long, .long), (D.2 .byte, .byte), (D.2 .boolean, .boolean), (D.2 (.object RX4), .object RX4), (D.2 (.object RX1), .object RX1), (D.2 (.object RX2), .object RX2), (D.2 (.object RX3), .object RX3)]
abbrev h_nest : List (String × Nat × MethodName × String) := [(RX6, 29, yX5_init, RX6), (RX6, 62, yX0_init, RX6), (RX6, 73, yX3_init, RX6), (RX5, 52, yX6_within, RX6), (RX1, 44, yX6_within, RX6), (RX0, 70, yX6_isMint, RX6), (RX0, 74, yX6_isTown, RX6)]
def h_K (D : hG) (U : State) : Prop := va_K D.1 vwCl (h_tys D) U ∧ (∀ q ∈ h_nest, va_Nw (.methodLinkNest q.1 q.2.1 q.2.2.1 q.2.2.2) U) ∧ (∀ C ∈ [RX4, RX1, RX2, RX3], va_AO C U)
def hw_tbl : List Cond := lw_tbl.filter goodWord
theorem h_in {w : Cond} (h : w ∈ lw_tbl) (g : goodWord w = true) : w ∈ hw_tbl := List.mem_filter.mpr ⟨h, g⟩
theorem h_good : GoodIn hw_tbl hw_tbl := fun w h => ⟨h, good_of_word (List.mem_filter.mp h).2⟩
def h_ws (M : hM) : List Cond := Cond.code (h_y M) (h_cc M) (h_nL M) (h_ret M) :: hw_tbl
def fnd {β : Type} : List (Nat × β) → Nat → Option β
  | [], _ => none
  | (a, b) :: l, k => bif Nat.beq a k then some b else fnd l k
theorem fnd_mem {β : Type} : ∀ (l : List (Nat × β)) (k : Nat) (b : β), fnd l k = some b → (k, b) ∈ l
  | [], k, b, h => by cases h
  | (a, c) :: l, k, b, h => by
    unfold fnd at h
    cases hq : Nat.beq a k with
    | true =>
      rw [hq] at h
      have e1 := Nat.eq_of_beq_eq_true hq
      cases h
      subst e1
      exact List.mem_cons_self
    | false =>
      rw [hq] at h
      exact List.mem_cons_of_mem _ (fnd_mem l k b h)
def h_Cx (M : hM) (p : Program) (s : State) (m : MethodId) (args : Array Value) (meth : Method) (c : Code) (D : hG) : Prop :=
  p.tables.exec = Jvm.exec ∧ c.code = h_cc M ∧ c.maxLocals = h_nL M ∧ s.vm.findClass (h_own M) = some m.cls ∧ (∀ w ∈ hw_tbl, w.before args s = true) ∧ meth.sig.returnType = h_ret M ∧ meth.locks = false ∧ ((h_y M).name = "<init>" → meth.name = "<init>") ∧ h_K D s ∧ (∀ q ∈ h_tab M, decode (h_cc M) q.1 = .ok q.2)
def h_Wd (D : hG) (α : Nat → Nat) (h : hH) (α0 : Nat → Nat) (h0 : hH) (s : State) (H : Heap) (locs : List Loc) : Prop :=
  h_P D α h H ∧ h_D (h_AA α0 h0 s.heap.size) α h ∧ va_S (h_AA α0 h0 s.heap.size) s.heap H locs ∧ (∀ k : Nat, h0 k ≠ none → h k ≠ none ∧ α k = α0 k) ∧ h_cH h
def h_QQ (D : hG) (α0 : Nat → Nat) (h0 : hH) (Q : Option Value → hH → Prop) : Array Value → State → Outcome → State → Prop := fun _ st o t =>
  ∃ (v : Option Value) (h' : hH) (α' : Nat → Nat), o = .returned (v.map (h_rv α')) ∧ Q v h' ∧ h_P D α' h' t.heap ∧ h_D (h_AA α0 h0 st.heap.size) α' h' ∧ (∀ k : Nat, h0 k ≠ none → h' k ≠ none ∧ α' k = α0 k) ∧ h_cH h' ∧ (∀ w : Value, v = some w → h_cv h' w) ∧ va_F (h_AA α0 h0 st.heap.size) st t
/-- FROM HERE THE METHOD ENDS WITH Q: at pc, with locals ls and stack st, over the abstract heap h -/
def J (M : hM) (R : Room) (Q : Option Value → hH → Prop) (cells slots : Nat) (h : hH) (pc : Nat) (ls : List (Nat × Value)) (st : List Value) : Prop :=
  ∀ (p : Program) (l : Launch) (e : Env) (s : State) (m : MethodId) (args : Array Value) (below : List Frame) (meth : Method) (c : Code) (H : Heap) (locs : List Loc) (D : hG) (α α0 : Nat → Nat) (h0 : hH) (lsA : Array Slot),
    h_Cx M p s m args meth c D → h_Wd D α h α0 h0 s H locs → h_ll h ls → h_cl h st → lv_has lsA (h_nL M) (ls.map (fun q => (q.1, h_rv α q.2))) →
    W p l e R s m args below meth c H locs cells slots (MQ below (h_QQ D α0 h0 Q) args s R.cells R.slots (h_AA α0 h0 s.heap.size)) (F0 m pc lsA (st.map (h_rv α)))
/-- A METHOD'S CONTRACT over the abstract heap -/
def Sp (M : hM) (R : Room) (av : List Value) (h : hH) (Q : Option Value → hH → Prop) : Prop :=
  ∀ (l : Launch) (D : hG) (α : Nat → Nat) (sz : Nat), Met l (h_y M) (h_ws M) R
    (va_Pc (av.map (h_rv α)) (fun U => U.heap.size = sz ∧ h_K D U ∧ h_P D α h U.heap ∧ h_D (fun _ => True) α h ∧ h_cH h ∧ h_cl h av)) (h_QQ D α h Q) R.cells R.slots (h_AA α h sz)
theorem h_rv_cat (α : Nat → Nat) (v : Value) : (h_rv α v).category = v.category := by cases v <;> rfl
theorem h_rv_ext {h : hH} {α α' : Nat → Nat} (e : ∀ k : Nat, h k ≠ none → α' k = α k) {v : Value} (c : h_cv h v) : h_rv α' v = h_rv α v := by
  cases v with
  | ref k => show Value.ref _ = Value.ref _; rw [e k c]
  | _ => rfl
theorem h_map_ext {h : hH} {α α' : Nat → Nat} (e : ∀ k : Nat, h k ≠ none → α' k = α k) {st : List Value} (c : h_cl h st) : st.map (h_rv α') = st.map (h_rv α) := List.map_congr_left fun v hv => h_rv_ext e (c v hv)
theorem h_lmap_ext {h : hH} {α α' : Nat → Nat} (e : ∀ k : Nat, h k ≠ none → α' k = α k) {ls : List (Nat × Value)} (c : h_ll h ls) : ls.map (fun q => (q.1, h_rv α' q.2)) = ls.map (fun q => (q.1, h_rv α q.2)) := List.map_congr_left fun q hq => by rw [h_rv_ext e (c q hq)]
theorem h_re_ext {D : hG} {h : hH} {α α' : Nat → Nat} (e : ∀ k : Nat, h k ≠ none → α' k = α k) {x : hE} (c : h_ce h x) : h_re D α' x = h_re D α x := by
  cases x with
  | inl q =>
    obtain ⟨t, n, f | f | f | f | f⟩ := q
    · rfl
    · rfl
    · rfl
    · rfl
    · show Sum.inl _ = Sum.inl _
      congr 2
      show (n, _) = (n, _)
      congr 5
      funext j
      cases hj : f j with
      | none => rfl
      | some k => show some _ = some _; rw [e k (c j k hj)]
  | inr q =>
    show Sum.inr _ = Sum.inr _
    rw [h_map_ext e c]
theorem h_cv_mono {h h' : hH} (e : ∀ k : Nat, h k ≠ none → h' k ≠ none) {v : Value} (c : h_cv h v) : h_cv h' v := by
  cases v with
  | ref k => exact e k c
  | _ => trivial
theorem h_cl_mono {h h' : hH} (e : ∀ k : Nat, h k ≠ none → h' k ≠ none) {st : List Value} (c : h_cl h st) : h_cl h' st := fun v hv => h_cv_mono e (c v hv)
theorem h_ll_mono {h h' : hH} (e : ∀ k : Nat, h k ≠ none → h' k ≠ none) {ls : List (Nat × Value)} (c : h_ll h ls) : h_ll h' ls := fun v hv => h_cv_mono e (c v hv)
theorem h_ce_mono {h h' : hH} (e : ∀ k : Nat, h k ≠ none → h' k ≠ none) {x : hE} (c : h_ce h x) : h_ce h' x := by
  cases x with
  | inl q =>
    obtain ⟨t, n, f | f | f | f | f⟩ := q
    · trivial
    · trivial
    · trivial
    · trivial
    · exact fun j k hj => e k (c j k hj)
  | inr q => exact fun v hv => h_cv_mono e (c v hv)
theorem h_cl_cons {h : hH} {v : Value} {st : List Value} (a : h_cv h v) (b : h_cl h st) : h_cl h (v :: st) := fun w hw => by
  rcases List.mem_cons.mp hw with e | e
  · rw [e]; exact a
  · exact b w e
theorem h_cl_hd {h : hH} {v : Value} {st : List Value} (b : h_cl h (v :: st)) : h_cv h v := b v List.mem_cons_self
theorem h_cl_tl {h : hH} {v : Value} {st : List Value} (b : h_cl h (v :: st)) : h_cl h st := fun w hw => b w (List.mem_cons_of_mem _ hw)
theorem h_cl_i {h : hH} {x : Int32} {st : List Value} (b : h_cl h st) : h_cl h (.int x :: st) := h_cl_cons trivial b
theorem h_cl_l {h : hH} {x : Int64} {st : List Value} (b : h_cl h st) : h_cl h (.long x :: st) := h_cl_cons trivial b
def hup (h : hH) (k : Nat) (e : hE) : hH := fun j => if j = k then some e else h j
theorem hup_self (h : hH) (k : Nat) (e : hE) : hup h k e k = some e := if_pos rfl
theorem hup_ne {h : hH} {k j : Nat} {e : hE} (n : j ≠ k) : hup h k e j = h j := if_neg n
theorem hup_mono {h : hH} {k : Nat} {e : hE} (j : Nat) (q : h j ≠ none) : hup h k e j ≠ none := by
  by_cases hj : j = k
  · rw [hj, hup_self]; exact fun z => by cases z
  · rw [hup_ne hj]; exact q
/-- a cell is written -/
theorem h_Wd.put {D : hG} {α : Nat → Nat} {h : hH} {α0 : Nat → Nat} {h0 : hH} {s : State} {H H1 : Heap} {locs : List Loc} {i : Nat} (hW : h_Wd D α h α0 h0 s H locs) {k : Nat} {e0 e : hE} (hk : h k = some e0) (hro : k < 9000) (hc : h_ce h e)
    (he : va_at D.1 vwCl (α k, h_re D α e) H1) (hz : H1.size = H.size) (oq : ∀ q : Nat, q ≠ α k → H1[q]? = H[q]?) : h_Wd D α (hup h k e) α0 h0 s H1 (locs ++ [⟨α k, i⟩]) := by
  obtain ⟨hP, hD, hS, hX, hC⟩ := hW
  have hne : ∀ j : Nat, hup h k e j ≠ none → h j ≠ none := fun j q => by
    by_cases hj : j = k
    · rw [hj, hk]; exact fun z => by cases z
    · rwa [hup_ne hj] at q
  have hkn : h k ≠ none := by rw [hk]; exact fun z => by cases z
  refine ⟨fun j x hj => ?_, ⟨fun i j hi hj => hD.1 i j (hne i hi) (hne j hj), fun j hj q => hD.2 j hj (hne j q)⟩, hS.put hz oq (hD.2 k hro hkn), fun j q => ⟨hup_mono j (hX j q).1, (hX j q).2⟩, fun j x hj => ?_⟩
  · by_cases hjk : j = k
    · subst hjk
      rw [hup_self] at hj
      cases hj
      exact he
    · rw [hup_ne hjk] at hj
      exact (hP j x hj).kept (oq _ fun z => hjk (hD.1 j k (by rw [hj]; exact fun z => by cases z) hkn z))
  · by_cases hjk : j = k
    · subst hjk
      rw [hup_self] at hj
      cases hj
      exact h_ce_mono hup_mono hc
    · rw [hup_ne hjk] at hj
      exact h_ce_mono hup_mono (hC j x hj)
def h_al (α : Nat → Nat) (k a : Nat) : Nat → Nat := fun j => if j = k then a else α j
/-- a cell is made -/
theorem h_Wd.push {D : hG} {α : Nat → Nat} {h : hH} {α0 : Nat → Nat} {h0 : hH} {s : State} {H H1 : Heap} {locs : List Loc} (hW : h_Wd D α h α0 h0 s H locs) {k : Nat} {e : hE} (hk : h k = none) (hc : h_ce h e)
    (he : va_at D.1 vwCl (H.size, h_re D α e) H1) (hz : H1.size = H.size + 1) (oq : ∀ q : Nat, q < H.size → H1[q]? = H[q]?) : h_Wd D (h_al α k H.size) (hup h k e) α0 h0 s H1 locs ∧ ∀ j : Nat, h j ≠ none → h_al α k H.size j = α j := by
  obtain ⟨hP, hD, hS, hX, hC⟩ := hW
  have hal : ∀ j : Nat, h j ≠ none → h_al α k H.size j = α j := fun j q => if_neg fun z => q (by rw [z]; exact hk)
  have hlt : ∀ j : Nat, h j ≠ none → α j < H.size := fun j q => by
    cases hj : h j with
    | none => exact absurd hj q
    | some x => exact (hP j x hj).lt
  have hne : ∀ j : Nat, hup h k e j ≠ none → j = k ∨ h j ≠ none := fun j q => by
    by_cases hj : j = k
    · exact Or.inl hj
    · rw [hup_ne hj] at q; exact Or.inr q
  have hself : h_al α k H.size k = H.size := if_pos rfl
  refine ⟨⟨fun j x hj => ?_, ⟨fun i j hi hj hij => ?_, fun j hj q => ?_⟩, ⟨Nat.le_trans hS.1 (by omega), fun q h1 h2 => (oq q (Nat.lt_of_lt_of_le h1 hS.1)).trans (hS.2.1 q h1 h2), hS.2.2⟩, fun j q => ⟨hup_mono j (hX j q).1, (hal j (hX j q).1).trans (hX j q).2⟩, fun j x hj => ?_⟩, hal⟩
  · by_cases hjk : j = k
    · subst hjk
      rw [hup_self] at hj
      cases hj
      rw [hself, h_re_ext hal hc]
      exact he
    · rw [hup_ne hjk] at hj
      have q : h j ≠ none := by rw [hj]; exact fun z => by cases z
      rw [hal j q, h_re_ext hal (hC j x hj)]
      exact (hP j x hj).kept (oq _ (hlt j q))
  · rcases hne i hi with ei | qi
    · rcases hne j hj with ej | qj
      · rw [ei, ej]
      · rw [ei, hself, hal j qj] at hij; exact absurd (hlt j qj) (by omega)
    · rcases hne j hj with ej | qj
      · rw [ej, hself, hal i qi] at hij; exact absurd (hlt i qi) (by omega)
      · rw [hal i qi, hal j qj] at hij; exact hD.1 i j qi qj hij
  · rcases hne j q with rfl | q
    · rw [hself]; exact Or.inr hS.1
    · rw [hal j q]; exact hD.2 j hj q
  · by_cases hjk : j = k
    · subst hjk
      rw [hup_self] at hj
      cases hj
      exact h_ce_mono hup_mono hc
    · rw [hup_ne hjk] at hj
      exact h_ce_mono hup_mono (hC j x hj)
theorem h_has {lsA : Array Slot} {n : Nat} {α : Nat → Nat} {ls : List (Nat × Value)} (hl : lv_has lsA n (ls.map (fun q => (q.1, h_rv α q.2)))) {i : Nat} {v : Value} (hv : fnd ls i = some v) : lsA[i]? = some (.val (h_rv α v)) :=
  hl.2.2 (i, h_rv α v) (List.mem_map.mpr ⟨(i, v), fnd_mem _ _ _ hv, rfl⟩)
theorem h_lat {h : hH} {ls : List (Nat × Value)} (c : h_ll h ls) {i : Nat} {v : Value} (hv : fnd ls i = some v) : h_cv h v := c (i, v) (fnd_mem _ _ _ hv)
theorem h_dec {M : hM} {p : Program} {s : State} {m : MethodId} {args : Array Value} {meth : Method} {c : Code} {D : hG} (C : h_Cx M p s m args meth c D) {pc : Nat} {x : Instr × Nat} (hd : fnd (h_tab M) pc = some x) : decode (h_cc M) pc = .ok x := C.2.2.2.2.2.2.2.2.2 (pc, x) (fnd_mem _ _ _ hd)
/-- locals after a store of one word, of two -/
def lset1 (i : Nat) (v : Value) (ls : List (Nat × Value)) : List (Nat × Value) := (i, v) :: ls.filter (fun q => !(q.1 == i) && !(q.1 + 1 == i && q.2.category == 2))
def lset2 (i : Nat) (v : Value) (ls : List (Nat × Value)) : List (Nat × Value) := (i, v) :: ls.filter (fun q => !(q.1 == i) && (!(q.1 == i + 1) && !(q.1 + 1 == i && q.2.category == 2)))
theorem h_lset1 (α : Nat → Nat) (i : Nat) (v : Value) (ls : List (Nat × Value)) : (i, h_rv α v) :: (ls.map (fun q => (q.1, h_rv α q.2))).filter (fun q => !(q.1 == i) && !(q.1 + 1 == i && q.2.category == 2)) = (lset1 i v ls).map (fun q => (q.1, h_rv α q.2)) := by
  unfold lset1
  rw [List.map_cons, List.filter_map]
  congr 2
  apply List.filter_congr
  intro q _
  simp [Function.comp, h_rv_cat]
theorem h_lset2 (α : Nat → Nat) (i : Nat) (v : Value) (ls : List (Nat × Value)) : (i, h_rv α v) :: (ls.map (fun q => (q.1, h_rv α q.2))).filter (fun q => !(q.1 == i) && (!(q.1 == i + 1) && !(q.1 + 1 == i && q.2.category == 2))) = (lset2 i v ls).map (fun q => (q.1, h_rv α q.2)) := by
  unfold lset2
  rw [List.map_cons, List.filter_map]
  congr 2
  apply List.filter_congr
  intro q _
  simp [Function.comp, h_rv_cat]
theorem h_ll1 {h : hH} {ls : List (Nat × Value)} {i : Nat} {v : Value} (a : h_cv h v) (b : h_ll h ls) : h_ll h (lset1 i v ls) := fun q hq => by
  rcases List.mem_cons.mp hq with e | e
  · rw [e]; exact a
  · exact b q (List.mem_filter.mp e).1
theorem h_ll2 {h : hH} {ls : List (Nat × Value)} {i : Nat} {v : Value} (a : h_cv h v) (b : h_ll h ls) : h_ll h (lset2 i v ls) := fun q hq => by
  rcases List.mem_cons.mp hq with e | e
  · rw [e]; exact a
  · exact b q (List.mem_filter.mp e).1
/-- fewer locals -/
def subL (ls : List (Nat × Value)) : List (Nat × Value) → Prop
  | [] => True
  | q :: r => fnd ls q.1 = some q.2 ∧ subL ls r
theorem subL_all {ls : List (Nat × Value)} : ∀ {r : List (Nat × Value)}, subL ls r → ∀ q ∈ r, fnd ls q.1 = some q.2
  | [], _, q, h => by cases h
  | a :: r, c, q, h => by
    rcases List.mem_cons.mp h with e | e
    · rw [e]; exact c.1
    · exact subL_all c.2 q e
theorem j_sub {M : hM} {R : Room} {Q : Option Value → hH → Prop} {cells slots : Nat} {h : hH} {pc : Nat} {ls ls' : List (Nat × Value)} {st : List Value} (c : subL ls ls') (k : J M R Q cells slots h pc ls' st) : J M R Q cells slots h pc ls st := by
  intro p l e s m args below meth c0 H locs D α α0 h0 lsA hC hW hll hcl hl
  refine k p l e s m args below meth c0 H locs D α α0 h0 lsA hC hW (fun q hq => h_lat hll (subL_all c q hq)) hcl ⟨hl.1, hl.2.1, fun q hq => ?_⟩
  obtain ⟨x, hx, rfl⟩ := List.mem_map.mp hq
  exact h_has hl (subL_all c x hx)
theorem j_heap {M : hM} {R : Room} {Q : Option Value → hH → Prop} {cells slots : Nat} {h h' : hH} {pc : Nat} {ls : List (Nat × Value)} {st : List Value} (e : h = h') (k : J M R Q cells slots h' pc ls st) : J M R Q cells slots h pc ls st := e ▸ k
theorem j_widen {M : hM} {R : Room} {Q : Option Value → hH → Prop} {cells slots : Nat} {h : hH} {pc : Nat} {ls : List (Nat × Value)} {st : List Value} {a b : Nat} (h1 : cells ≤ a) (h2 : slots ≤ b) (k : J M R Q a b h pc ls st) : J M R Q cells slots h pc ls st := by
  intro p l e s m args below meth c0 H locs D α α0 h0 lsA hC hW hll hcl hl
  exact W.widen h1 h2 (k p l e s m args below meth c0 H locs D α α0 h0 lsA hC hW hll hcl hl)
/-- the contract out of the walk -/
theorem sp_of {M : hM} {R : Room} {av : List Value} {h : hH} {Q : Option Value → hH → Prop} {n : Nat} (I : h_MI M n) (hsz : (lg_sl av).length ≤ h_nL M) (k : J M R Q 0 0 h 0 (lv_args 0 av) []) : Sp M R av h Q := by
  intro l D α sz
  refine Met.ofW (cc := h_cc M) (maxL := h_nL M) (ret := h_ret M) I.2.1 rfl ?_
  intro p e s m args below meth c s₁ B hml hv
  obtain ⟨rfl, hsz0, hK, hP, hD, hcH, hcl⟩ := hv
  subst hsz0
  have hts := atoms_spec (ws := h_ws M) B.pre
  have hown : s.vm.findClass (h_own M) = some m.cls := by rw [← I.2.2.1]; exact findClass_of_methodNamed B.named
  have hin : (h_y M).name = "<init>" → meth.name = "<init>" := fun q => (name_of_methodNamed B.named B.method).1.trans q
  have hsl : (lg_sl (av.map (h_rv α))).length ≤ h_nL M := by
    have : ∀ l : List Value, (lg_sl (l.map (h_rv α))).length = (lg_sl l).length := by
      intro l
      induction l with
      | nil => rfl
      | cons v l ih =>
        have h1 : ∀ (n : Nat) (a b d : Slot), (if n = 2 then [a, b] else [d]).length = if n = 2 then 2 else 1 := by
          intro n a b d
          split <;> rfl
        simp only [lg_sl, List.map_cons, List.flatMap_cons, List.length_append, h1, h_rv_cat] at ih ⊢
        omega
    rw [this]; exact hsz
  have hl := lv_entry (av.map (h_rv α)) (n := h_nL M) hsl
  rw [lg_entry_eq]
  have hla : ∀ (i : Nat) (l : List Value), lv_args i (l.map (h_rv α)) = (lv_args i l).map (fun q => (q.1, h_rv α q.2)) := by
    intro i l
    induction l generalizing i with
    | nil => rfl
    | cons v l ih => simp only [List.map_cons, lv_args, h_rv_cat, ih]
  rw [hla] at hl
  have hll : h_ll h (lv_args 0 av) := by
    have : ∀ (i : Nat) (l : List Value), h_cl h l → h_ll h (lv_args i l) := by
      intro i l
      induction l generalizing i with
      | nil => intro _ q hq; cases hq
      | cons v l ih =>
        intro c q hq
        rcases List.mem_cons.mp hq with e | e
        · rw [e]; exact h_cl_hd c
        · exact ih _ (h_cl_tl c) q e
    exact this 0 av hcl
  exact k p l e s m _ below meth c s.heap [] D α α h _ ⟨B.exec, B.bytes, hml, hown, fun w hw => hts w (List.mem_cons_of_mem _ hw), B.returns, B.notSynchronized, hin, hK, I.2.2.2.2⟩ ⟨hP, ⟨hD.1, fun k hk q => Or.inl ⟨k, hk, q, rfl⟩⟩, va_S.rf, fun k q => ⟨q, rfl⟩, hcH⟩ hll (fun _ hv => by cases hv) hl
end HCORE
end
section
/-! A ROW AN INSTRUCTION, over the abstract heap (J). -/
section HINSTR
variable {M : hM} {R : Room} {Q : Option Value → hH → Prop} {cells slots : Nat} {h : hH} {pc pc' : Nat} {ls : List (Nat × Value)} {st : List Value}
theorem j_iconst {n : Int} {v : Int32} (hd : fnd (h_tab M) pc = some (.iconst n, 1)) (hp : pc + 1 = pc') (hv : Int32.ofInt n = v) (k : J M R Q cells slots h pc' ls (.int v :: st)) : J M R Q cells slots h pc ls (st) := by
  subst hp
  intro p l e s m args below meth c H locs D α α0 h0 lsA hC hW hll hcl hl
  exact lv_iconst hC.1 hC.2.1 (h_dec hC hd) hv (k p l e s m args below meth c H locs D α α0 h0 lsA hC hW hll (h_cl_i hcl) hl)
theorem j_bipush {n : Int} {v : Int32} (hd : fnd (h_tab M) pc = some (.bipush n, 2)) (hp : pc + 2 = pc') (hv : (Int8.ofInt n).toInt32 = v) (k : J M R Q cells slots h pc' ls (.int v :: st)) : J M R Q cells slots h pc ls (st) := by
  subst hp
  intro p l e s m args below meth c H locs D α α0 h0 lsA hC hW hll hcl hl
  exact lv_bipush hC.1 hC.2.1 (h_dec hC hd) hv (k p l e s m args below meth c H locs D α α0 h0 lsA hC hW hll (h_cl_i hcl) hl)
theorem j_sipush {n : Int} {v : Int32} (hd : fnd (h_tab M) pc = some (.sipush n, 3)) (hp : pc + 3 = pc') (hv : (Int16.ofInt n).toInt32 = v) (k : J M R Q cells slots h pc' ls (.int v :: st)) : J M R Q cells slots h pc ls (st) := by
  subst hp
  intro p l e s m args below meth c H locs D α α0 h0 lsA hC hW hll hcl hl
  exact lv_sipush hC.1 hC.2.1 (h_dec hC hd) hv (k p l e s m args below meth c H locs D α α0 h0 lsA hC hW hll (h_cl_i hcl) hl)
theorem j_lconst {n : Fin 2} {v : Int64} (hd : fnd (h_tab M) pc = some (.lconst n, 1)) (hp : pc + 1 = pc') (hv : Int64.ofNat (n : Nat) = v) (k : J M R Q cells slots h pc' ls (.long v :: st)) : J M R Q cells slots h pc ls (st) := by
  subst hp
  intro p l e s m args below meth c H locs D α α0 h0 lsA hC hW hll hcl hl
  exact lv_lconst hC.1 hC.2.1 (h_dec hC hd) hv (k p l e s m args below meth c H locs D α α0 h0 lsA hC hW hll (h_cl_l hcl) hl)
theorem j_null  (hd : fnd (h_tab M) pc = some (.aconst_null, 1)) (hp : pc + 1 = pc')  (k : J M R Q cells slots h pc' ls (.null :: st)) : J M R Q cells slots h pc ls (st) := by
  subst hp
  intro p l e s m args below meth c H locs D α α0 h0 lsA hC hW hll hcl hl
  exact lv_null hC.1 hC.2.1 (h_dec hC hd)  (k p l e s m args below meth c H locs D α α0 h0 lsA hC hW hll (h_cl_cons trivial hcl) hl)
theorem j_iload_n {n : Fin 4} {x : Int32} (hd : fnd (h_tab M) pc = some (.iload_n n, 1)) (hp : pc + 1 = pc') (hv : fnd ls n = some (.int x)) (k : J M R Q cells slots h pc' ls (.int x :: st)) : J M R Q cells slots h pc ls (st) := by
  subst hp
  intro p l e s m args below meth c H locs D α α0 h0 lsA hC hW hll hcl hl
  exact lv_iload_n hC.1 hC.2.1 (h_dec hC hd) rfl (h_has hl hv) (k p l e s m args below meth c H locs D α α0 h0 lsA hC hW hll (h_cl_i hcl) hl)
theorem j_iload {n : Nat} {x : Int32} (hd : fnd (h_tab M) pc = some (.iload n, 2)) (hp : pc + 2 = pc') (hv : fnd ls n = some (.int x)) (k : J M R Q cells slots h pc' ls (.int x :: st)) : J M R Q cells slots h pc ls (st) := by
  subst hp
  intro p l e s m args below meth c H locs D α α0 h0 lsA hC hW hll hcl hl
  exact lv_iload hC.1 hC.2.1 (h_dec hC hd) (h_has hl hv) (k p l e s m args below meth c H locs D α α0 h0 lsA hC hW hll (h_cl_i hcl) hl)
theorem j_lload_n {n : Fin 4} {x : Int64} (hd : fnd (h_tab M) pc = some (.lload_n n, 1)) (hp : pc + 1 = pc') (hv : fnd ls n = some (.long x)) (k : J M R Q cells slots h pc' ls (.long x :: st)) : J M R Q cells slots h pc ls (st) := by
  subst hp
  intro p l e s m args below meth c H locs D α α0 h0 lsA hC hW hll hcl hl
  exact lv_lload_n hC.1 hC.2.1 (h_dec hC hd) rfl (h_has hl hv) (k p l e s m args below meth c H locs D α α0 h0 lsA hC hW hll (h_cl_l hcl) hl)
theorem j_lload {n : Nat} {x : Int64} (hd : fnd (h_tab M) pc = some (.lload n, 2)) (hp : pc + 2 = pc') (hv : fnd ls n = some (.long x)) (k : J M R Q cells slots h pc' ls (.long x :: st)) : J M R Q cells slots h pc ls (st) := by
  subst hp
  intro p l e s m args below meth c H locs D α α0 h0 lsA hC hW hll hcl hl
  exact lv_lload hC.1 hC.2.1 (h_dec hC hd) (h_has hl hv) (k p l e s m args below meth c H locs D α α0 h0 lsA hC hW hll (h_cl_l hcl) hl)
theorem j_aload_n {n : Fin 4} {x : Nat} (hd : fnd (h_tab M) pc = some (.aload_n n, 1)) (hp : pc + 1 = pc') (hv : fnd ls n = some (.ref x)) (k : J M R Q cells slots h pc' ls (.ref x :: st)) : J M R Q cells slots h pc ls (st) := by
  subst hp
  intro p l e s m args below meth c H locs D α α0 h0 lsA hC hW hll hcl hl
  exact lv_aload_n hC.1 hC.2.1 (h_dec hC hd) rfl (h_has hl hv) (k p l e s m args below meth c H locs D α α0 h0 lsA hC hW hll (h_cl_cons (h_lat hll hv) hcl) hl)
theorem j_aload {n : Nat} {x : Nat} (hd : fnd (h_tab M) pc = some (.aload n, 2)) (hp : pc + 2 = pc') (hv : fnd ls n = some (.ref x)) (k : J M R Q cells slots h pc' ls (.ref x :: st)) : J M R Q cells slots h pc ls (st) := by
  subst hp
  intro p l e s m args below meth c H locs D α α0 h0 lsA hC hW hll hcl hl
  exact lv_aload hC.1 hC.2.1 (h_dec hC hd) (h_has hl hv) (k p l e s m args below meth c H locs D α α0 h0 lsA hC hW hll (h_cl_cons (h_lat hll hv) hcl) hl)
theorem j_aload_nN {n : Fin 4} (hd : fnd (h_tab M) pc = some (.aload_n n, 1)) (hp : pc + 1 = pc') (hv : fnd ls n = some .null) (k : J M R Q cells slots h pc' ls (.null :: st)) : J M R Q cells slots h pc ls (st) := by
  subst hp
  intro p l e s m args below meth c H locs D α α0 h0 lsA hC hW hll hcl hl
  exact lv_aload_nN hC.1 hC.2.1 (h_dec hC hd) rfl (h_has hl hv) (k p l e s m args below meth c H locs D α α0 h0 lsA hC hW hll (h_cl_cons trivial hcl) hl)
theorem j_aloadN {n : Nat} (hd : fnd (h_tab M) pc = some (.aload n, 2)) (hp : pc + 2 = pc') (hv : fnd ls n = some .null) (k : J M R Q cells slots h pc' ls (.null :: st)) : J M R Q cells slots h pc ls (st) := by
  subst hp
  intro p l e s m args below meth c H locs D α α0 h0 lsA hC hW hll hcl hl
  exact lv_aloadN hC.1 hC.2.1 (h_dec hC hd) (h_has hl hv) (k p l e s m args below meth c H locs D α α0 h0 lsA hC hW hll (h_cl_cons trivial hcl) hl)
theorem j_iadd {x y : Int32} (hd : fnd (h_tab M) pc = some (.iadd, 1)) (hp : pc + 1 = pc')  (k : J M R Q cells slots h pc' ls (.int (x + y) :: st)) : J M R Q cells slots h pc ls (.int y :: .int x :: st) := by
  subst hp
  intro p l e s m args below meth c H locs D α α0 h0 lsA hC hW hll hcl hl
  exact lv_iadd hC.1 hC.2.1 (h_dec hC hd)  (k p l e s m args below meth c H locs D α α0 h0 lsA hC hW hll (h_cl_i (h_cl_tl (h_cl_tl hcl))) hl)
theorem j_isub {x y : Int32} (hd : fnd (h_tab M) pc = some (.isub, 1)) (hp : pc + 1 = pc')  (k : J M R Q cells slots h pc' ls (.int (x - y) :: st)) : J M R Q cells slots h pc ls (.int y :: .int x :: st) := by
  subst hp
  intro p l e s m args below meth c H locs D α α0 h0 lsA hC hW hll hcl hl
  exact lv_isub hC.1 hC.2.1 (h_dec hC hd)  (k p l e s m args below meth c H locs D α α0 h0 lsA hC hW hll (h_cl_i (h_cl_tl (h_cl_tl hcl))) hl)
theorem j_imul {x y : Int32} (hd : fnd (h_tab M) pc = some (.imul, 1)) (hp : pc + 1 = pc')  (k : J M R Q cells slots h pc' ls (.int (x * y) :: st)) : J M R Q cells slots h pc ls (.int y :: .int x :: st) := by
  subst hp
  intro p l e s m args below meth c H locs D α α0 h0 lsA hC hW hll hcl hl
  exact lv_imul hC.1 hC.2.1 (h_dec hC hd)  (k p l e s m args below meth c H locs D α α0 h0 lsA hC hW hll (h_cl_i (h_cl_tl (h_cl_tl hcl))) hl)
theorem j_iand {x y : Int32} (hd : fnd (h_tab M) pc = some (.iand, 1)) (hp : pc + 1 = pc')  (k : J M R Q cells slots h pc' ls (.int (x &&& y) :: st)) : J M R Q cells slots h pc ls (.int y :: .int x :: st) := by
  subst hp
  intro p l e s m args below meth c H locs D α α0 h0 lsA hC hW hll hcl hl
  exact lv_iand hC.1 hC.2.1 (h_dec hC hd)  (k p l e s m args below meth c H locs D α α0 h0 lsA hC hW hll (h_cl_i (h_cl_tl (h_cl_tl hcl))) hl)
theorem j_ior {x y : Int32} (hd : fnd (h_tab M) pc = some (.ior, 1)) (hp : pc + 1 = pc')  (k : J M R Q cells slots h pc' ls (.int (x ||| y) :: st)) : J M R Q cells slots h pc ls (.int y :: .int x :: st) := by
  subst hp
  intro p l e s m args below meth c H locs D α α0 h0 lsA hC hW hll hcl hl
  exact lv_ior hC.1 hC.2.1 (h_dec hC hd)  (k p l e s m args below meth c H locs D α α0 h0 lsA hC hW hll (h_cl_i (h_cl_tl (h_cl_tl hcl))) hl)
theorem j_ixor {x y : Int32} (hd : fnd (h_tab M) pc = some (.ixor, 1)) (hp : pc + 1 = pc')  (k : J M R Q cells slots h pc' ls (.int (x ^^^ y) :: st)) : J M R Q cells slots h pc ls (.int y :: .int x :: st) := by
  subst hp
  intro p l e s m args below meth c H locs D α α0 h0 lsA hC hW hll hcl hl
  exact lv_ixor hC.1 hC.2.1 (h_dec hC hd)  (k p l e s m args below meth c H locs D α α0 h0 lsA hC hW hll (h_cl_i (h_cl_tl (h_cl_tl hcl))) hl)
theorem j_ladd {x y : Int64} (hd : fnd (h_tab M) pc = some (.ladd, 1)) (hp : pc + 1 = pc')  (k : J M R Q cells slots h pc' ls (.long (x + y) :: st)) : J M R Q cells slots h pc ls (.long y :: .long x :: st) := by
  subst hp
  intro p l e s m args below meth c H locs D α α0 h0 lsA hC hW hll hcl hl
  exact lv_ladd hC.1 hC.2.1 (h_dec hC hd)  (k p l e s m args below meth c H locs D α α0 h0 lsA hC hW hll (h_cl_l (h_cl_tl (h_cl_tl hcl))) hl)
theorem j_lsub {x y : Int64} (hd : fnd (h_tab M) pc = some (.lsub, 1)) (hp : pc + 1 = pc')  (k : J M R Q cells slots h pc' ls (.long (x - y) :: st)) : J M R Q cells slots h pc ls (.long y :: .long x :: st) := by
  subst hp
  intro p l e s m args below meth c H locs D α α0 h0 lsA hC hW hll hcl hl
  exact lv_lsub hC.1 hC.2.1 (h_dec hC hd)  (k p l e s m args below meth c H locs D α α0 h0 lsA hC hW hll (h_cl_l (h_cl_tl (h_cl_tl hcl))) hl)
theorem j_lmul {x y : Int64} (hd : fnd (h_tab M) pc = some (.lmul, 1)) (hp : pc + 1 = pc')  (k : J M R Q cells slots h pc' ls (.long (x * y) :: st)) : J M R Q cells slots h pc ls (.long y :: .long x :: st) := by
  subst hp
  intro p l e s m args below meth c H locs D α α0 h0 lsA hC hW hll hcl hl
  exact lv_lmul hC.1 hC.2.1 (h_dec hC hd)  (k p l e s m args below meth c H locs D α α0 h0 lsA hC hW hll (h_cl_l (h_cl_tl (h_cl_tl hcl))) hl)
theorem j_land {x y : Int64} (hd : fnd (h_tab M) pc = some (.land, 1)) (hp : pc + 1 = pc')  (k : J M R Q cells slots h pc' ls (.long (x &&& y) :: st)) : J M R Q cells slots h pc ls (.long y :: .long x :: st) := by
  subst hp
  intro p l e s m args below meth c H locs D α α0 h0 lsA hC hW hll hcl hl
  exact lv_land hC.1 hC.2.1 (h_dec hC hd)  (k p l e s m args below meth c H locs D α α0 h0 lsA hC hW hll (h_cl_l (h_cl_tl (h_cl_tl hcl))) hl)
theorem j_lor {x y : Int64} (hd : fnd (h_tab M) pc = some (.lor, 1)) (hp : pc + 1 = pc')  (k : J M R Q cells slots h pc' ls (.long (x ||| y) :: st)) : J M R Q cells slots h pc ls (.long y :: .long x :: st) := by
  subst hp
  intro p l e s m args below meth c H locs D α α0 h0 lsA hC hW hll hcl hl
  exact lv_lor hC.1 hC.2.1 (h_dec hC hd)  (k p l e s m args below meth c H locs D α α0 h0 lsA hC hW hll (h_cl_l (h_cl_tl (h_cl_tl hcl))) hl)
theorem j_lxor {x y : Int64} (hd : fnd (h_tab M) pc = some (.lxor, 1)) (hp : pc + 1 = pc')  (k : J M R Q cells slots h pc' ls (.long (x ^^^ y) :: st)) : J M R Q cells slots h pc ls (.long y :: .long x :: st) := by
  subst hp
  intro p l e s m args below meth c H locs D α α0 h0 lsA hC hW hll hcl hl
  exact lv_lxor hC.1 hC.2.1 (h_dec hC hd)  (k p l e s m args below meth c H locs D α α0 h0 lsA hC hW hll (h_cl_l (h_cl_tl (h_cl_tl hcl))) hl)
theorem j_idiv {x y : Int32} (hd : fnd (h_tab M) pc = some (.idiv, 1)) (hp : pc + 1 = pc') (hne : ¬ y = 0) (k : J M R Q cells slots h pc' ls (.int (x / y) :: st)) : J M R Q cells slots h pc ls (.int y :: .int x :: st) := by
  subst hp
  intro p l e s m args below meth c H locs D α α0 h0 lsA hC hW hll hcl hl
  exact lv_idiv hC.1 hC.2.1 (h_dec hC hd) hne (k p l e s m args below meth c H locs D α α0 h0 lsA hC hW hll (h_cl_i (h_cl_tl (h_cl_tl hcl))) hl)
theorem j_ldiv {x y : Int64} (hd : fnd (h_tab M) pc = some (.ldiv, 1)) (hp : pc + 1 = pc') (hne : ¬ y = 0) (k : J M R Q cells slots h pc' ls (.long (x / y) :: st)) : J M R Q cells slots h pc ls (.long y :: .long x :: st) := by
  subst hp
  intro p l e s m args below meth c H locs D α α0 h0 lsA hC hW hll hcl hl
  exact lv_ldiv hC.1 hC.2.1 (h_dec hC hd) hne (k p l e s m args below meth c H locs D α α0 h0 lsA hC hW hll (h_cl_l (h_cl_tl (h_cl_tl hcl))) hl)
theorem j_lneg {x : Int64} (hd : fnd (h_tab M) pc = some (.lneg, 1)) (hp : pc + 1 = pc')  (k : J M R Q cells slots h pc' ls (.long (-x) :: st)) : J M R Q cells slots h pc ls (.long x :: st) := by
  subst hp
  intro p l e s m args below meth c H locs D α α0 h0 lsA hC hW hll hcl hl
  exact lv_lneg hC.1 hC.2.1 (h_dec hC hd)  (k p l e s m args below meth c H locs D α α0 h0 lsA hC hW hll (h_cl_l (h_cl_tl hcl)) hl)
theorem j_i2l {x : Int32} (hd : fnd (h_tab M) pc = some (.i2l, 1)) (hp : pc + 1 = pc')  (k : J M R Q cells slots h pc' ls (.long x.toInt64 :: st)) : J M R Q cells slots h pc ls (.int x :: st) := by
  subst hp
  intro p l e s m args below meth c H locs D α α0 h0 lsA hC hW hll hcl hl
  exact lv_i2l hC.1 hC.2.1 (h_dec hC hd) rfl (k p l e s m args below meth c H locs D α α0 h0 lsA hC hW hll (h_cl_l (h_cl_tl hcl)) hl)
theorem j_l2i {x : Int64} (hd : fnd (h_tab M) pc = some (.l2i, 1)) (hp : pc + 1 = pc')  (k : J M R Q cells slots h pc' ls (.int x.toInt32 :: st)) : J M R Q cells slots h pc ls (.long x :: st) := by
  subst hp
  intro p l e s m args below meth c H locs D α α0 h0 lsA hC hW hll hcl hl
  exact lv_l2i hC.1 hC.2.1 (h_dec hC hd) rfl (k p l e s m args below meth c H locs D α α0 h0 lsA hC hW hll (h_cl_i (h_cl_tl hcl)) hl)
theorem j_i2b {x : Int32} (hd : fnd (h_tab M) pc = some (.i2b, 1)) (hp : pc + 1 = pc')  (k : J M R Q cells slots h pc' ls (.int x.toInt8.toInt32 :: st)) : J M R Q cells slots h pc ls (.int x :: st) := by
  subst hp
  intro p l e s m args below meth c H locs D α α0 h0 lsA hC hW hll hcl hl
  exact lv_i2b hC.1 hC.2.1 (h_dec hC hd) rfl (k p l e s m args below meth c H locs D α α0 h0 lsA hC hW hll (h_cl_i (h_cl_tl hcl)) hl)
theorem j_lshl {x : Int64} {y : Int32} (hd : fnd (h_tab M) pc = some (.lshl, 1)) (hp : pc + 1 = pc')  (k : J M R Q cells slots h pc' ls (.long (x <<< (y.toInt64 &&& 63)) :: st)) : J M R Q cells slots h pc ls (.int y :: .long x :: st) := by
  subst hp
  intro p l e s m args below meth c H locs D α α0 h0 lsA hC hW hll hcl hl
  exact lv_lshl hC.1 hC.2.1 (h_dec hC hd) rfl (k p l e s m args below meth c H locs D α α0 h0 lsA hC hW hll (h_cl_l (h_cl_tl (h_cl_tl hcl))) hl)
theorem j_lshr {x : Int64} {y : Int32} (hd : fnd (h_tab M) pc = some (.lshr, 1)) (hp : pc + 1 = pc')  (k : J M R Q cells slots h pc' ls (.long (x >>> (y.toInt64 &&& 63)) :: st)) : J M R Q cells slots h pc ls (.int y :: .long x :: st) := by
  subst hp
  intro p l e s m args below meth c H locs D α α0 h0 lsA hC hW hll hcl hl
  exact lv_lshr hC.1 hC.2.1 (h_dec hC hd) rfl (k p l e s m args below meth c H locs D α α0 h0 lsA hC hW hll (h_cl_l (h_cl_tl (h_cl_tl hcl))) hl)
theorem j_lcmp {x y : Int64} (hd : fnd (h_tab M) pc = some (.lcmp, 1)) (hp : pc + 1 = pc')  (k : J M R Q cells slots h pc' ls (.int (lg_cmp x y) :: st)) : J M R Q cells slots h pc ls (.long y :: .long x :: st) := by
  subst hp
  intro p l e s m args below meth c H locs D α α0 h0 lsA hC hW hll hcl hl
  exact W.lcmp hC.1 hC.2.1 (h_dec hC hd)  (k p l e s m args below meth c H locs D α α0 h0 lsA hC hW hll (h_cl_i (h_cl_tl (h_cl_tl hcl))) hl)
theorem j_dup {v : Value} (hd : fnd (h_tab M) pc = some (.dup, 1)) (hp : pc + 1 = pc') (hc : v.category = 1) (k : J M R Q cells slots h pc' ls (v :: v :: st)) : J M R Q cells slots h pc ls (v :: st) := by
  subst hp
  intro p l e s m args below meth c H locs D α α0 h0 lsA hC hW hll hcl hl
  exact lv_dup hC.1 hC.2.1 (h_dec hC hd) ((h_rv_cat α v).trans hc) (k p l e s m args below meth c H locs D α α0 h0 lsA hC hW hll (h_cl_cons (h_cl_hd hcl) hcl) hl)
theorem j_pop {v : Value} (hd : fnd (h_tab M) pc = some (.pop, 1)) (hp : pc + 1 = pc') (hc : v.category = 1) (k : J M R Q cells slots h pc' ls (st)) : J M R Q cells slots h pc ls (v :: st) := by
  subst hp
  intro p l e s m args below meth c H locs D α α0 h0 lsA hC hW hll hcl hl
  exact lv_pop hC.1 hC.2.1 (h_dec hC hd) ((h_rv_cat α v).trans hc) (k p l e s m args below meth c H locs D α α0 h0 lsA hC hW hll (h_cl_tl hcl) hl)
theorem j_dup_x1 {v w : Value} (hd : fnd (h_tab M) pc = some (.dup_x1, 1)) (hp : pc + 1 = pc') (hc : v.category = 1) (hc2 : w.category = 1) (k : J M R Q cells slots h pc' ls (v :: w :: v :: st)) : J M R Q cells slots h pc ls (v :: w :: st) := by
  subst hp
  intro p l e s m args below meth c H locs D α α0 h0 lsA hC hW hll hcl hl
  exact lv_dup_x1 hC.1 hC.2.1 (h_dec hC hd) ((h_rv_cat α v).trans hc) ((h_rv_cat α w).trans hc2) (k p l e s m args below meth c H locs D α α0 h0 lsA hC hW hll (h_cl_cons (h_cl_hd hcl) (h_cl_cons (h_cl_hd (h_cl_tl hcl)) (h_cl_cons (h_cl_hd hcl) (h_cl_tl (h_cl_tl hcl))))) hl)
theorem j_dup2_11 {v w : Value} (hd : fnd (h_tab M) pc = some (.dup2, 1)) (hp : pc + 1 = pc') (hc : v.category = 1) (hc2 : w.category = 1) (k : J M R Q cells slots h pc' ls (v :: w :: v :: w :: st)) : J M R Q cells slots h pc ls (v :: w :: st) := by
  subst hp
  intro p l e s m args below meth c H locs D α α0 h0 lsA hC hW hll hcl hl
  exact lv_dup2_11 hC.1 hC.2.1 (h_dec hC hd) ((h_rv_cat α v).trans hc) ((h_rv_cat α w).trans hc2) (k p l e s m args below meth c H locs D α α0 h0 lsA hC hW hll (h_cl_cons (h_cl_hd hcl) (h_cl_cons (h_cl_hd (h_cl_tl hcl)) hcl)) hl)
theorem j_dup2_2 {v : Value} (hd : fnd (h_tab M) pc = some (.dup2, 1)) (hp : pc + 1 = pc') (hc : v.category = 2) (k : J M R Q cells slots h pc' ls (v :: v :: st)) : J M R Q cells slots h pc ls (v :: st) := by
  subst hp
  intro p l e s m args below meth c H locs D α α0 h0 lsA hC hW hll hcl hl
  exact lv_dup2_2 hC.1 hC.2.1 (h_dec hC hd) ((h_rv_cat α v).trans hc) (k p l e s m args below meth c H locs D α α0 h0 lsA hC hW hll (h_cl_cons (h_cl_hd hcl) hcl) hl)
theorem j_istore_n {n : Fin 4} {x : Int32} {ls' : List (Nat × Value)} (hd : fnd (h_tab M) pc = some (.istore_n n, 1)) (hp : pc + 1 = pc') (hn : (n : Nat) < h_nL M) (hs : lset1 (n : Nat) (.int x) ls = ls') (k : J M R Q cells slots h pc' ls' st) : J M R Q cells slots h pc ls (.int x :: st) := by
  subst hp; subst hs
  intro p l e s m args below meth c H locs D α α0 h0 lsA hC hW hll hcl hl
  exact lv_istore_n hC.1 hC.2.1 (h_dec hC hd) rfl hl hn (h_lset1 α n (.int x) ls) (fun lsB hl' => k p l e s m args below meth c H locs D α α0 h0 lsB hC hW (h_ll1 (h_cl_hd hcl) hll) (h_cl_tl hcl) hl')
theorem j_istore {n : Nat} {x : Int32} {ls' : List (Nat × Value)} (hd : fnd (h_tab M) pc = some (.istore n, 2)) (hp : pc + 2 = pc') (hn : n < h_nL M) (hs : lset1 n (.int x) ls = ls') (k : J M R Q cells slots h pc' ls' st) : J M R Q cells slots h pc ls (.int x :: st) := by
  subst hp; subst hs
  intro p l e s m args below meth c H locs D α α0 h0 lsA hC hW hll hcl hl
  exact lv_istore hC.1 hC.2.1 (h_dec hC hd) hl hn (h_lset1 α n (.int x) ls) (fun lsB hl' => k p l e s m args below meth c H locs D α α0 h0 lsB hC hW (h_ll1 (h_cl_hd hcl) hll) (h_cl_tl hcl) hl')
theorem j_lstore_n {n : Fin 4} {x : Int64} {ls' : List (Nat × Value)} (hd : fnd (h_tab M) pc = some (.lstore_n n, 1)) (hp : pc + 1 = pc') (hn : (n : Nat) + 1 < h_nL M) (hs : lset2 (n : Nat) (.long x) ls = ls') (k : J M R Q cells slots h pc' ls' st) : J M R Q cells slots h pc ls (.long x :: st) := by
  subst hp; subst hs
  intro p l e s m args below meth c H locs D α α0 h0 lsA hC hW hll hcl hl
  exact lv_lstore_n hC.1 hC.2.1 (h_dec hC hd) rfl hl hn (h_lset2 α n (.long x) ls) (fun lsB hl' => k p l e s m args below meth c H locs D α α0 h0 lsB hC hW (h_ll2 (h_cl_hd hcl) hll) (h_cl_tl hcl) hl')
theorem j_lstore {n : Nat} {x : Int64} {ls' : List (Nat × Value)} (hd : fnd (h_tab M) pc = some (.lstore n, 2)) (hp : pc + 2 = pc') (hn : n + 1 < h_nL M) (hs : lset2 n (.long x) ls = ls') (k : J M R Q cells slots h pc' ls' st) : J M R Q cells slots h pc ls (.long x :: st) := by
  subst hp; subst hs
  intro p l e s m args below meth c H locs D α α0 h0 lsA hC hW hll hcl hl
  exact lv_lstore hC.1 hC.2.1 (h_dec hC hd) hl hn (h_lset2 α n (.long x) ls) (fun lsB hl' => k p l e s m args below meth c H locs D α α0 h0 lsB hC hW (h_ll2 (h_cl_hd hcl) hll) (h_cl_tl hcl) hl')
theorem j_astore_n {n : Fin 4} {x : Nat} {ls' : List (Nat × Value)} (hd : fnd (h_tab M) pc = some (.astore_n n, 1)) (hp : pc + 1 = pc') (hn : (n : Nat) < h_nL M) (hs : lset1 (n : Nat) (.ref x) ls = ls') (k : J M R Q cells slots h pc' ls' st) : J M R Q cells slots h pc ls (.ref x :: st) := by
  subst hp; subst hs
  intro p l e s m args below meth c H locs D α α0 h0 lsA hC hW hll hcl hl
  exact lv_astore_n hC.1 hC.2.1 (h_dec hC hd) rfl hl hn (h_lset1 α n (.ref x) ls) (fun lsB hl' => k p l e s m args below meth c H locs D α α0 h0 lsB hC hW (h_ll1 (h_cl_hd hcl) hll) (h_cl_tl hcl) hl')
theorem j_astore {n : Nat} {x : Nat} {ls' : List (Nat × Value)} (hd : fnd (h_tab M) pc = some (.astore n, 2)) (hp : pc + 2 = pc') (hn : n < h_nL M) (hs : lset1 n (.ref x) ls = ls') (k : J M R Q cells slots h pc' ls' st) : J M R Q cells slots h pc ls (.ref x :: st) := by
  subst hp; subst hs
  intro p l e s m args below meth c H locs D α α0 h0 lsA hC hW hll hcl hl
  exact lv_astore hC.1 hC.2.1 (h_dec hC hd) hl hn (h_lset1 α n (.ref x) ls) (fun lsB hl' => k p l e s m args below meth c H locs D α α0 h0 lsB hC hW (h_ll1 (h_cl_hd hcl) hll) (h_cl_tl hcl) hl')
theorem j_astore_nN {n : Fin 4} {ls' : List (Nat × Value)} (hd : fnd (h_tab M) pc = some (.astore_n n, 1)) (hp : pc + 1 = pc') (hn : (n : Nat) < h_nL M) (hs : lset1 (n : Nat) .null ls = ls') (k : J M R Q cells slots h pc' ls' st) : J M R Q cells slots h pc ls (.null :: st) := by
  subst hp; subst hs
  intro p l e s m args below meth c H locs D α α0 h0 lsA hC hW hll hcl hl
  exact lv_astore_nN hC.1 hC.2.1 (h_dec hC hd) rfl hl hn (h_lset1 α n .null ls) (fun lsB hl' => k p l e s m args below meth c H locs D α α0 h0 lsB hC hW (h_ll1 (h_cl_hd hcl) hll) (h_cl_tl hcl) hl')
theorem j_astoreN {n : Nat} {ls' : List (Nat × Value)} (hd : fnd (h_tab M) pc = some (.astore n, 2)) (hp : pc + 2 = pc') (hn : n < h_nL M) (hs : lset1 n .null ls = ls') (k : J M R Q cells slots h pc' ls' st) : J M R Q cells slots h pc ls (.null :: st) := by
  subst hp; subst hs
  intro p l e s m args below meth c H locs D α α0 h0 lsA hC hW hll hcl hl
  exact lv_astoreN hC.1 hC.2.1 (h_dec hC hd) hl hn (h_lset1 α n .null ls) (fun lsB hl' => k p l e s m args below meth c H locs D α α0 h0 lsB hC hW (h_ll1 (h_cl_hd hcl) hll) (h_cl_tl hcl) hl')
theorem j_iinc {n : Nat} {i : Int} {x : Int32} {ls' : List (Nat × Value)} (hd : fnd (h_tab M) pc = some (.iinc n i, 3)) (hp : pc + 3 = pc') (hv : fnd ls n = some (.int x)) (hn : n < h_nL M) (hs : lset1 n (.int (x + Int32.ofInt i)) ls = ls') (k : J M R Q cells slots h pc' ls' st) : J M R Q cells slots h pc ls st := by
  subst hp; subst hs
  intro p l e s m args below meth c H locs D α α0 h0 lsA hC hW hll hcl hl
  obtain ⟨j, hj⟩ := List.getElem?_of_mem (List.mem_map.mpr ⟨(n, Value.int x), fnd_mem _ _ _ hv, rfl⟩ : (n, h_rv α (.int x)) ∈ ls.map (fun q => (q.1, h_rv α q.2)))
  exact lv_iinc hC.1 hC.2.1 (h_dec hC hd) hl hj rfl hn (h_lset1 α n (.int (x + Int32.ofInt i)) ls) (fun lsB hl' => k p l e s m args below meth c H locs D α α0 h0 lsB hC hW (h_ll1 trivial hll) hcl hl')
theorem j_if_eq {x : Int32} {off : Int} {tgt : Nat} (hd : fnd (h_tab M) pc = some (.ifCond .eq off, 3)) (ht : (pc : Int) + off = (tgt : Int)) (hp : pc + 3 = pc') (kt : x = 0 → J M R Q cells slots h tgt ls st) (kf : ¬ x = 0 → J M R Q cells slots h pc' ls st) : J M R Q cells slots h pc ls (.int x :: st) := by
  subst hp
  intro p l e s m args below meth c H locs D α α0 h0 lsA hC hW hll hcl hl
  exact lv_if_eq hC.1 hC.2.1 (h_dec hC hd) ht (fun q => kt q p l e s m args below meth c H locs D α α0 h0 lsA hC hW hll (h_cl_tl hcl) hl) (fun q => kf q p l e s m args below meth c H locs D α α0 h0 lsA hC hW hll (h_cl_tl hcl) hl)
theorem j_icmp_eq {x y : Int32} {off : Int} {tgt : Nat} (hd : fnd (h_tab M) pc = some (.if_icmp .eq off, 3)) (ht : (pc : Int) + off = (tgt : Int)) (hp : pc + 3 = pc') (kt : x = y → J M R Q cells slots h tgt ls st) (kf : ¬ x = y → J M R Q cells slots h pc' ls st) : J M R Q cells slots h pc ls (.int y :: .int x :: st) := by
  subst hp
  intro p l e s m args below meth c H locs D α α0 h0 lsA hC hW hll hcl hl
  exact lv_icmp_eq hC.1 hC.2.1 (h_dec hC hd) ht (fun q => kt q p l e s m args below meth c H locs D α α0 h0 lsA hC hW hll (h_cl_tl (h_cl_tl hcl)) hl) (fun q => kf q p l e s m args below meth c H locs D α α0 h0 lsA hC hW hll (h_cl_tl (h_cl_tl hcl)) hl)
theorem j_if_ne {x : Int32} {off : Int} {tgt : Nat} (hd : fnd (h_tab M) pc = some (.ifCond .ne off, 3)) (ht : (pc : Int) + off = (tgt : Int)) (hp : pc + 3 = pc') (kt : ¬ x = 0 → J M R Q cells slots h tgt ls st) (kf : x = 0 → J M R Q cells slots h pc' ls st) : J M R Q cells slots h pc ls (.int x :: st) := by
  subst hp
  intro p l e s m args below meth c H locs D α α0 h0 lsA hC hW hll hcl hl
  exact lv_if_ne hC.1 hC.2.1 (h_dec hC hd) ht (fun q => kt q p l e s m args below meth c H locs D α α0 h0 lsA hC hW hll (h_cl_tl hcl) hl) (fun q => kf q p l e s m args below meth c H locs D α α0 h0 lsA hC hW hll (h_cl_tl hcl) hl)
theorem j_icmp_ne {x y : Int32} {off : Int} {tgt : Nat} (hd : fnd (h_tab M) pc = some (.if_icmp .ne off, 3)) (ht : (pc : Int) + off = (tgt : Int)) (hp : pc + 3 = pc') (kt : ¬ x = y → J M R Q cells slots h tgt ls st) (kf : x = y → J M R Q cells slots h pc' ls st) : J M R Q cells slots h pc ls (.int y :: .int x :: st) := by
  subst hp
  intro p l e s m args below meth c H locs D α α0 h0 lsA hC hW hll hcl hl
  exact lv_icmp_ne hC.1 hC.2.1 (h_dec hC hd) ht (fun q => kt q p l e s m args below meth c H locs D α α0 h0 lsA hC hW hll (h_cl_tl (h_cl_tl hcl)) hl) (fun q => kf q p l e s m args below meth c H locs D α α0 h0 lsA hC hW hll (h_cl_tl (h_cl_tl hcl)) hl)
theorem j_if_lt {x : Int32} {off : Int} {tgt : Nat} (hd : fnd (h_tab M) pc = some (.ifCond .lt off, 3)) (ht : (pc : Int) + off = (tgt : Int)) (hp : pc + 3 = pc') (kt : x < 0 → J M R Q cells slots h tgt ls st) (kf : ¬ x < 0 → J M R Q cells slots h pc' ls st) : J M R Q cells slots h pc ls (.int x :: st) := by
  subst hp
  intro p l e s m args below meth c H locs D α α0 h0 lsA hC hW hll hcl hl
  exact lv_if_lt hC.1 hC.2.1 (h_dec hC hd) ht (fun q => kt q p l e s m args below meth c H locs D α α0 h0 lsA hC hW hll (h_cl_tl hcl) hl) (fun q => kf q p l e s m args below meth c H locs D α α0 h0 lsA hC hW hll (h_cl_tl hcl) hl)
theorem j_icmp_lt {x y : Int32} {off : Int} {tgt : Nat} (hd : fnd (h_tab M) pc = some (.if_icmp .lt off, 3)) (ht : (pc : Int) + off = (tgt : Int)) (hp : pc + 3 = pc') (kt : x < y → J M R Q cells slots h tgt ls st) (kf : ¬ x < y → J M R Q cells slots h pc' ls st) : J M R Q cells slots h pc ls (.int y :: .int x :: st) := by
  subst hp
  intro p l e s m args below meth c H locs D α α0 h0 lsA hC hW hll hcl hl
  exact lv_icmp_lt hC.1 hC.2.1 (h_dec hC hd) ht (fun q => kt q p l e s m args below meth c H locs D α α0 h0 lsA hC hW hll (h_cl_tl (h_cl_tl hcl)) hl) (fun q => kf q p l e s m args below meth c H locs D α α0 h0 lsA hC hW hll (h_cl_tl (h_cl_tl hcl)) hl)
theorem j_if_ge {x : Int32} {off : Int} {tgt : Nat} (hd : fnd (h_tab M) pc = some (.ifCond .ge off, 3)) (ht : (pc : Int) + off = (tgt : Int)) (hp : pc + 3 = pc') (kt : 0 ≤ x → J M R Q cells slots h tgt ls st) (kf : ¬ 0 ≤ x → J M R Q cells slots h pc' ls st) : J M R Q cells slots h pc ls (.int x :: st) := by
  subst hp
  intro p l e s m args below meth c H locs D α α0 h0 lsA hC hW hll hcl hl
  exact lv_if_ge hC.1 hC.2.1 (h_dec hC hd) ht (fun q => kt q p l e s m args below meth c H locs D α α0 h0 lsA hC hW hll (h_cl_tl hcl) hl) (fun q => kf q p l e s m args below meth c H locs D α α0 h0 lsA hC hW hll (h_cl_tl hcl) hl)
theorem j_icmp_ge {x y : Int32} {off : Int} {tgt : Nat} (hd : fnd (h_tab M) pc = some (.if_icmp .ge off, 3)) (ht : (pc : Int) + off = (tgt : Int)) (hp : pc + 3 = pc') (kt : y ≤ x → J M R Q cells slots h tgt ls st) (kf : ¬ y ≤ x → J M R Q cells slots h pc' ls st) : J M R Q cells slots h pc ls (.int y :: .int x :: st) := by
  subst hp
  intro p l e s m args below meth c H locs D α α0 h0 lsA hC hW hll hcl hl
  exact lv_icmp_ge hC.1 hC.2.1 (h_dec hC hd) ht (fun q => kt q p l e s m args below meth c H locs D α α0 h0 lsA hC hW hll (h_cl_tl (h_cl_tl hcl)) hl) (fun q => kf q p l e s m args below meth c H locs D α α0 h0 lsA hC hW hll (h_cl_tl (h_cl_tl hcl)) hl)
theorem j_if_gt {x : Int32} {off : Int} {tgt : Nat} (hd : fnd (h_tab M) pc = some (.ifCond .gt off, 3)) (ht : (pc : Int) + off = (tgt : Int)) (hp : pc + 3 = pc') (kt : 0 < x → J M R Q cells slots h tgt ls st) (kf : ¬ 0 < x → J M R Q cells slots h pc' ls st) : J M R Q cells slots h pc ls (.int x :: st) := by
  subst hp
  intro p l e s m args below meth c H locs D α α0 h0 lsA hC hW hll hcl hl
  exact lv_if_gt hC.1 hC.2.1 (h_dec hC hd) ht (fun q => kt q p l e s m args below meth c H locs D α α0 h0 lsA hC hW hll (h_cl_tl hcl) hl) (fun q => kf q p l e s m args below meth c H locs D α α0 h0 lsA hC hW hll (h_cl_tl hcl) hl)
theorem j_icmp_gt {x y : Int32} {off : Int} {tgt : Nat} (hd : fnd (h_tab M) pc = some (.if_icmp .gt off, 3)) (ht : (pc : Int) + off = (tgt : Int)) (hp : pc + 3 = pc') (kt : y < x → J M R Q cells slots h tgt ls st) (kf : ¬ y < x → J M R Q cells slots h pc' ls st) : J M R Q cells slots h pc ls (.int y :: .int x :: st) := by
  subst hp
  intro p l e s m args below meth c H locs D α α0 h0 lsA hC hW hll hcl hl
  exact lv_icmp_gt hC.1 hC.2.1 (h_dec hC hd) ht (fun q => kt q p l e s m args below meth c H locs D α α0 h0 lsA hC hW hll (h_cl_tl (h_cl_tl hcl)) hl) (fun q => kf q p l e s m args below meth c H locs D α α0 h0 lsA hC hW hll (h_cl_tl (h_cl_tl hcl)) hl)
theorem j_if_le {x : Int32} {off : Int} {tgt : Nat} (hd : fnd (h_tab M) pc = some (.ifCond .le off, 3)) (ht : (pc : Int) + off = (tgt : Int)) (hp : pc + 3 = pc') (kt : x ≤ 0 → J M R Q cells slots h tgt ls st) (kf : ¬ x ≤ 0 → J M R Q cells slots h pc' ls st) : J M R Q cells slots h pc ls (.int x :: st) := by
  subst hp
  intro p l e s m args below meth c H locs D α α0 h0 lsA hC hW hll hcl hl
  exact lv_if_le hC.1 hC.2.1 (h_dec hC hd) ht (fun q => kt q p l e s m args below meth c H locs D α α0 h0 lsA hC hW hll (h_cl_tl hcl) hl) (fun q => kf q p l e s m args below meth c H locs D α α0 h0 lsA hC hW hll (h_cl_tl hcl) hl)
theorem j_icmp_le {x y : Int32} {off : Int} {tgt : Nat} (hd : fnd (h_tab M) pc = some (.if_icmp .le off, 3)) (ht : (pc : Int) + off = (tgt : Int)) (hp : pc + 3 = pc') (kt : x ≤ y → J M R Q cells slots h tgt ls st) (kf : ¬ x ≤ y → J M R Q cells slots h pc' ls st) : J M R Q cells slots h pc ls (.int y :: .int x :: st) := by
  subst hp
  intro p l e s m args below meth c H locs D α α0 h0 lsA hC hW hll hcl hl
  exact lv_icmp_le hC.1 hC.2.1 (h_dec hC hd) ht (fun q => kt q p l e s m args below meth c H locs D α α0 h0 lsA hC hW hll (h_cl_tl (h_cl_tl hcl)) hl) (fun q => kf q p l e s m args below meth c H locs D α α0 h0 lsA hC hW hll (h_cl_tl (h_cl_tl hcl)) hl)
theorem j_goto {off : Int} {tgt : Nat} (hd : fnd (h_tab M) pc = some (.goto off, 3)) (ht : (pc : Int) + off = (tgt : Int)) (k : J M R Q cells slots h tgt ls st) : J M R Q cells slots h pc ls st := by
  intro p l e s m args below meth c H locs D α α0 h0 lsA hC hW hll hcl hl
  exact lv_goto hC.1 hC.2.1 (h_dec hC hd) ht (k p l e s m args below meth c H locs D α α0 h0 lsA hC hW hll hcl hl)
theorem j_ifnull {x : Nat} {off : Int} (hd : fnd (h_tab M) pc = some (.ifnull off, 3)) (hp : pc + 3 = pc') (k : J M R Q cells slots h pc' ls st) : J M R Q cells slots h pc ls (.ref x :: st) := by
  subst hp
  intro p l e s m args below meth c H locs D α α0 h0 lsA hC hW hll hcl hl
  exact lv_ifnull hC.1 hC.2.1 (h_dec hC hd) (k p l e s m args below meth c H locs D α α0 h0 lsA hC hW hll (h_cl_tl hcl) hl)
theorem j_ifnonnull {x : Nat} {off : Int} {tgt : Nat} (hd : fnd (h_tab M) pc = some (.ifnonnull off, 3)) (ht : (pc : Int) + off = (tgt : Int)) (k : J M R Q cells slots h tgt ls st) : J M R Q cells slots h pc ls (.ref x :: st) := by
  intro p l e s m args below meth c H locs D α α0 h0 lsA hC hW hll hcl hl
  exact lv_ifnonnull hC.1 hC.2.1 (h_dec hC hd) ht (k p l e s m args below meth c H locs D α α0 h0 lsA hC hW hll (h_cl_tl hcl) hl)
theorem j_ifnullN {off : Int} {tgt : Nat} (hd : fnd (h_tab M) pc = some (.ifnull off, 3)) (ht : (pc : Int) + off = (tgt : Int)) (k : J M R Q cells slots h tgt ls st) : J M R Q cells slots h pc ls (.null :: st) := by
  intro p l e s m args below meth c H locs D α α0 h0 lsA hC hW hll hcl hl
  exact lv_ifnullN hC.1 hC.2.1 (h_dec hC hd) ht (k p l e s m args below meth c H locs D α α0 h0 lsA hC hW hll (h_cl_tl hcl) hl)
theorem j_ifnonnullN {off : Int} (hd : fnd (h_tab M) pc = some (.ifnonnull off, 3)) (hp : pc + 3 = pc') (k : J M R Q cells slots h pc' ls st) : J M R Q cells slots h pc ls (.null :: st) := by
  subst hp
  intro p l e s m args below meth c H locs D α α0 h0 lsA hC hW hll hcl hl
  exact lv_ifnonnullN hC.1 hC.2.1 (h_dec hC hd) (k p l e s m args below meth c H locs D α α0 h0 lsA hC hW hll (h_cl_tl hcl) hl)
theorem j_tableIn {dflt lo hi : Int} {offs : Array Int} {len : Nat} {x : Int32} {off : Int} {tgt : Nat} (hd : fnd (h_tab M) pc = some (.tableswitch dflt lo hi offs, len)) (h1 : ¬ x.toInt < lo) (h2 : ¬ hi < x.toInt) (ho : offs[(x.toInt - lo).toNat]? = some off) (ht : (pc : Int) + off = (tgt : Int)) (k : J M R Q cells slots h tgt ls st) : J M R Q cells slots h pc ls (.int x :: st) := by
  intro p l e s m args below meth c H locs D α α0 h0 lsA hC hW hll hcl hl
  exact lv_tableIn hC.1 hC.2.1 (h_dec hC hd) h1 h2 ho ht (k p l e s m args below meth c H locs D α α0 h0 lsA hC hW hll (h_cl_tl hcl) hl)
theorem j_tableOut {dflt lo hi : Int} {offs : Array Int} {len : Nat} {x : Int32} {tgt : Nat} (hd : fnd (h_tab M) pc = some (.tableswitch dflt lo hi offs, len)) (hq : x.toInt < lo ∨ hi < x.toInt) (ht : (pc : Int) + dflt = (tgt : Int)) (k : J M R Q cells slots h tgt ls st) : J M R Q cells slots h pc ls (.int x :: st) := by
  intro p l e s m args below meth c H locs D α α0 h0 lsA hC hW hll hcl hl
  exact lv_tableOut hC.1 hC.2.1 (h_dec hC hd) hq ht (k p l e s m args below meth c H locs D α α0 h0 lsA hC hW hll (h_cl_tl hcl) hl)
theorem j_ldc {idx : Nat} {v : Int32} (hd : fnd (h_tab M) pc = some (.ldc idx, 2)) (hp : pc + 2 = pc') (hw : Cond.constant (h_own M) idx v ∈ lw_tbl) (k : J M R Q cells slots h pc' ls (.int v :: st)) : J M R Q cells slots h pc ls st := by
  subst hp
  intro p l e s m args below meth c H locs D α α0 h0 lsA hC hW hll hcl hl
  exact lv_ldc hC.1 hC.2.1 hC.2.2.2.1 (hC.2.2.2.2.1 _ (h_in hw rfl)) (h_dec hC hd) (k p l e s m args below meth c H locs D α α0 h0 lsA hC hW hll (h_cl_i hcl) hl)
theorem j_ldc2 {idx : Nat} {v : Int64} (hd : fnd (h_tab M) pc = some (.ldc2_w idx, 3)) (hp : pc + 3 = pc') (hw : Cond.constantLong (h_own M) idx v ∈ lw_tbl) (k : J M R Q cells slots h pc' ls (.long v :: st)) : J M R Q cells slots h pc ls st := by
  subst hp
  intro p l e s m args below meth c H locs D α α0 h0 lsA hC hW hll hcl hl
  exact lv_ldc2 hC.1 hC.2.1 hC.2.2.2.1 (hC.2.2.2.2.1 _ (h_in hw rfl)) (h_dec hC hd) (k p l e s m args below meth c H locs D α α0 h0 lsA hC hW hll (h_cl_l hcl) hl)
end HINSTR
end
section
/-! FIELDS, ARRAYS, NEW CELLS, CALLS, ENDS, over the abstract heap (J). -/
section HMEM
variable {M : hM} {R : Room} {Q : Option Value → hH → Prop} {cells slots : Nat} {h : hH} {pc pc' : Nat} {ls : List (Nat × Value)} {st : List Value}
theorem h_one {D : hG} {α : Nat → Nat} {h : hH} {H : Heap} (hP : h_P D α h H) {k : Nat} {e : hE} (hk : h k = some e) : va_P D.1 vwCl [(α k, h_re D α e)] H := by
  intro j q hq
  match j, hq with
  | 0, hq => cases hq; exact hP k e hk
  | j + 1, hq => simp at hq
theorem h_narrow {ty : FieldType} {v : Value} (α : Nat → Nat) (hn : narrow ty v = v) : narrow ty (h_rv α v) = h_rv α v := by
  cases v with
  | ref k => cases ty <;> rfl
  | _ => exact hn
theorem h_fits {ty : FieldType} {v : Value} (α : Nat → Nat) (hn : fits ty v = true) : fits ty (h_rv α v) = true := by
  cases v with
  | ref k => cases ty <;> first | exact hn | rfl
  | _ => exact hn
/-- getfield -/
theorem j_get {idx ci k key : Nat} {ty : FieldType} {fin : Bool} {fs : List Value} {v : Value} (hd : fnd (h_tab M) pc = some (.getfield idx, 3)) (hp : pc + 3 = pc') (F : h_FL (h_own M) idx ci k ty fin) (hk : h key = some (.inr (ci, fs))) (hv : fs[k]? = some v)
    (kk : J M R Q cells slots h pc' ls (v :: st)) : J M R Q cells slots h pc ls (.ref key :: st) := by
  subst hp
  intro p l e s m args below meth c H locs D α α0 h0 lsA hC hW hll hcl hl
  obtain ⟨C, T, N, hc, hkN, hdecl, hfin, hty, hlink⟩ := F
  have hck := h_cls _ _ _ _ hc
  refine va_get (D := D.1) (ci := ci) (C := C) (T := T) (N := N) (fs := fs.map (h_rv α)) (v := h_rv α v) (Ts := hw_tbl) hC.1 hC.2.1 hC.2.2.2.2.1 (fun w hw => h_in (hck.1 w hw) (by obtain ⟨j, -, rfl⟩ := List.mem_map.mp hw; unfold u_lay; split <;> rfl)) hC.2.2.2.1 hC.2.2.2.2.2.2.2.2.1.1 (h_one hW.1 hk) 0 rfl hc k hkN (ref := C) (hC.2.2.2.2.1 _ (h_in hlink rfl)) (fun x hx => by rw [← hdecl]; rw [hdecl] at hx ⊢; exact hx) (by rw [List.getElem?_map, hv]; rfl) (h_dec hC hd) ?_
  exact kk p l e s m args below meth c H locs D α α0 h0 lsA hC hW hll (h_cl_cons (hW.2.2.2.2 _ _ hk v (List.mem_of_getElem? hv)) (h_cl_tl hcl)) hl
/-- putfield -/
theorem j_put {idx ci k key : Nat} {ty : FieldType} {fs : List Value} {v : Value} (hd : fnd (h_tab M) pc = some (.putfield idx, 3)) (hp : pc + 3 = pc') (F : h_FL (h_own M) idx ci k ty false) (hk : h key = some (.inr (ci, fs))) (hro : key < 9000) (hkf : k < fs.length) (hn : narrow ty v = v) (hf : fits ty v = true)
    (kk : J M R Q cells slots (hup h key (.inr (ci, fs.set k v))) pc' ls st) : J M R Q cells slots h pc ls (v :: .ref key :: st) := by
  subst hp
  intro p l e s m args below meth c H locs D α α0 h0 lsA hC hW hll hcl hl
  obtain ⟨C, T, N, hc, hkN, hdecl, hfin, hty, hlink⟩ := F
  have hck := h_cls _ _ _ _ hc
  obtain ⟨ty0, hty0⟩ := hck.2.1
  have hts := hC.2.2.2.2.1
  have hin : ∀ w ∈ u_ws C T N, w ∈ hw_tbl := fun w hw => h_in (hck.1 w hw) (by obtain ⟨j, -, rfl⟩ := List.mem_map.mp hw; unfold u_lay; split <;> rfl)
  have hK := hC.2.2.2.2.2.2.2.2.1.1
  have hap := va_apart (own := h_own M) hts hin ty0 hty0 hck.2.2.1 hK hc
  obtain ⟨r, h1, cell, q1, q2, q3, q4⟩ := hW.1 key _ hk
  have hr : r = (C, T, N) := Option.some.inj (h1.symm.trans hc)
  subst hr
  obtain ⟨hS, hfc, kC, hkC, hkind⟩ := hK.1 ci _ hc
  obtain ⟨cf, kf, fi, f, hi, hsl⟩ := hS k hkN
  have hlay := hts _ (hin _ (u_in_lay hkN))
  unfold u_lay at hlay
  rw [if_neg (by rw [hfin]; decide)] at hlay
  have hst := (u_facts hfc hkC (u_lays hts hin hkN) hi).1
  have h6 := u_store hfc hkC hkind hlay hi hty (h_narrow α hn) (h_fits α hf)
  have hi' := hi
  rw [hdecl] at hi'
  refine W.putK hC.1 hC.2.1 (f := f) ⟨hC.2.2.2.1, hts _ (h_in hlink rfl), ⟨_, _, _, hi'⟩, hst⟩ (by rw [q2]; exact h6) q1 q3 (by rw [hsl]; exact k2_hasslot (q4 k hkN)) rfl rfl (h_dec hC hd) fun H' e1 e2 e3 => ?_
  rw [hsl] at e1 ⊢
  have hat : va_at D.1 vwCl (α key, h_re D α (.inr (ci, fs.set k v))) H' := by
    refine ⟨_, hc, ?_⟩
    show t_OB _ _ _ _ _ (vp_V ((fs.set k v).map (h_rv α)))
    rw [List.map_set]
    exact t_OB.to (V := updV (vp_V (fs.map (h_rv α))) k (h_rv α v)) ⟨_, e1, q2, q3, t_set q4 hap hkN (h_rv α v)⟩ (fun j _ => vp_updV_set (by rw [List.length_map]; exact hkf) _ j)
  have hce : h_ce h (.inr (ci, fs.set k v)) := fun w hw => by
    rcases List.mem_or_eq_of_mem_set hw with q | q
    · exact hW.2.2.2.2 _ _ hk w q
    · rw [q]; exact h_cl_hd hcl
  exact kk p l e s m args below meth c H' _ D α α0 h0 lsA hC (hW.put hk hro hce hat e2 e3) (h_ll_mono hup_mono hll) (h_cl_mono hup_mono (h_cl_tl (h_cl_tl hcl))) hl
/-- putfield of a final field, in a constructor -/
theorem j_putF {idx ci k key : Nat} {ty : FieldType} {fs : List Value} {v : Value} (hd : fnd (h_tab M) pc = some (.putfield idx, 3)) (hp : pc + 3 = pc') (F : h_FL (h_own M) idx ci k ty true) (hown : (vwCl[ci]?).map (fun q => q.1) = some (h_own M)) (hini : (h_y M).name = "<init>") (hk : h key = some (.inr (ci, fs))) (hro : key < 9000) (hkf : k < fs.length) (hn : narrow ty v = v) (hf : fits ty v = true)
    (kk : J M R Q cells slots (hup h key (.inr (ci, fs.set k v))) pc' ls st) : J M R Q cells slots h pc ls (v :: .ref key :: st) := by
  subst hp
  intro p l e s m args below meth c H locs D α α0 h0 lsA hC hW hll hcl hl
  obtain ⟨C, T, N, hc, hkN, hdecl, hfin, hty, hlink⟩ := F
  have hCo : C = h_own M := by rw [hc] at hown; exact Option.some.inj hown
  have hck := h_cls _ _ _ _ hc
  obtain ⟨ty0, hty0⟩ := hck.2.1
  have hts := hC.2.2.2.2.1
  have hin : ∀ w ∈ u_ws C T N, w ∈ hw_tbl := fun w hw => h_in (hck.1 w hw) (by obtain ⟨j, -, rfl⟩ := List.mem_map.mp hw; unfold u_lay; split <;> rfl)
  have hK := hC.2.2.2.2.2.2.2.2.1.1
  have hap := va_apart (own := h_own M) hts hin ty0 hty0 hck.2.2.1 hK hc
  obtain ⟨r, h1, cell, q1, q2, q3, q4⟩ := hW.1 key _ hk
  have hr : r = (C, T, N) := Option.some.inj (h1.symm.trans hc)
  subst hr
  obtain ⟨hS, hfc, kC, hkC, hkind⟩ := hK.1 ci _ hc
  obtain ⟨cf, kf, fi, f, hi, hsl⟩ := hS k hkN
  have hlay := hts _ (hin _ (u_in_lay hkN))
  unfold u_lay at hlay
  rw [if_pos hfin] at hlay
  have hst := (u_facts hfc hkC (u_lays hts hin hkN) hi).1
  have hcf : m.cls = cf := by
    obtain ⟨_, _, c', _, _, _, -, -, hf', -, -, -, hown2, -⟩ := Cond.laysFinal_spec hlay
    have e1 : c' = cf := by have := hi.symm.trans hf'; simp at this; exact this.1.symm
    rw [hdecl, hCo] at hown2
    rw [← e1]; exact Option.some.inj (hC.2.2.2.1.symm.trans hown2)
  have h6 := u_fits hfc hkC hkind (Or.inr hlay) hi hty (h_narrow α hn) (h_fits α hf)
  have hi' := hi
  rw [hdecl] at hi'
  refine W.putFinK hC.1 hC.2.1 hC.2.2.2.1 (hts _ (h_in hlink rfl)) hi' hst hcf (hC.2.2.2.2.2.2.2.1 hini) (by rw [q2]; exact h6) q1 q3 (by rw [hsl]; exact k2_hasslot (q4 k hkN)) rfl rfl (h_dec hC hd) fun H' e1 e2 e3 => ?_
  rw [hsl] at e1 ⊢
  have hat : va_at D.1 vwCl (α key, h_re D α (.inr (ci, fs.set k v))) H' := by
    refine ⟨_, hc, ?_⟩
    show t_OB _ _ _ _ _ (vp_V ((fs.set k v).map (h_rv α)))
    rw [List.map_set]
    exact t_OB.to (V := updV (vp_V (fs.map (h_rv α))) k (h_rv α v)) ⟨_, e1, q2, q3, t_set q4 hap hkN (h_rv α v)⟩ (fun j _ => vp_updV_set (by rw [List.length_map]; exact hkf) _ j)
  have hce : h_ce h (.inr (ci, fs.set k v)) := fun w hw => by
    rcases List.mem_or_eq_of_mem_set hw with q | q
    · exact hW.2.2.2.2 _ _ hk w q
    · rw [q]; exact h_cl_hd hcl
  exact kk p l e s m args below meth c H' _ D α α0 h0 lsA hC (hW.put hk hro hce hat e2 e3) (h_ll_mono hup_mono hll) (h_cl_mono hup_mono (h_cl_tl (h_cl_tl hcl))) hl
theorem j_iald {key n : Nat} {f : Nat → Int32} {i : Int32} (hd : fnd (h_tab M) pc = some (.iaload, 1)) (hp : pc + 1 = pc') (hk : h key = some (.inl (.int, n, .inl f))) (hi : vp_in i n) (kk : J M R Q cells slots h pc' ls (.int (f i.toNatClampNeg) :: st)) : J M R Q cells slots h pc ls (.int i :: .ref key :: st) := by
  subst hp
  intro p l e s m args below meth c H locs D α α0 h0 lsA hC hW hll hcl hl
  exact va_iald hC.1 hC.2.1 hC.2.2.2.2.2.2.2.2.1.1 (h_one hW.1 hk) 0 0 rfl rfl hi (h_dec hC hd) (kk p l e s m args below meth c H locs D α α0 h0 lsA hC hW hll (h_cl_i (h_cl_tl (h_cl_tl hcl))) hl)
theorem j_bald {key n : Nat} {f : Nat → Int32} {i : Int32} (hd : fnd (h_tab M) pc = some (.baload, 1)) (hp : pc + 1 = pc') (hk : h key = some (.inl (.byte, n, .inl f))) (hi : vp_in i n) (kk : J M R Q cells slots h pc' ls (.int (f i.toNatClampNeg) :: st)) : J M R Q cells slots h pc ls (.int i :: .ref key :: st) := by
  subst hp
  intro p l e s m args below meth c H locs D α α0 h0 lsA hC hW hll hcl hl
  exact va_bald hC.1 hC.2.1 hC.2.2.2.2.2.2.2.2.1.1 (h_one hW.1 hk) 0 2 rfl rfl hi (h_dec hC hd) (kk p l e s m args below meth c H locs D α α0 h0 lsA hC hW hll (h_cl_i (h_cl_tl (h_cl_tl hcl))) hl)
theorem j_zald {key n : Nat} {f : Nat → Int32} {i : Int32} (hd : fnd (h_tab M) pc = some (.baload, 1)) (hp : pc + 1 = pc') (hk : h key = some (.inl (.boolean, n, .inl f))) (hi : vp_in i n) (kk : J M R Q cells slots h pc' ls (.int (f i.toNatClampNeg) :: st)) : J M R Q cells slots h pc ls (.int i :: .ref key :: st) := by
  subst hp
  intro p l e s m args below meth c H locs D α α0 h0 lsA hC hW hll hcl hl
  exact va_zald hC.1 hC.2.1 hC.2.2.2.2.2.2.2.2.1.1 (h_one hW.1 hk) 0 3 rfl rfl hi (h_dec hC hd) (kk p l e s m args below meth c H locs D α α0 h0 lsA hC hW hll (h_cl_i (h_cl_tl (h_cl_tl hcl))) hl)
theorem j_lald {key n : Nat} {f : Nat → Int64} {i : Int32} (hd : fnd (h_tab M) pc = some (.laload, 1)) (hp : pc + 1 = pc') (hk : h key = some (.inl (.long, n, .inr (.inl f)))) (hi : vp_in i n) (kk : J M R Q cells slots h pc' ls (.long (f i.toNatClampNeg) :: st)) : J M R Q cells slots h pc ls (.int i :: .ref key :: st) := by
  subst hp
  intro p l e s m args below meth c H locs D α α0 h0 lsA hC hW hll hcl hl
  exact va_lald hC.1 hC.2.1 hC.2.2.2.2.2.2.2.2.1.1 (h_one hW.1 hk) 0 1 rfl rfl hi (h_dec hC hd) (kk p l e s m args below meth c H locs D α α0 h0 lsA hC hW hll (h_cl_l (h_cl_tl (h_cl_tl hcl))) hl)
theorem h_rf (α : Nat → Nat) (r : Option Nat) : va_rf (r.map α) = h_rv α (va_rf r) := by cases r <;> rfl
theorem h_of_tys {D : hG} {C : String} (hC : C ∈ [RX4, RX1, RX2, RX3]) : ∃ t0 : Nat, (h_tys D)[t0]? = some (D.2 (.object C), .object C) := by
  simp only [List.mem_cons, List.not_mem_nil, or_false] at hC
  rcases hC with rfl | rfl | rfl | rfl
  · exact ⟨4, rfl⟩
  · exact ⟨5, rfl⟩
  · exact ⟨6, rfl⟩
  · exact ⟨7, rfl⟩
theorem j_aald {key n : Nat} {f : Nat → Option Nat} {i : Int32} {C : String} (hd : fnd (h_tab M) pc = some (.aaload, 1)) (hp : pc + 1 = pc') (hc : C ∈ [RX4, RX1, RX2, RX3]) (hk : h key = some (.inl (.object C, n, .inr (.inr (.inr (.inr f)))))) (hi : vp_in i n) (kk : J M R Q cells slots h pc' ls (va_rf (f i.toNatClampNeg) :: st)) : J M R Q cells slots h pc ls (.int i :: .ref key :: st) := by
  subst hp
  intro p l e s m args below meth c H locs D α α0 h0 lsA hC hW hll hcl hl
  obtain ⟨t0, ht0⟩ := h_of_tys (D := D) hc
  refine va_aldq hC.1 hC.2.1 hC.2.2.2.2.2.2.2.2.1.1 (h_one hW.1 hk) 0 t0 rfl ht0 hi (h_dec hC hd) ?_
  have hcv : h_cv h (va_rf (f i.toNatClampNeg)) := by
    cases hj : f i.toNatClampNeg with
    | none => trivial
    | some k => exact hW.2.2.2.2 _ _ hk _ k hj
  have := kk p l e s m args below meth c H locs D α α0 h0 lsA hC hW hll (h_cl_cons hcv (h_cl_tl (h_cl_tl hcl))) hl
  rw [List.map_cons, ← h_rf] at this
  exact this
theorem j_iast {key n : Nat} {f : Nat → Int32} {i : Int32} {x : Int32} (hd : fnd (h_tab M) pc = some (.iastore, 1)) (hp : pc + 1 = pc') (hk : h key = some (.inl (.int, n, .inl f))) (hro : key < 9000) (hi : vp_in i n) (kk : J M R Q cells slots (hup h key (.inl (.int, n, .inl (va_up f i.toNatClampNeg x)))) pc' ls st) : J M R Q cells slots h pc ls (.int x :: .int i :: .ref key :: st) := by
  subst hp
  intro p l e s m args below meth c H locs D α α0 h0 lsA hC hW hll hcl hl
  refine W.iast hC.1 hC.2.1 (hW.1 _ _ hk) ((hC.2.2.2.2.2.2.2.2.1.1.2 0 _ rfl).1 n (fun j => .int (f j))) (fun q => by cases q) (by show ¬ (i < 0 ∨ (arrV _ _ _).slots.size ≤ _); rw [arrV_size]; exact hi) rfl rfl (h_dec hC hd) fun H1 e1 z oq => ?_
  have hat : va_at D.1 vwCl (α key, h_re D α (.inl (.int, n, .inl (va_up f i.toNatClampNeg x)))) H1 := by
    show H1[α key]? = some (vp_cell _ _)
    rw [e1]
    show some ((vp_cell _ (n, _)).setSlot _ _) = some (vp_cell _ (n, _))
    rw [vp_cell_i, vp_cell_i, arrV_store]
    congr 2
    funext q
    by_cases hq : q = i.toNatClampNeg
    · subst hq
      simp [updV, va_up, vp_nar]
      try rfl
    · simp [updV, va_up, hq]
  exact kk p l e s m args below meth c H1 _ D α α0 h0 lsA hC (hW.put hk hro trivial hat z oq) (h_ll_mono hup_mono hll) (h_cl_mono hup_mono (h_cl_tl (h_cl_tl (h_cl_tl hcl)))) hl
theorem j_bast {key n : Nat} {f : Nat → Int32} {i : Int32} {x : Int32} (hd : fnd (h_tab M) pc = some (.bastore, 1)) (hp : pc + 1 = pc') (hk : h key = some (.inl (.byte, n, .inl f))) (hro : key < 9000) (hi : vp_in i n) (kk : J M R Q cells slots (hup h key (.inl (.byte, n, .inl (va_up f i.toNatClampNeg (vp_nar .byte x))))) pc' ls st) : J M R Q cells slots h pc ls (.int x :: .int i :: .ref key :: st) := by
  subst hp
  intro p l e s m args below meth c H locs D α α0 h0 lsA hC hW hll hcl hl
  refine W.bast hC.1 hC.2.1 (hW.1 _ _ hk) ((hC.2.2.2.2.2.2.2.2.1.1.2 2 _ rfl).1 n (fun j => .int (f j))) (fun q => by cases q) (by show ¬ (i < 0 ∨ (arrV _ _ _).slots.size ≤ _); rw [arrV_size]; exact hi) rfl rfl (h_dec hC hd) fun H1 e1 z oq => ?_
  have hat : va_at D.1 vwCl (α key, h_re D α (.inl (.byte, n, .inl (va_up f i.toNatClampNeg (vp_nar .byte x))))) H1 := by
    show H1[α key]? = some (vp_cell _ _)
    rw [e1]
    show some ((vp_cell _ (n, _)).setSlot _ _) = some (vp_cell _ (n, _))
    rw [vp_cell_i, vp_cell_i, arrV_store]
    congr 2
    funext q
    by_cases hq : q = i.toNatClampNeg
    · subst hq
      simp [updV, va_up, vp_nar]
      try rfl
    · simp [updV, va_up, hq]
  exact kk p l e s m args below meth c H1 _ D α α0 h0 lsA hC (hW.put hk hro trivial hat z oq) (h_ll_mono hup_mono hll) (h_cl_mono hup_mono (h_cl_tl (h_cl_tl (h_cl_tl hcl)))) hl
theorem j_zast {key n : Nat} {f : Nat → Int32} {i : Int32} {x : Int32} (hd : fnd (h_tab M) pc = some (.bastore, 1)) (hp : pc + 1 = pc') (hk : h key = some (.inl (.boolean, n, .inl f))) (hro : key < 9000) (hi : vp_in i n) (kk : J M R Q cells slots (hup h key (.inl (.boolean, n, .inl (va_up f i.toNatClampNeg (vp_nar .boolean x))))) pc' ls st) : J M R Q cells slots h pc ls (.int x :: .int i :: .ref key :: st) := by
  subst hp
  intro p l e s m args below meth c H locs D α α0 h0 lsA hC hW hll hcl hl
  refine W.zast hC.1 hC.2.1 (hW.1 _ _ hk) ((hC.2.2.2.2.2.2.2.2.1.1.2 3 _ rfl).1 n (fun j => .int (f j))) (fun q => by cases q) (by show ¬ (i < 0 ∨ (arrV _ _ _).slots.size ≤ _); rw [arrV_size]; exact hi) rfl rfl (h_dec hC hd) fun H1 e1 z oq => ?_
  have hat : va_at D.1 vwCl (α key, h_re D α (.inl (.boolean, n, .inl (va_up f i.toNatClampNeg (vp_nar .boolean x))))) H1 := by
    show H1[α key]? = some (vp_cell _ _)
    rw [e1]
    show some ((vp_cell _ (n, _)).setSlot _ _) = some (vp_cell _ (n, _))
    rw [vp_cell_i, vp_cell_i, arrV_store]
    congr 2
    funext q
    by_cases hq : q = i.toNatClampNeg
    · subst hq
      simp [updV, va_up, vp_nar]
      try rfl
    · simp [updV, va_up, hq]
  exact kk p l e s m args below meth c H1 _ D α α0 h0 lsA hC (hW.put hk hro trivial hat z oq) (h_ll_mono hup_mono hll) (h_cl_mono hup_mono (h_cl_tl (h_cl_tl (h_cl_tl hcl)))) hl
theorem j_last {key n : Nat} {f : Nat → Int64} {i : Int32} {x : Int64} (hd : fnd (h_tab M) pc = some (.lastore, 1)) (hp : pc + 1 = pc') (hk : h key = some (.inl (.long, n, .inr (.inl f)))) (hro : key < 9000) (hi : vp_in i n) (kk : J M R Q cells slots (hup h key (.inl (.long, n, .inr (.inl (va_up f i.toNatClampNeg x))))) pc' ls st) : J M R Q cells slots h pc ls (.long x :: .int i :: .ref key :: st) := by
  subst hp
  intro p l e s m args below meth c H locs D α α0 h0 lsA hC hW hll hcl hl
  refine W.last hC.1 hC.2.1 (hW.1 _ _ hk) ((hC.2.2.2.2.2.2.2.2.1.1.2 1 _ rfl).1 n (fun j => .long (f j))) (fun q => by cases q) (by show ¬ (i < 0 ∨ (arrV _ _ _).slots.size ≤ _); rw [arrV_size]; exact hi) rfl rfl (h_dec hC hd) fun H1 e1 z oq => ?_
  have hat : va_at D.1 vwCl (α key, h_re D α (.inl (.long, n, .inr (.inl (va_up f i.toNatClampNeg x))))) H1 := by
    show H1[α key]? = some (vp_cell _ _)
    rw [e1]
    show some ((vp_cell _ (n, _)).setSlot _ _) = some (vp_cell _ (n, _))
    rw [vp_cell_l, vp_cell_l, arrV_store]
    congr 2
    funext q
    by_cases hq : q = i.toNatClampNeg
    · subst hq
      simp [updV, va_up, vp_nar]
      try rfl
    · simp [updV, va_up, hq]
  exact kk p l e s m args below meth c H1 _ D α α0 h0 lsA hC (hW.put hk hro trivial hat z oq) (h_ll_mono hup_mono hll) (h_cl_mono hup_mono (h_cl_tl (h_cl_tl (h_cl_tl hcl)))) hl
theorem j_aast {key n v ci : Nat} {r : vw_C} {vs : List Value} {f : Nat → Option Nat} {i : Int32} (hd : fnd (h_tab M) pc = some (.aastore, 1)) (hp : pc + 1 = pc') (hc : r.1 ∈ [RX4, RX1, RX2, RX3]) (hk : h key = some (.inl (.object r.1, n, .inr (.inr (.inr (.inr f)))))) (hro : key < 9000) (hi : vp_in i n) (hv : h v = some (.inr (ci, vs))) (hci : vwCl[ci]? = some r) (kk : J M R Q cells slots (hup h key (.inl (.object r.1, n, .inr (.inr (.inr (.inr (va_up f i.toNatClampNeg (some v)))))))) pc' ls st) : J M R Q cells slots h pc ls (.ref v :: .int i :: .ref key :: st) := by
  subst hp
  intro p l e s m args below meth c H locs D α α0 h0 lsA hC hW hll hcl hl
  obtain ⟨t0, ht0⟩ := h_of_tys (D := D) hc
  have hK := hC.2.2.2.2.2.2.2.2.1.1
  have hlt : i.toNatClampNeg < n := Nat.not_le.mp fun q => hi (Or.inr q)
  have hlo : ¬ i < 0 := fun q => hi (Or.inl q)
  obtain ⟨r', hr', cellV, g1, g2, g3, -⟩ := hW.1 v _ hv
  have hcls := (hK.1 ci r hci).2
  obtain ⟨kA, comp, k1, k2, k3, -⟩ := (hK.2 t0 _ ht0).2
  have hcomp : comp = D.1.1 ci := Option.some.inj (k3.symm.trans hcls.1)
  subst hcomp
  obtain ⟨kC, hkC, -⟩ := hcls.2
  refine W.aast hC.1 hC.2.1 (hW.1 _ _ hk) (fun q h => by cases h) (fun h => by cases h) k1 k2 rfl hkC ⟨hlo, by show _ < (arrV _ _ _).slots.size; rw [arrV_size]; exact hlt⟩ g1 (fun q h => by rw [g3] at h; cases h) (by rw [g2]; exact hkC) (by rw [g2]; exact va_assign hcls) rfl rfl (h_dec hC hd) fun H1 e1 z oq => ?_
  have hat : va_at D.1 vwCl (α key, h_re D α (.inl (.object r.1, n, .inr (.inr (.inr (.inr (va_up f i.toNatClampNeg (some v)))))))) H1 := by
    show H1[α key]? = some (vp_cell _ _)
    rw [e1]
    show some ((vp_cell _ (n, _)).setSlot _ _) = some (vp_cell _ (n, _))
    rw [vp_cell_q, vp_cell_q, arrV_store]
    congr 2
    funext q
    by_cases hq : q = i.toNatClampNeg
    · subst hq
      simp [updV, va_up, va_rf]
    · simp [updV, va_up, hq]
  have hce : h_ce h (.inl (.object r.1, n, .inr (.inr (.inr (.inr (va_up f i.toNatClampNeg (some v))))))) := fun j k hj => by
    by_cases hq : j = i.toNatClampNeg
    · subst hq
      simp [va_up] at hj
      rw [← hj, hv]; exact fun z => by cases z
    · simp [va_up, hq] at hj
      exact hW.2.2.2.2 _ _ hk j k hj
  exact kk p l e s m args below meth c H1 _ D α α0 h0 lsA hC (hW.put hk hro hce hat z oq) (h_ll_mono hup_mono hll) (h_cl_mono hup_mono (h_cl_tl (h_cl_tl (h_cl_tl hcl)))) hl
theorem j_alen {key : Nat} {ty : FieldType} {x : vp_A} {v : Int32} {t0 : Nat} (hd : fnd (h_tab M) pc = some (.arraylength, 1)) (hp : pc + 1 = pc') (hk : h key = some (.inl (ty, x))) (ht : ∀ D : hG, (h_tys D)[t0]? = some (D.2 ty, ty)) (hv : Int32.ofNat x.1 = v) (kk : J M R Q cells slots h pc' ls (.int v :: st)) : J M R Q cells slots h pc ls (.ref key :: st) := by
  subst hp
  intro p l e s m args below meth c H locs D α α0 h0 lsA hC hW hll hcl hl
  refine va_alen hC.1 hC.2.1 hC.2.2.2.2.2.2.2.2.1.1 (h_one hW.1 hk) 0 t0 rfl (ht D) (x := h_ra α x) (v := v) ?_ (h_dec hC hd) (kk p l e s m args below meth c H locs D α α0 h0 lsA hC hW hll (h_cl_i (h_cl_tl hcl)) hl)
  obtain ⟨n, f | f | f | f | f⟩ := x <;> exact hv
end HMEM
end
section
/-! NEW CELLS, ENDS AND CALLS, over the abstract heap (J). -/
section HCALLS
variable {M : hM} {R : Room} {Q : Option Value → hH → Prop} {cells slots : Nat} {h : hH} {pc pc' : Nat} {ls : List (Nat × Value)} {st : List Value}
def h_nr (v : Value) : Bool := match v with
  | .ref _ => false
  | _ => true
theorem h_nr_rv {v : Value} (α : Nat → Nat) (hv : h_nr v = true) : h_rv α v = v := by
  cases v with
  | ref k => cases hv
  | _ => rfl
theorem h_nr_cv {v : Value} (h : hH) (hv : h_nr v = true) : h_cv h v := by
  cases v with
  | ref k => cases hv
  | _ => trivial
/-- what lies behind: the stack and the locals stay, under the longer map of keys -/
theorem j_ext {M : hM} {R : Room} {Q : Option Value → hH → Prop} {cells slots : Nat} {h h' : hH} {pc : Nat} {ls : List (Nat × Value)} {st : List Value} (kk : J M R Q cells slots h' pc ls st)
    {p : Program} {l : Launch} {e : Env} {s : State} {m : MethodId} {args : Array Value} {below : List Frame} {meth : Method} {c : Code} {H : Heap} {locs : List Loc} {D : hG} {α α' α0 : Nat → Nat} {h0 : hH} {lsA : Array Slot}
    (hC : h_Cx M p s m args meth c D) (hW : h_Wd D α' h' α0 h0 s H locs) (e1 : ∀ k : Nat, h k ≠ none → h' k ≠ none) (e2 : ∀ k : Nat, h k ≠ none → α' k = α k) (hll : h_ll h ls) (hcl : h_cl h' st) (hl : lv_has lsA (h_nL M) (ls.map (fun q => (q.1, h_rv α q.2)))) :
    W p l e R s m args below meth c H locs cells slots (MQ below (h_QQ D α0 h0 Q) args s R.cells R.slots (h_AA α0 h0 s.heap.size)) (F0 m pc lsA (st.map (h_rv α'))) :=
  kk p l e s m args below meth c H locs D α' α0 h0 lsA hC hW (h_ll_mono e1 hll) hcl (by rw [h_lmap_ext e2 hll]; exact hl)
/-- new -/
theorem j_new {idx ci key N : Nat} {C : String} {T : u_T} {fs : List Value} (hd : fnd (h_tab M) pc = some (.new idx, 3)) (hp : pc + 3 = pc') (hcl0 : Cond.classLink (h_own M) idx C ∈ lw_tbl) (hc : vwCl[ci]? = some (C, T, N)) (hdf : ∀ j, j < N → (parseFieldDescriptor (T j).2.2.1).map defaultValue = some (vp_V fs j)) (hnr : ∀ v ∈ fs, h_nr v = true) (hk : h key = none) (hcells : cells + 1 ≤ R.cells) (hslots : slots + N ≤ R.slots)
    (kk : J M R Q (cells + 1) (slots + N) (hup h key (.inr (ci, fs))) pc' ls (.ref key :: st)) : J M R Q cells slots h pc ls st := by
  subst hp
  intro p l e s m args below meth c H locs D α α0 h0 lsA hC hW hll hcl hl
  have hck := h_cls _ _ _ _ hc
  obtain ⟨ty0, hty0⟩ := hck.2.1
  have hts := hC.2.2.2.2.1
  have hin : ∀ w ∈ u_ws C T N, w ∈ hw_tbl := fun w hw => h_in (hck.1 w hw) (by obtain ⟨j, -, rfl⟩ := List.mem_map.mp hw; unfold u_lay; split <;> rfl)
  have hKn := hC.2.2.2.2.2.2.2.2.1.1.1 ci _ hc
  refine W.newcK hC.1 hC.2.1 hC.2.2.2.1 (hts _ (h_in hcl0 rfl)) (hts _ (h_in hck.2.2.2.1 rfl)) (hts _ (h_in hck.2.2.2.2 rfl)) rfl (h_dec hC hd) hcells hslots hKn.2.1 rfl fun H1 kC hkC e1 z1 o1 => ?_
  have hmap : fs.map (h_rv α) = fs := by
    have : fs.map (h_rv α) = fs.map id := List.map_congr_left fun v hv => h_nr_rv α (hnr v hv)
    rw [this, List.map_id]
  have hat : va_at D.1 vwCl (H.size, h_re D α (.inr (ci, fs))) H1 := by
    refine ⟨_, hc, ?_⟩
    show t_OB _ _ _ _ _ (vp_V (fs.map (h_rv α)))
    rw [hmap]
    refine (u_born ty0 hts hin hKn hkC e1 hty0).to (fun j hj => ?_)
    have q := hdf j hj
    rw [hty0 j hj] at q
    exact Option.some.inj q
  obtain ⟨hW', hal⟩ := hW.push hk (e := .inr (ci, fs)) (fun v hv => h_nr_cv h (hnr v hv)) hat z1 o1
  have hself : h_al α key H.size key = H.size := if_pos rfl
  have := j_ext (l := l) (e := e) (below := below) kk hC hW' hup_mono hal hll (h_cl_cons (show hup h key _ key ≠ none by rw [hup_self]; exact fun z => by cases z) (h_cl_mono hup_mono hcl)) hl
  rw [List.map_cons, h_map_ext hal hcl] at this
  rw [← hself]
  exact this
theorem j_newa_int {key N : Nat} {n : Int32} (hd : fnd (h_tab M) pc = some (.newarray .int, 2)) (hp : pc + 2 = pc') (hw : Cond.arrayClass .int ∈ lw_tbl) (hn : ¬ n < 0) (hN : n.toNatClampNeg = N) (hbytes : N ≤ 10000) (hk : h key = none) (hcells : cells + 1 ≤ R.cells) (hslots : slots + N ≤ R.slots)
    (kk : J M R Q (cells + 1) (slots + N) (hup h key (.inl (.int, N, .inl (fun _ => 0)))) pc' ls (.ref key :: st)) : J M R Q cells slots h pc ls (.int n :: st) := by
  subst hp
  intro p l e s m args below meth c H locs D α α0 h0 lsA hC hW hll hcl hl
  refine va_newaK hC.1 hC.2.1 (atype := .int) (hC.2.2.2.2.1 _ (h_in hw rfl)) rfl (h_dec hC hd) rfl hn hN (by show N * componentBytes .int ≤ 536870912; simp only [componentBytes]; omega) hcells hslots rfl fun H1 cA e1 z1 o1 hAr hNm => ?_
  have hcA : D.2 .int = cA := Option.some.inj ((hC.2.2.2.2.2.2.2.2.1.1.2 0 _ rfl).2.symm.trans hNm)
  have hat : va_at D.1 vwCl (H.size, h_re D α (.inl (.int, N, .inl (fun _ => 0)))) H1 := by
    show H1[H.size]? = some (vp_cell (D.2 .int) _)
    rw [hcA]
    exact e1
  obtain ⟨hW', hal⟩ := hW.push hk (e := .inl (.int, N, .inl (fun _ => 0))) trivial hat z1 o1
  have hself : h_al α key H.size key = H.size := if_pos rfl
  have := j_ext (l := l) (e := e) (below := below) kk hC hW' hup_mono hal hll (h_cl_cons (show hup h key _ key ≠ none by rw [hup_self]; exact fun z => by cases z) (h_cl_mono hup_mono (h_cl_tl hcl))) hl
  rw [List.map_cons, h_map_ext hal (h_cl_tl hcl)] at this
  rw [← hself]
  exact this
theorem j_newa_long {key N : Nat} {n : Int32} (hd : fnd (h_tab M) pc = some (.newarray .long, 2)) (hp : pc + 2 = pc') (hw : Cond.arrayClass .long ∈ lw_tbl) (hn : ¬ n < 0) (hN : n.toNatClampNeg = N) (hbytes : N ≤ 10000) (hk : h key = none) (hcells : cells + 1 ≤ R.cells) (hslots : slots + N ≤ R.slots)
    (kk : J M R Q (cells + 1) (slots + N) (hup h key (.inl (.long, N, .inr (.inl (fun _ => 0))))) pc' ls (.ref key :: st)) : J M R Q cells slots h pc ls (.int n :: st) := by
  subst hp
  intro p l e s m args below meth c H locs D α α0 h0 lsA hC hW hll hcl hl
  refine va_newaK hC.1 hC.2.1 (atype := .long) (hC.2.2.2.2.1 _ (h_in hw rfl)) rfl (h_dec hC hd) rfl hn hN (by show N * componentBytes .long ≤ 536870912; simp only [componentBytes]; omega) hcells hslots rfl fun H1 cA e1 z1 o1 hAr hNm => ?_
  have hcA : D.2 .long = cA := Option.some.inj ((hC.2.2.2.2.2.2.2.2.1.1.2 1 _ rfl).2.symm.trans hNm)
  have hat : va_at D.1 vwCl (H.size, h_re D α (.inl (.long, N, .inr (.inl (fun _ => 0))))) H1 := by
    show H1[H.size]? = some (vp_cell (D.2 .long) _)
    rw [hcA]
    exact e1
  obtain ⟨hW', hal⟩ := hW.push hk (e := .inl (.long, N, .inr (.inl (fun _ => 0)))) trivial hat z1 o1
  have hself : h_al α key H.size key = H.size := if_pos rfl
  have := j_ext (l := l) (e := e) (below := below) kk hC hW' hup_mono hal hll (h_cl_cons (show hup h key _ key ≠ none by rw [hup_self]; exact fun z => by cases z) (h_cl_mono hup_mono (h_cl_tl hcl))) hl
  rw [List.map_cons, h_map_ext hal (h_cl_tl hcl)] at this
  rw [← hself]
  exact this
theorem j_newa_byte {key N : Nat} {n : Int32} (hd : fnd (h_tab M) pc = some (.newarray .byte, 2)) (hp : pc + 2 = pc') (hw : Cond.arrayClass .byte ∈ lw_tbl) (hn : ¬ n < 0) (hN : n.toNatClampNeg = N) (hbytes : N ≤ 10000) (hk : h key = none) (hcells : cells + 1 ≤ R.cells) (hslots : slots + N ≤ R.slots)
    (kk : J M R Q (cells + 1) (slots + N) (hup h key (.inl (.byte, N, .inl (fun _ => 0)))) pc' ls (.ref key :: st)) : J M R Q cells slots h pc ls (.int n :: st) := by
  subst hp
  intro p l e s m args below meth c H locs D α α0 h0 lsA hC hW hll hcl hl
  refine va_newaK hC.1 hC.2.1 (atype := .byte) (hC.2.2.2.2.1 _ (h_in hw rfl)) rfl (h_dec hC hd) rfl hn hN (by show N * componentBytes .byte ≤ 536870912; simp only [componentBytes]; omega) hcells hslots rfl fun H1 cA e1 z1 o1 hAr hNm => ?_
  have hcA : D.2 .byte = cA := Option.some.inj ((hC.2.2.2.2.2.2.2.2.1.1.2 2 _ rfl).2.symm.trans hNm)
  have hat : va_at D.1 vwCl (H.size, h_re D α (.inl (.byte, N, .inl (fun _ => 0)))) H1 := by
    show H1[H.size]? = some (vp_cell (D.2 .byte) _)
    rw [hcA]
    exact e1
  obtain ⟨hW', hal⟩ := hW.push hk (e := .inl (.byte, N, .inl (fun _ => 0))) trivial hat z1 o1
  have hself : h_al α key H.size key = H.size := if_pos rfl
  have := j_ext (l := l) (e := e) (below := below) kk hC hW' hup_mono hal hll (h_cl_cons (show hup h key _ key ≠ none by rw [hup_self]; exact fun z => by cases z) (h_cl_mono hup_mono (h_cl_tl hcl))) hl
  rw [List.map_cons, h_map_ext hal (h_cl_tl hcl)] at this
  rw [← hself]
  exact this
theorem j_newa_boolean {key N : Nat} {n : Int32} (hd : fnd (h_tab M) pc = some (.newarray .boolean, 2)) (hp : pc + 2 = pc') (hw : Cond.arrayClass .boolean ∈ lw_tbl) (hn : ¬ n < 0) (hN : n.toNatClampNeg = N) (hbytes : N ≤ 10000) (hk : h key = none) (hcells : cells + 1 ≤ R.cells) (hslots : slots + N ≤ R.slots)
    (kk : J M R Q (cells + 1) (slots + N) (hup h key (.inl (.boolean, N, .inl (fun _ => 0)))) pc' ls (.ref key :: st)) : J M R Q cells slots h pc ls (.int n :: st) := by
  subst hp
  intro p l e s m args below meth c H locs D α α0 h0 lsA hC hW hll hcl hl
  refine va_newaK hC.1 hC.2.1 (atype := .boolean) (hC.2.2.2.2.1 _ (h_in hw rfl)) rfl (h_dec hC hd) rfl hn hN (by show N * componentBytes .boolean ≤ 536870912; simp only [componentBytes]; omega) hcells hslots rfl fun H1 cA e1 z1 o1 hAr hNm => ?_
  have hcA : D.2 .boolean = cA := Option.some.inj ((hC.2.2.2.2.2.2.2.2.1.1.2 3 _ rfl).2.symm.trans hNm)
  have hat : va_at D.1 vwCl (H.size, h_re D α (.inl (.boolean, N, .inl (fun _ => 0)))) H1 := by
    show H1[H.size]? = some (vp_cell (D.2 .boolean) _)
    rw [hcA]
    exact e1
  obtain ⟨hW', hal⟩ := hW.push hk (e := .inl (.boolean, N, .inl (fun _ => 0))) trivial hat z1 o1
  have hself : h_al α key H.size key = H.size := if_pos rfl
  have := j_ext (l := l) (e := e) (below := below) kk hC hW' hup_mono hal hll (h_cl_cons (show hup h key _ key ≠ none by rw [hup_self]; exact fun z => by cases z) (h_cl_mono hup_mono (h_cl_tl hcl))) hl
  rw [List.map_cons, h_map_ext hal (h_cl_tl hcl)] at this
  rw [← hself]
  exact this
theorem j_newq {idx key N : Nat} {n : Int32} {C : String} (hd : fnd (h_tab M) pc = some (.anewarray idx, 3)) (hp : pc + 3 = pc') (hcl0 : Cond.classLink (h_own M) idx C ∈ lw_tbl) (hc : C ∈ [RX4, RX1, RX2, RX3]) (hn : ¬ n < 0) (hN : n.toNatClampNeg = N) (hbytes : N ≤ 10000) (hk : h key = none) (hcells : cells + 1 ≤ R.cells) (hslots : slots + N ≤ R.slots)
    (kk : J M R Q (cells + 1) (slots + N) (hup h key (.inl (.object C, N, .inr (.inr (.inr (.inr (fun _ => none))))))) pc' ls (.ref key :: st)) : J M R Q cells slots h pc ls (.int n :: st) := by
  subst hp
  subst hN
  intro p l e s m args below meth c H locs D α α0 h0 lsA hC hW hll hcl hl
  obtain ⟨t0, ht0⟩ := h_of_tys (D := D) hc
  have hK := hC.2.2.2.2.2.2.2.2.1
  refine W.anew hC.1 hC.2.1 hC.2.2.2.1 (hC.2.2.2.2.1 _ (h_in hcl0 rfl)) (va_AO.use (hK.2.2 C hc)) rfl (h_dec hC hd) rfl hn (by omega) hcells hslots fun cA kA comp f1 f2 f3 f4 => ?_
  generalize hH1 : H.push ({ cls := cA, slots := Array.replicate n.toNatClampNeg .null, vm := .none } : Cell) = H1
  have z1 : H1.size = H.size + 1 := by rw [← hH1, Array.size_push]
  have e1 : H1[H.size]? = some (arrV cA n.toNatClampNeg (fun _ => .null)) := by rw [← hH1, Array.getElem?_push_size, ← arrV_new]
  have o1 : ∀ q : Nat, q < H.size → H1[q]? = H[q]? := fun q hq => by rw [← hH1, Array.getElem?_push, if_neg (Nat.ne_of_lt hq)]
  obtain ⟨kA', comp', -, -, -, g4⟩ := (hK.1.2 t0 _ ht0).2
  have hcA : D.2 (.object C) = cA := Option.some.inj (g4.symm.trans f1)
  have hat : va_at D.1 vwCl (H.size, h_re D α (.inl (.object C, n.toNatClampNeg, .inr (.inr (.inr (.inr (fun _ => none))))))) H1 := by
    show H1[H.size]? = some (vp_cell (D.2 (.object C)) _)
    rw [hcA]
    exact e1
  obtain ⟨hW', hal⟩ := hW.push hk (e := .inl (.object C, n.toNatClampNeg, .inr (.inr (.inr (.inr (fun _ => none)))))) (fun j k hj => by cases hj) hat z1 o1
  have hself : h_al α key H.size key = H.size := if_pos rfl
  have := j_ext (l := l) (e := e) (below := below) kk hC hW' hup_mono hal hll (h_cl_cons (show hup h key _ key ≠ none by rw [hup_self]; exact fun z => by cases z) (h_cl_mono hup_mono (h_cl_tl hcl))) hl
  rw [List.map_cons, h_map_ext hal (h_cl_tl hcl)] at this
  rw [← hself]
  exact this
theorem j_iret {v : Int32} (hd : fnd (h_tab M) pc = some (.ireturn, 1)) (hr : h_ret M = some .int) (hcs : cells ≤ R.cells) (hss : slots ≤ R.slots) (q : Q (some (.int v)) h) : J M R Q cells slots h pc ls [.int v] := by
  intro p l e s m args below meth c H locs D α α0 h0 lsA hC hW hll hcl hl
  refine W.widen hcs hss ?_
  exact W.iret (hlocks := hC.2.2.2.2.2.2.1) hC.1 hC.2.1 (hC.2.2.2.2.2.1.trans hr)  (fun t ht hWa => ⟨some (.int v), h, α, rfl, q, by rw [ht]; exact hW.1, hW.2.1, hW.2.2.2.1, hW.2.2.2.2, (fun w hw => by cases hw; trivial), hW.2.2.1.F ht⟩) hW.2.2.1.2.2 (h_dec hC hd)
theorem j_lret {v : Int64} (hd : fnd (h_tab M) pc = some (.lreturn, 1)) (hr : h_ret M = some .long) (hcs : cells ≤ R.cells) (hss : slots ≤ R.slots) (q : Q (some (.long v)) h) : J M R Q cells slots h pc ls [.long v] := by
  intro p l e s m args below meth c H locs D α α0 h0 lsA hC hW hll hcl hl
  refine W.widen hcs hss ?_
  exact W.lret (hlocks := hC.2.2.2.2.2.2.1) hC.1 hC.2.1 (hC.2.2.2.2.2.1.trans hr)  (fun t ht hWa => ⟨some (.long v), h, α, rfl, q, by rw [ht]; exact hW.1, hW.2.1, hW.2.2.2.1, hW.2.2.2.2, (fun w hw => by cases hw; trivial), hW.2.2.1.F ht⟩) hW.2.2.1.2.2 (h_dec hC hd)
theorem j_zret {v : Int32} (hd : fnd (h_tab M) pc = some (.ireturn, 1)) (hr : h_ret M = some .boolean) (hb : narrow .boolean (.int v) = .int v) (hcs : cells ≤ R.cells) (hss : slots ≤ R.slots) (q : Q (some (.int v)) h) : J M R Q cells slots h pc ls [.int v] := by
  intro p l e s m args below meth c H locs D α α0 h0 lsA hC hW hll hcl hl
  refine W.widen hcs hss ?_
  exact W.zret (hlocks := hC.2.2.2.2.2.2.1) hC.1 hC.2.1 (hC.2.2.2.2.2.1.trans hr) hb (fun t ht hWa => ⟨some (.int v), h, α, rfl, q, by rw [ht]; exact hW.1, hW.2.1, hW.2.2.2.1, hW.2.2.2.2, (fun w hw => by cases hw; trivial), hW.2.2.1.F ht⟩) hW.2.2.1.2.2 (h_dec hC hd)
theorem j_vret (hd : fnd (h_tab M) pc = some (.return_, 1)) (hr : h_ret M = none) (hcs : cells ≤ R.cells) (hss : slots ≤ R.slots) (q : Q (none) h) : J M R Q cells slots h pc ls [] := by
  intro p l e s m args below meth c H locs D α α0 h0 lsA hC hW hll hcl hl
  refine W.widen hcs hss ?_
  exact W.vret (hlocks := hC.2.2.2.2.2.2.1) hC.1 hC.2.1 (hC.2.2.2.2.2.1.trans hr)  (fun t ht hWa => ⟨none, h, α, rfl, q, by rw [ht]; exact hW.1, hW.2.1, hW.2.2.2.1, hW.2.2.2.2, (fun w hw => by cases hw), hW.2.2.1.F ht⟩) hW.2.2.1.2.2 (h_dec hC hd)
theorem j_aret {v : Value} {rt : FieldType} (hd : fnd (h_tab M) pc = some (.areturn, 1)) (hr : h_ret M = some rt) (hrt : (∃ n, rt = .object n) ∨ ∃ t, rt = .array t) (hv : v = .null ∨ ∃ a, v = .ref a) (hcs : cells ≤ R.cells) (hss : slots ≤ R.slots) (q : Q (some v) h) : J M R Q cells slots h pc ls [v] := by
  intro p l e s m args below meth c H locs D α α0 h0 lsA hC hW hll hcl hl
  refine W.widen hcs hss ?_
  exact W.aret (v := h_rv α v) (hlocks := hC.2.2.2.2.2.2.1) hC.1 hC.2.1 (hC.2.2.2.2.2.1.trans hr) hrt (by rcases hv with rfl | ⟨a, rfl⟩; exact Or.inl rfl; exact Or.inr ⟨_, rfl⟩) (fun t ht hWa => ⟨some v, h, α, rfl, q, by rw [ht]; exact hW.1, hW.2.1, hW.2.2.2.1, hW.2.2.2.2, (fun w hw => by cases hw; exact h_cl_hd hcl), hW.2.2.1.F ht⟩) hW.2.2.1.2.2 (h_dec hC hd)
/-- Object.<init> -/
theorem j_objInit {idx key : Nat} (hd : fnd (h_tab M) pc = some (.invokespecial idx, 3)) (hp : pc + 3 = pc') (h1 : Cond.methodLink (h_own M) idx objectInit ∈ lw_tbl) (h2 : Cond.instanceMethod objectInit ∈ lw_tbl) (h3 : Cond.code objectInit ⟨#[0xb1]⟩ 1 none ∈ lw_tbl) (hR : 1 ≤ R.frames ∧ (st.map fun v => v.category).sum + 12 ≤ R.locals) (kk : J M R Q cells slots h pc' ls st) : J M R Q cells slots h pc ls (.ref key :: st) := by
  subst hp
  intro p l e s m args below meth c H locs D α α0 h0 lsA hC hW hll hcl hl
  have hts := hC.2.2.2.2.1
  refine W.objInit hC.1 hC.2.1 hC.2.2.2.1 (hts _ (h_in h1 rfl)) (hts _ (h_in h2 rfl)) (hts _ (h_in h3 rfl)) rfl (by show lsA.size = c.maxLocals; rw [hC.2.2.1]; exact hl.1) (rest := st.map (h_rv α)) rfl (h_dec hC hd) hR.1 ?_ (kk p l e s m args below meth c H locs D α α0 h0 lsA hC hW hll (h_cl_tl hcl) hl)
  have hcat : (st.map (h_rv α)).map (fun v => v.category) = st.map (fun v => v.category) := by rw [List.map_map]; exact List.map_congr_left fun v _ => h_rv_cat α v
  rw [hcat]
  show 2 * 0 + _ + 12 ≤ _
  omega
theorem h_blind {D : hG} {α : Nat → Nat} {h : hH} {av : List Value} {sz : Nat} : FrameBlind (va_Pc (av.map (h_rv α)) (fun U => U.heap.size = sz ∧ h_K D U ∧ h_P D α h U.heap ∧ h_D (fun _ => True) α h ∧ h_cH h ∧ h_cl h av)) := fun a U g mk q => by
  obtain ⟨q0, q1, qK, q2⟩ := q
  exact ⟨q0, q1, ⟨va_K.moved (u := U) (U := U.calling g mk a) (Vm.Alike.refl U.vm) qK.1, fun x hx => va_Nw.same rfl rfl (qK.2.1 x hx), fun x hx => va_AO.moved (u := U) (U := U.calling g mk a) (Vm.Alike.refl U.vm) (qK.2.2 x hx)⟩, q2⟩
theorem h_K.warm {D : hG} {s U : State} (hW : s.WarmedH U.vm) (hK : h_K D s) : h_K D U := ⟨va_K.moved hW.alike hK.1, fun x hx => va_Nw.warmM hW (hK.2.1 x hx), fun x hx => va_AO.moved hW.alike (hK.2.2 x hx)⟩
/-- behind a call -/
theorem j_back {R' : Room} {Q' : Option Value → hH → Prop} {p : Program} {l : Launch} {e : Env} {s : State} {m : MethodId} {args : Array Value} {below : List Frame} {meth : Method} {c : Code} {H : Heap} {locs : List Loc} {D : hG} {α α0 : Nat → Nat} {h0 : hH} {lsA : Array Slot} {st0 : List Value}
    (hC : h_Cx M p s m args meth c D) (hW : h_Wd D α h α0 h0 s H locs) (hll : h_ll h ls) (hcl : h_cl h st) (hl : lv_has lsA (h_nL M) (ls.map (fun q => (q.1, h_rv α q.2)))) {a' : Array Value}
    (hr : va_Run p l e R s m args below meth c H locs cells slots R'.cells R'.slots (F0 m pc lsA st0) (st.map (h_rv α)) (h_QQ D α h Q' a') (h_AA α h H.size))
    (kk : ∀ (v : Option Value) (h' : hH), Q' v h' → J M R Q (cells + R'.cells) (slots + R'.slots) h' (pc + 3) ls (v.toList ++ st)) :
    W p l e R s m args below meth c H locs cells slots (MQ below (h_QQ D α0 h0 Q) args s R.cells R.slots (h_AA α0 h0 s.heap.size)) (F0 m pc lsA st0) := by
  intro T hT X
  obtain ⟨v, st₀, t, T', L, hst, X', hL, e1, e2, ⟨v', h', α', q1, q2, q3, q4, q5, q6, q7, q8⟩, go⟩ := hr T hT X
  cases q1
  have hsub : ∀ q : Nat, h_AA α h H.size q → h_AA α0 h0 s.heap.size q := fun q hq => by
    rcases hq with ⟨k, hk, hn, rfl⟩ | hq
    · exact hW.2.1.2 k hk hn
    · exact Or.inr (Nat.le_trans hW.2.2.1.1 hq)
  rw [hst] at q4
  have q8' : H.size ≤ t.heap.size ∧ ∀ q : Nat, q < H.size → ¬ h_AA α h H.size q → t.heap[q]? = H[q]? := by
    have z := q8
    unfold va_F at z
    rw [hst] at z
    exact z
  have hW' : h_Wd D α' h' α0 h0 s t.heap (locs ++ L) := by
    refine ⟨q3, ⟨q4.1, fun k hk hn => hsub _ (q4.2 k hk hn)⟩, ⟨Nat.le_trans hW.2.2.1.1 q8'.1, fun q hq hn => ?_, fun q hq => ?_⟩, fun k hk => ⟨(q5 k (hW.2.2.2.1 k hk).1).1, (q5 k (hW.2.2.2.1 k hk).1).2.trans (hW.2.2.2.1 k hk).2⟩, q6⟩
    · exact (q8'.2 q (Nat.lt_of_lt_of_le hq hW.2.2.1.1) (fun z => hn (hsub q z))).trans (hW.2.2.1.2.1 q hq hn)
    · rcases List.mem_append.mp hq with z | z
      · exact hW.2.2.1.2.2 q z
      · exact hsub _ (hL q z)
  have hcl' : h_cl h' (v'.toList ++ st) := fun w hw => by
    rcases List.mem_append.mp hw with z | z
    · exact q7 w (by cases v' with | none => cases z | some x => simp at z; rw [z])
    · exact h_cv_mono (fun k hk => (q5 k hk).1) (hcl w z)
  have K := j_ext (l := l) (e := e) (below := below) (kk v' h' q2) hC hW' (fun k hk => (q5 k hk).1) (fun k hk => (q5 k hk).2) hll hcl' hl
  rw [List.map_append, h_map_ext (fun k hk => (q5 k hk).2) hcl] at K
  obtain ⟨t2, a1, b1⟩ := K T' e1 X'
  refine ⟨t2, go t2 ?_, b1⟩
  have hv : (v'.map (h_rv α')).toList = v'.toList.map (h_rv α') := by cases v' <;> rfl
  rw [hv]
  exact a1
theorem h_cats (α : Nat → Nat) (st : List Value) (hW8 : (st.map fun v => v.category).sum ≤ 8) {m : MethodId} {pc : Nat} {lsA : Array Slot} {x : List Value} : 2 * (F0 m pc lsA x).monitorRoom + ((st.map (h_rv α)).map fun v => v.category).sum ≤ 8 := by
  have hcat : (st.map (h_rv α)).map (fun v => v.category) = st.map (fun v => v.category) := by rw [List.map_map]; exact List.map_congr_left fun v _ => h_rv_cat α v
  rw [hcat]
  show 2 * 0 + _ ≤ 8
  omega
theorem h_code {M' : hM} {n : Nat} (I : h_MI M' n) : GoodIn hw_tbl (h_ws M') := fun w hw => by
  rcases List.mem_cons.mp hw with q | q
  · rw [q]; exact ⟨h_in I.1 rfl, good_of_word rfl⟩
  · exact h_good w q
/-- what the tables say of a call -/
def h_LV (own : String) (idx : Nat) (y : MethodName) : Prop := Cond.methodLink own idx y ∈ lw_tbl ∧ Cond.instanceMethod y ∈ lw_tbl ∧ Cond.selects y.cls y y ∈ lw_tbl ∧ Cond.initialized y.cls ∈ lw_tbl
def h_LS (own : String) (idx : Nat) (y : MethodName) : Prop := Cond.methodLink own idx y ∈ lw_tbl ∧ Cond.static y ∈ lw_tbl ∧ Cond.initialized y.cls ∈ lw_tbl
def h_LI (own : String) (idx : Nat) (y : MethodName) : Prop := Cond.methodLink own idx y ∈ lw_tbl ∧ Cond.instanceMethod y ∈ lw_tbl ∧ Cond.initialized y.cls ∈ lw_tbl ∧ y.name = "<init>"
def h_LSN (own : String) (idx : Nat) (y : MethodName) (host : String) : Prop := (own, idx, y, host) ∈ h_nest ∧ Cond.static y ∈ lw_tbl ∧ Cond.initialized y.cls ∈ lw_tbl
def h_LIN (own : String) (idx : Nat) (y : MethodName) (host : String) : Prop := (own, idx, y, host) ∈ h_nest ∧ Cond.instanceMethod y ∈ lw_tbl ∧ Cond.initialized y.cls ∈ lw_tbl ∧ y.name = "<init>"
/-- the room of a call -/
def h_rm (R R' : Room) (n cells slots : Nat) : Prop := (R'.frames + 1 ≤ R.frames ∧ 8 + (n + 11) + R'.locals ≤ R.locals) ∧ cells + R'.cells ≤ R.cells ∧ slots + R'.slots ≤ R.slots
theorem j_callV {idx ci key n : Nat} {M' : hM} {R' : Room} {As : List Value} {Q' : Option Value → hH → Prop} {fs : List Value} (hd : fnd (h_tab M) pc = some (.invokevirtual idx, 3)) (hp : pc + 3 = pc') (I : h_MI M' n) (L : h_LV (h_own M) idx (h_y M')) (hk : h key = some (.inr (ci, fs))) (hci : (vwCl[ci]?).map (fun q => q.1) = some (h_y M').cls) (hn : As.length = n) (rm : h_rm R R' (h_nL M') cells slots) (hW8 : (st.map fun v => v.category).sum ≤ 8) (S : Sp M' R' (.ref key :: As) h Q')
    (kk : ∀ (v : Option Value) (h' : hH), Q' v h' → J M R Q (cells + R'.cells) (slots + R'.slots) h' pc' ls (v.toList ++ st)) : J M R Q cells slots h pc ls (As.reverse ++ .ref key :: st) := by
  subst hp
  intro p l e s m args below meth c H locs D α α0 h0 lsA hC hW hll hcl hl
  have hts := hC.2.2.2.2.1
  have hst : h_cl h st := fun w hw => hcl w (List.mem_append_right _ (List.mem_cons_of_mem _ hw))
  have hav : h_cl h (.ref key :: As) := fun w hw => by
    rcases List.mem_cons.mp hw with q | q
    · rw [q]; exact hcl _ (List.mem_append_right _ List.mem_cons_self)
    · exact hcl w (List.mem_append_left _ (List.mem_reverse.mpr q))
  obtain ⟨r, hr0, cell, g1, g2, g3, -⟩ := hW.1 key _ hk
  have hrc : r.1 = (h_y M').cls := by rw [hr0] at hci; exact Option.some.inj hci
  have hK := hC.2.2.2.2.2.2.2.2.1
  have cw : CallW R s args (h_own M) (h_y M').cls idx (h_y M') (h_cc M') (h_nL M') (h_ret M') (h_ws M') R' R'.cells R'.slots n := ⟨callB_of n hts (h_code I) rfl rfl rfl (hts _ (h_in L.2.2.2 rfl)) (hts _ (h_in L.1 rfl)) I.2.2.2.1 rm.1, hts _ (h_in L.2.1 rfl), hts _ (h_in L.2.2.1 rfl)⟩
  refine j_back (R' := R') hC hW hll hst hl (va_runV (As := As.map (h_rv α)) (b := α key) (rest := st.map (h_rv α)) (Ts := hw_tbl) ⟨hC.1, hC.2.1, hC.2.2.1, hC.2.2.2.1, hts⟩ (S l D α H.size) cw ⟨h_blind, ⟨cell, g1, by rw [g3]; rfl, by rw [g2, ← hrc]; exact (hK.1.1 ci r hr0).2.1⟩, fun U hU hWU => ⟨rfl, by rw [hU], hK.warm hWU, by rw [hU]; exact hW.1, ⟨hW.2.1.1, fun _ _ _ => trivial⟩, hW.2.2.2.2, hav⟩⟩ rfl (by rw [List.length_map]; exact hn) hl.1 ?_ (h_cats α st hW8) (h_dec hC hd) rm.2) kk
  show (As.reverse ++ .ref key :: st).map (h_rv α) = _
  rw [List.map_append, List.map_reverse]
  rfl
theorem j_callS {idx n : Nat} {M' : hM} {R' : Room} {As : List Value} {Q' : Option Value → hH → Prop} (hd : fnd (h_tab M) pc = some (.invokestatic idx, 3)) (hp : pc + 3 = pc') (I : h_MI M' n) (L : h_LS (h_own M) idx (h_y M')) (hn : As.length = n) (rm : h_rm R R' (h_nL M') cells slots) (hW8 : (st.map fun v => v.category).sum ≤ 8) (S : Sp M' R' As h Q')
    (kk : ∀ (v : Option Value) (h' : hH), Q' v h' → J M R Q (cells + R'.cells) (slots + R'.slots) h' pc' ls (v.toList ++ st)) : J M R Q cells slots h pc ls (As.reverse ++ st) := by
  subst hp
  intro p l e s m args below meth c H locs D α α0 h0 lsA hC hW hll hcl hl
  have hts := hC.2.2.2.2.1
  have hst : h_cl h st := fun w hw => hcl w (List.mem_append_right _ hw)
  have hav : h_cl h As := fun w hw => hcl w (List.mem_append_left _ (List.mem_reverse.mpr hw))
  have hK := hC.2.2.2.2.2.2.2.2.1
  have cw : CallB R s args (h_own M) idx (h_y M') (h_cc M') (h_nL M') (h_ret M') (h_ws M') R' R'.cells R'.slots n ∧ (Cond.static (h_y M')).before args s = true := ⟨callB_of n hts (h_code I) rfl rfl rfl (hts _ (h_in L.2.2 rfl)) (hts _ (h_in L.1 rfl)) I.2.2.2.1 rm.1, hts _ (h_in L.2.1 rfl)⟩
  refine j_back (R' := R') hC hW hll hst hl (va_runS (As := As.map (h_rv α)) (rest := st.map (h_rv α)) (Ts := hw_tbl) ⟨hC.1, hC.2.1, hC.2.2.1, hC.2.2.2.1, hts⟩ (S l D α H.size) cw ⟨h_blind, fun U hU hWU => ⟨rfl, by rw [hU], hK.warm hWU, by rw [hU]; exact hW.1, ⟨hW.2.1.1, fun _ _ _ => trivial⟩, hW.2.2.2.2, hav⟩⟩ rfl (by rw [List.length_map]; exact hn) hl.1 ?_ (h_cats α st hW8) (h_dec hC hd) rm.2) kk
  show (As.reverse ++ st).map (h_rv α) = _
  rw [List.map_append, List.map_reverse]
theorem j_callSN {idx n : Nat} {host : String} {M' : hM} {R' : Room} {As : List Value} {Q' : Option Value → hH → Prop} (hd : fnd (h_tab M) pc = some (.invokestatic idx, 3)) (hp : pc + 3 = pc') (I : h_MI M' n) (L : h_LSN (h_own M) idx (h_y M') host) (hn : As.length = n) (rm : h_rm R R' (h_nL M') cells slots) (hW8 : (st.map fun v => v.category).sum ≤ 8) (S : Sp M' R' As h Q')
    (kk : ∀ (v : Option Value) (h' : hH), Q' v h' → J M R Q (cells + R'.cells) (slots + R'.slots) h' pc' ls (v.toList ++ st)) : J M R Q cells slots h pc ls (As.reverse ++ st) := by
  subst hp
  intro p l e s m args below meth c H locs D α α0 h0 lsA hC hW hll hcl hl
  have hts := hC.2.2.2.2.1
  have hst : h_cl h st := fun w hw => hcl w (List.mem_append_right _ hw)
  have hav : h_cl h As := fun w hw => hcl w (List.mem_append_left _ (List.mem_reverse.mpr hw))
  have hK := hC.2.2.2.2.2.2.2.2.1
  have cw : va_CN R s args (h_own M) idx (h_y M') host (h_cc M') (h_nL M') (h_ret M') (h_ws M') R' R'.cells R'.slots n ∧ (Cond.static (h_y M')).before args s = true ∧ True := ⟨va_cnB n hts (h_code I) rfl rfl rfl (hK.2.1 _ L.1) (hts _ (h_in L.2.2 rfl)) I.2.2.2.1 rm.1, hts _ (h_in L.2.1 rfl), trivial⟩
  refine j_back (R' := R') hC hW hll hst hl (va_runSN (As := As.map (h_rv α)) (rest := st.map (h_rv α)) (Ts := hw_tbl) ⟨hC.1, hC.2.1, hC.2.2.1, hC.2.2.2.1, hts⟩ (S l D α H.size) cw ⟨h_blind, fun U hU hWU => ⟨rfl, by rw [hU], hK.warm hWU, by rw [hU]; exact hW.1, ⟨hW.2.1.1, fun _ _ _ => trivial⟩, hW.2.2.2.2, hav⟩⟩ rfl (by rw [List.length_map]; exact hn) hl.1 ?_ (h_cats α st hW8) (h_dec hC hd) rm.2) kk
  show (As.reverse ++ st).map (h_rv α) = _
  rw [List.map_append, List.map_reverse]
theorem j_callI {idx key n : Nat} {M' : hM} {R' : Room} {As : List Value} {Q' : Option Value → hH → Prop} (hd : fnd (h_tab M) pc = some (.invokespecial idx, 3)) (hp : pc + 3 = pc') (I : h_MI M' n) (hret : h_ret M' = none) (L : h_LI (h_own M) idx (h_y M')) (hn : As.length = n) (rm : h_rm R R' (h_nL M') cells slots) (hW8 : (st.map fun v => v.category).sum ≤ 8) (S : Sp M' R' (.ref key :: As) h Q')
    (kk : ∀ (v : Option Value) (h' : hH), Q' v h' → J M R Q (cells + R'.cells) (slots + R'.slots) h' pc' ls (v.toList ++ st)) : J M R Q cells slots h pc ls (As.reverse ++ .ref key :: st) := by
  subst hp
  intro p l e s m args below meth c H locs D α α0 h0 lsA hC hW hll hcl hl
  have hts := hC.2.2.2.2.1
  have hst : h_cl h st := fun w hw => hcl w (List.mem_append_right _ (List.mem_cons_of_mem _ hw))
  have hav : h_cl h (.ref key :: As) := fun w hw => by
    rcases List.mem_cons.mp hw with q | q
    · rw [q]; exact hcl _ (List.mem_append_right _ List.mem_cons_self)
    · exact hcl w (List.mem_append_left _ (List.mem_reverse.mpr q))
  have hK := hC.2.2.2.2.2.2.2.2.1
  have cw : CallB R s args (h_own M) idx (h_y M') (h_cc M') (h_nL M') none (h_ws M') R' R'.cells R'.slots n ∧ (h_y M').name = "<init>" ∧ (Cond.instanceMethod (h_y M')).before args s = true := ⟨callB_of n hts (h_code I) (by unfold h_ws; rw [hret]) rfl rfl (hts _ (h_in L.2.2.1 rfl)) (hts _ (h_in L.1 rfl)) I.2.2.2.1 rm.1, L.2.2.2, hts _ (h_in L.2.1 rfl)⟩
  refine j_back (R' := R') hC hW hll hst hl (va_runI (As := As.map (h_rv α)) (b := α key) (rest := st.map (h_rv α)) (Ts := hw_tbl) ⟨hC.1, hC.2.1, hC.2.2.1, hC.2.2.2.1, hts⟩ (S l D α H.size) cw ⟨h_blind, fun U hU hWU => ⟨rfl, by rw [hU], hK.warm hWU, by rw [hU]; exact hW.1, ⟨hW.2.1.1, fun _ _ _ => trivial⟩, hW.2.2.2.2, hav⟩⟩ rfl (by rw [List.length_map]; exact hn) hl.1 ?_ (h_cats α st hW8) (h_dec hC hd) rm.2) kk
  show (As.reverse ++ .ref key :: st).map (h_rv α) = _
  rw [List.map_append, List.map_reverse]
  rfl
theorem j_callIN {idx key n : Nat} {host : String} {M' : hM} {R' : Room} {As : List Value} {Q' : Option Value → hH → Prop} (hd : fnd (h_tab M) pc = some (.invokespecial idx, 3)) (hp : pc + 3 = pc') (I : h_MI M' n) (hret : h_ret M' = none) (L : h_LIN (h_own M) idx (h_y M') host) (hn : As.length = n) (rm : h_rm R R' (h_nL M') cells slots) (hW8 : (st.map fun v => v.category).sum ≤ 8) (S : Sp M' R' (.ref key :: As) h Q')
    (kk : ∀ (v : Option Value) (h' : hH), Q' v h' → J M R Q (cells + R'.cells) (slots + R'.slots) h' pc' ls (v.toList ++ st)) : J M R Q cells slots h pc ls (As.reverse ++ .ref key :: st) := by
  subst hp
  intro p l e s m args below meth c H locs D α α0 h0 lsA hC hW hll hcl hl
  have hts := hC.2.2.2.2.1
  have hst : h_cl h st := fun w hw => hcl w (List.mem_append_right _ (List.mem_cons_of_mem _ hw))
  have hav : h_cl h (.ref key :: As) := fun w hw => by
    rcases List.mem_cons.mp hw with q | q
    · rw [q]; exact hcl _ (List.mem_append_right _ List.mem_cons_self)
    · exact hcl w (List.mem_append_left _ (List.mem_reverse.mpr q))
  have hK := hC.2.2.2.2.2.2.2.2.1
  have cw : va_CN R s args (h_own M) idx (h_y M') host (h_cc M') (h_nL M') none (h_ws M') R' R'.cells R'.slots n ∧ (h_y M').name = "<init>" ∧ (Cond.instanceMethod (h_y M')).before args s = true := ⟨va_cnB n hts (h_code I) (by unfold h_ws; rw [hret]) rfl rfl (hK.2.1 _ L.1) (hts _ (h_in L.2.2.1 rfl)) I.2.2.2.1 rm.1, L.2.2.2, hts _ (h_in L.2.1 rfl)⟩
  refine j_back (R' := R') hC hW hll hst hl (va_runIN (As := As.map (h_rv α)) (b := α key) (rest := st.map (h_rv α)) (Ts := hw_tbl) ⟨hC.1, hC.2.1, hC.2.2.1, hC.2.2.2.1, hts⟩ (S l D α H.size) cw ⟨h_blind, fun U hU hWU => ⟨rfl, by rw [hU], hK.warm hWU, by rw [hU]; exact hW.1, ⟨hW.2.1.1, fun _ _ _ => trivial⟩, hW.2.2.2.2, hav⟩⟩ rfl (by rw [List.length_map]; exact hn) hl.1 ?_ (h_cats α st hW8) (h_dec hC hd) rm.2) kk
  show (As.reverse ++ .ref key :: st).map (h_rv α) = _
  rw [List.map_append, List.map_reverse]
  rfl
/-- a contract that says the answer and the heap behind -/
abbrev SpD (M : hM) (R : Room) (av : List Value) (h : hH) (r : Option Value) (h2 : hH) : Prop := Sp M R av h (fun v h' => v = r ∧ h' = h2)
theorem j_v0 {idx ci key : Nat} {M' : hM} {R' : Room} {fs : List Value} {r : Option Value} {h2 : hH} (hd : fnd (h_tab M) pc = some (.invokevirtual idx, 3)) (hp : pc + 3 = pc') (I : h_MI M' 0) (L : h_LV (h_own M) idx (h_y M')) (hk : h key = some (.inr (ci, fs))) (hci : (vwCl[ci]?).map (fun q => q.1) = some (h_y M').cls) (S : SpD M' R' (.ref key :: []) h r h2) (rm : h_rm R R' (h_nL M') cells slots) (hW8 : (st.map fun v => v.category).sum ≤ 8) (kk : J M R Q (cells + R'.cells) (slots + R'.slots) h2 pc' ls (r.toList ++ st)) : J M R Q cells slots h pc ls (.ref key :: st) :=
  j_callV (As := []) hd hp I L hk hci rfl rm hW8 S (fun v h' q => by obtain ⟨q1, q2⟩ := q; rw [q1, q2]; exact kk)
theorem j_s0 {idx : Nat} {M' : hM} {R' : Room} {r : Option Value} {h2 : hH} (hd : fnd (h_tab M) pc = some (.invokestatic idx, 3)) (hp : pc + 3 = pc') (I : h_MI M' 0) (L : h_LS (h_own M) idx (h_y M')) (S : SpD M' R' [] h r h2) (rm : h_rm R R' (h_nL M') cells slots) (hW8 : (st.map fun v => v.category).sum ≤ 8) (kk : J M R Q (cells + R'.cells) (slots + R'.slots) h2 pc' ls (r.toList ++ st)) : J M R Q cells slots h pc ls (st) :=
  j_callS (As := []) hd hp I L rfl rm hW8 S (fun v h' q => by obtain ⟨q1, q2⟩ := q; rw [q1, q2]; exact kk)
theorem j_i0 {idx key : Nat} {M' : hM} {R' : Room} {h2 : hH} (hd : fnd (h_tab M) pc = some (.invokespecial idx, 3)) (hp : pc + 3 = pc') (I : h_MI M' 0) (hret : h_ret M' = none) (L : h_LI (h_own M) idx (h_y M')) (S : SpD M' R' (.ref key :: []) h none h2) (rm : h_rm R R' (h_nL M') cells slots) (hW8 : (st.map fun v => v.category).sum ≤ 8) (kk : J M R Q (cells + R'.cells) (slots + R'.slots) h2 pc' ls st) : J M R Q cells slots h pc ls (.ref key :: st) :=
  j_callI (As := []) hd hp I hret L rfl rm hW8 S (fun v h' q => by obtain ⟨q1, q2⟩ := q; rw [q1, q2]; exact kk)
theorem j_in0 {idx key : Nat} {host : String} {M' : hM} {R' : Room} {h2 : hH} (hd : fnd (h_tab M) pc = some (.invokespecial idx, 3)) (hp : pc + 3 = pc') (I : h_MI M' 0) (hret : h_ret M' = none) (L : h_LIN (h_own M) idx (h_y M') host) (S : SpD M' R' (.ref key :: []) h none h2) (rm : h_rm R R' (h_nL M') cells slots) (hW8 : (st.map fun v => v.category).sum ≤ 8) (kk : J M R Q (cells + R'.cells) (slots + R'.slots) h2 pc' ls st) : J M R Q cells slots h pc ls (.ref key :: st) :=
  j_callIN (As := []) hd hp I hret L rfl rm hW8 S (fun v h' q => by obtain ⟨q1, q2⟩ := q; rw [q1, q2]; exact kk)
theorem j_v1 {idx ci key : Nat} {M' : hM} {R' : Room} {a0 : Value} {fs : List Value} {r : Option Value} {h2 : hH} (hd : fnd (h_tab M) pc = some (.invokevirtual idx, 3)) (hp : pc + 3 = pc') (I : h_MI M' 1) (L : h_LV (h_own M) idx (h_y M')) (hk : h key = some (.inr (ci, fs))) (hci : (vwCl[ci]?).map (fun q => q.1) = some (h_y M').cls) (S : SpD M' R' (.ref key :: [a0]) h r h2) (rm : h_rm R R' (h_nL M') cells slots) (hW8 : (st.map fun v => v.category).sum ≤ 8) (kk : J M R Q (cells + R'.cells) (slots + R'.slots) h2 pc' ls (r.toList ++ st)) : J M R Q cells slots h pc ls (a0 :: .ref key :: st) :=
  j_callV (As := [a0]) hd hp I L hk hci rfl rm hW8 S (fun v h' q => by obtain ⟨q1, q2⟩ := q; rw [q1, q2]; exact kk)
theorem j_s1 {idx : Nat} {M' : hM} {R' : Room} {a0 : Value} {r : Option Value} {h2 : hH} (hd : fnd (h_tab M) pc = some (.invokestatic idx, 3)) (hp : pc + 3 = pc') (I : h_MI M' 1) (L : h_LS (h_own M) idx (h_y M')) (S : SpD M' R' [a0] h r h2) (rm : h_rm R R' (h_nL M') cells slots) (hW8 : (st.map fun v => v.category).sum ≤ 8) (kk : J M R Q (cells + R'.cells) (slots + R'.slots) h2 pc' ls (r.toList ++ st)) : J M R Q cells slots h pc ls (a0 :: st) :=
  j_callS (As := [a0]) hd hp I L rfl rm hW8 S (fun v h' q => by obtain ⟨q1, q2⟩ := q; rw [q1, q2]; exact kk)
theorem j_sn1 {idx : Nat} {host : String} {M' : hM} {R' : Room} {a0 : Value} {r : Option Value} {h2 : hH} (hd : fnd (h_tab M) pc = some (.invokestatic idx, 3)) (hp : pc + 3 = pc') (I : h_MI M' 1) (L : h_LSN (h_own M) idx (h_y M') host) (S : SpD M' R' [a0] h r h2) (rm : h_rm R R' (h_nL M') cells slots) (hW8 : (st.map fun v => v.category).sum ≤ 8) (kk : J M R Q (cells + R'.cells) (slots + R'.slots) h2 pc' ls (r.toList ++ st)) : J M R Q cells slots h pc ls (a0 :: st) :=
  j_callSN (As := [a0]) hd hp I L rfl rm hW8 S (fun v h' q => by obtain ⟨q1, q2⟩ := q; rw [q1, q2]; exact kk)
theorem j_i1 {idx key : Nat} {M' : hM} {R' : Room} {a0 : Value} {h2 : hH} (hd : fnd (h_tab M) pc = some (.invokespecial idx, 3)) (hp : pc + 3 = pc') (I : h_MI M' 1) (hret : h_ret M' = none) (L : h_LI (h_own M) idx (h_y M')) (S : SpD M' R' (.ref key :: [a0]) h none h2) (rm : h_rm R R' (h_nL M') cells slots) (hW8 : (st.map fun v => v.category).sum ≤ 8) (kk : J M R Q (cells + R'.cells) (slots + R'.slots) h2 pc' ls st) : J M R Q cells slots h pc ls (a0 :: .ref key :: st) :=
  j_callI (As := [a0]) hd hp I hret L rfl rm hW8 S (fun v h' q => by obtain ⟨q1, q2⟩ := q; rw [q1, q2]; exact kk)
theorem j_v2 {idx ci key : Nat} {M' : hM} {R' : Room} {a0 a1 : Value} {fs : List Value} {r : Option Value} {h2 : hH} (hd : fnd (h_tab M) pc = some (.invokevirtual idx, 3)) (hp : pc + 3 = pc') (I : h_MI M' 2) (L : h_LV (h_own M) idx (h_y M')) (hk : h key = some (.inr (ci, fs))) (hci : (vwCl[ci]?).map (fun q => q.1) = some (h_y M').cls) (S : SpD M' R' (.ref key :: [a0, a1]) h r h2) (rm : h_rm R R' (h_nL M') cells slots) (hW8 : (st.map fun v => v.category).sum ≤ 8) (kk : J M R Q (cells + R'.cells) (slots + R'.slots) h2 pc' ls (r.toList ++ st)) : J M R Q cells slots h pc ls (a1 :: a0 :: .ref key :: st) :=
  j_callV (As := [a0, a1]) hd hp I L hk hci rfl rm hW8 S (fun v h' q => by obtain ⟨q1, q2⟩ := q; rw [q1, q2]; exact kk)
theorem j_s2 {idx : Nat} {M' : hM} {R' : Room} {a0 a1 : Value} {r : Option Value} {h2 : hH} (hd : fnd (h_tab M) pc = some (.invokestatic idx, 3)) (hp : pc + 3 = pc') (I : h_MI M' 2) (L : h_LS (h_own M) idx (h_y M')) (S : SpD M' R' [a0, a1] h r h2) (rm : h_rm R R' (h_nL M') cells slots) (hW8 : (st.map fun v => v.category).sum ≤ 8) (kk : J M R Q (cells + R'.cells) (slots + R'.slots) h2 pc' ls (r.toList ++ st)) : J M R Q cells slots h pc ls (a1 :: a0 :: st) :=
  j_callS (As := [a0, a1]) hd hp I L rfl rm hW8 S (fun v h' q => by obtain ⟨q1, q2⟩ := q; rw [q1, q2]; exact kk)
theorem j_i2 {idx key : Nat} {M' : hM} {R' : Room} {a0 a1 : Value} {h2 : hH} (hd : fnd (h_tab M) pc = some (.invokespecial idx, 3)) (hp : pc + 3 = pc') (I : h_MI M' 2) (hret : h_ret M' = none) (L : h_LI (h_own M) idx (h_y M')) (S : SpD M' R' (.ref key :: [a0, a1]) h none h2) (rm : h_rm R R' (h_nL M') cells slots) (hW8 : (st.map fun v => v.category).sum ≤ 8) (kk : J M R Q (cells + R'.cells) (slots + R'.slots) h2 pc' ls st) : J M R Q cells slots h pc ls (a1 :: a0 :: .ref key :: st) :=
  j_callI (As := [a0, a1]) hd hp I hret L rfl rm hW8 S (fun v h' q => by obtain ⟨q1, q2⟩ := q; rw [q1, q2]; exact kk)
theorem j_v3 {idx ci key : Nat} {M' : hM} {R' : Room} {a0 a1 a2 : Value} {fs : List Value} {r : Option Value} {h2 : hH} (hd : fnd (h_tab M) pc = some (.invokevirtual idx, 3)) (hp : pc + 3 = pc') (I : h_MI M' 3) (L : h_LV (h_own M) idx (h_y M')) (hk : h key = some (.inr (ci, fs))) (hci : (vwCl[ci]?).map (fun q => q.1) = some (h_y M').cls) (S : SpD M' R' (.ref key :: [a0, a1, a2]) h r h2) (rm : h_rm R R' (h_nL M') cells slots) (hW8 : (st.map fun v => v.category).sum ≤ 8) (kk : J M R Q (cells + R'.cells) (slots + R'.slots) h2 pc' ls (r.toList ++ st)) : J M R Q cells slots h pc ls (a2 :: a1 :: a0 :: .ref key :: st) :=
  j_callV (As := [a0, a1, a2]) hd hp I L hk hci rfl rm hW8 S (fun v h' q => by obtain ⟨q1, q2⟩ := q; rw [q1, q2]; exact kk)
theorem j_s3 {idx : Nat} {M' : hM} {R' : Room} {a0 a1 a2 : Value} {r : Option Value} {h2 : hH} (hd : fnd (h_tab M) pc = some (.invokestatic idx, 3)) (hp : pc + 3 = pc') (I : h_MI M' 3) (L : h_LS (h_own M) idx (h_y M')) (S : SpD M' R' [a0, a1, a2] h r h2) (rm : h_rm R R' (h_nL M') cells slots) (hW8 : (st.map fun v => v.category).sum ≤ 8) (kk : J M R Q (cells + R'.cells) (slots + R'.slots) h2 pc' ls (r.toList ++ st)) : J M R Q cells slots h pc ls (a2 :: a1 :: a0 :: st) :=
  j_callS (As := [a0, a1, a2]) hd hp I L rfl rm hW8 S (fun v h' q => by obtain ⟨q1, q2⟩ := q; rw [q1, q2]; exact kk)
theorem j_sn3 {idx : Nat} {host : String} {M' : hM} {R' : Room} {a0 a1 a2 : Value} {r : Option Value} {h2 : hH} (hd : fnd (h_tab M) pc = some (.invokestatic idx, 3)) (hp : pc + 3 = pc') (I : h_MI M' 3) (L : h_LSN (h_own M) idx (h_y M') host) (S : SpD M' R' [a0, a1, a2] h r h2) (rm : h_rm R R' (h_nL M') cells slots) (hW8 : (st.map fun v => v.category).sum ≤ 8) (kk : J M R Q (cells + R'.cells) (slots + R'.slots) h2 pc' ls (r.toList ++ st)) : J M R Q cells slots h pc ls (a2 :: a1 :: a0 :: st) :=
  j_callSN (As := [a0, a1, a2]) hd hp I L rfl rm hW8 S (fun v h' q => by obtain ⟨q1, q2⟩ := q; rw [q1, q2]; exact kk)
theorem j_i3 {idx key : Nat} {M' : hM} {R' : Room} {a0 a1 a2 : Value} {h2 : hH} (hd : fnd (h_tab M) pc = some (.invokespecial idx, 3)) (hp : pc + 3 = pc') (I : h_MI M' 3) (hret : h_ret M' = none) (L : h_LI (h_own M) idx (h_y M')) (S : SpD M' R' (.ref key :: [a0, a1, a2]) h none h2) (rm : h_rm R R' (h_nL M') cells slots) (hW8 : (st.map fun v => v.category).sum ≤ 8) (kk : J M R Q (cells + R'.cells) (slots + R'.slots) h2 pc' ls st) : J M R Q cells slots h pc ls (a2 :: a1 :: a0 :: .ref key :: st) :=
  j_callI (As := [a0, a1, a2]) hd hp I hret L rfl rm hW8 S (fun v h' q => by obtain ⟨q1, q2⟩ := q; rw [q1, q2]; exact kk)
theorem j_v4 {idx ci key : Nat} {M' : hM} {R' : Room} {a0 a1 a2 a3 : Value} {fs : List Value} {r : Option Value} {h2 : hH} (hd : fnd (h_tab M) pc = some (.invokevirtual idx, 3)) (hp : pc + 3 = pc') (I : h_MI M' 4) (L : h_LV (h_own M) idx (h_y M')) (hk : h key = some (.inr (ci, fs))) (hci : (vwCl[ci]?).map (fun q => q.1) = some (h_y M').cls) (S : SpD M' R' (.ref key :: [a0, a1, a2, a3]) h r h2) (rm : h_rm R R' (h_nL M') cells slots) (hW8 : (st.map fun v => v.category).sum ≤ 8) (kk : J M R Q (cells + R'.cells) (slots + R'.slots) h2 pc' ls (r.toList ++ st)) : J M R Q cells slots h pc ls (a3 :: a2 :: a1 :: a0 :: .ref key :: st) :=
  j_callV (As := [a0, a1, a2, a3]) hd hp I L hk hci rfl rm hW8 S (fun v h' q => by obtain ⟨q1, q2⟩ := q; rw [q1, q2]; exact kk)
theorem j_s4 {idx : Nat} {M' : hM} {R' : Room} {a0 a1 a2 a3 : Value} {r : Option Value} {h2 : hH} (hd : fnd (h_tab M) pc = some (.invokestatic idx, 3)) (hp : pc + 3 = pc') (I : h_MI M' 4) (L : h_LS (h_own M) idx (h_y M')) (S : SpD M' R' [a0, a1, a2, a3] h r h2) (rm : h_rm R R' (h_nL M') cells slots) (hW8 : (st.map fun v => v.category).sum ≤ 8) (kk : J M R Q (cells + R'.cells) (slots + R'.slots) h2 pc' ls (r.toList ++ st)) : J M R Q cells slots h pc ls (a3 :: a2 :: a1 :: a0 :: st) :=
  j_callS (As := [a0, a1, a2, a3]) hd hp I L rfl rm hW8 S (fun v h' q => by obtain ⟨q1, q2⟩ := q; rw [q1, q2]; exact kk)
theorem j_i4 {idx key : Nat} {M' : hM} {R' : Room} {a0 a1 a2 a3 : Value} {h2 : hH} (hd : fnd (h_tab M) pc = some (.invokespecial idx, 3)) (hp : pc + 3 = pc') (I : h_MI M' 4) (hret : h_ret M' = none) (L : h_LI (h_own M) idx (h_y M')) (S : SpD M' R' (.ref key :: [a0, a1, a2, a3]) h none h2) (rm : h_rm R R' (h_nL M') cells slots) (hW8 : (st.map fun v => v.category).sum ≤ 8) (kk : J M R Q (cells + R'.cells) (slots + R'.slots) h2 pc' ls st) : J M R Q cells slots h pc ls (a3 :: a2 :: a1 :: a0 :: .ref key :: st) :=
  j_callI (As := [a0, a1, a2, a3]) hd hp I hret L rfl rm hW8 S (fun v h' q => by obtain ⟨q1, q2⟩ := q; rw [q1, q2]; exact kk)
theorem j_v5 {idx ci key : Nat} {M' : hM} {R' : Room} {a0 a1 a2 a3 a4 : Value} {fs : List Value} {r : Option Value} {h2 : hH} (hd : fnd (h_tab M) pc = some (.invokevirtual idx, 3)) (hp : pc + 3 = pc') (I : h_MI M' 5) (L : h_LV (h_own M) idx (h_y M')) (hk : h key = some (.inr (ci, fs))) (hci : (vwCl[ci]?).map (fun q => q.1) = some (h_y M').cls) (S : SpD M' R' (.ref key :: [a0, a1, a2, a3, a4]) h r h2) (rm : h_rm R R' (h_nL M') cells slots) (hW8 : (st.map fun v => v.category).sum ≤ 8) (kk : J M R Q (cells + R'.cells) (slots + R'.slots) h2 pc' ls (r.toList ++ st)) : J M R Q cells slots h pc ls (a4 :: a3 :: a2 :: a1 :: a0 :: .ref key :: st) :=
  j_callV (As := [a0, a1, a2, a3, a4]) hd hp I L hk hci rfl rm hW8 S (fun v h' q => by obtain ⟨q1, q2⟩ := q; rw [q1, q2]; exact kk)
theorem j_s5 {idx : Nat} {M' : hM} {R' : Room} {a0 a1 a2 a3 a4 : Value} {r : Option Value} {h2 : hH} (hd : fnd (h_tab M) pc = some (.invokestatic idx, 3)) (hp : pc + 3 = pc') (I : h_MI M' 5) (L : h_LS (h_own M) idx (h_y M')) (S : SpD M' R' [a0, a1, a2, a3, a4] h r h2) (rm : h_rm R R' (h_nL M') cells slots) (hW8 : (st.map fun v => v.category).sum ≤ 8) (kk : J M R Q (cells + R'.cells) (slots + R'.slots) h2 pc' ls (r.toList ++ st)) : J M R Q cells slots h pc ls (a4 :: a3 :: a2 :: a1 :: a0 :: st) :=
  j_callS (As := [a0, a1, a2, a3, a4]) hd hp I L rfl rm hW8 S (fun v h' q => by obtain ⟨q1, q2⟩ := q; rw [q1, q2]; exact kk)
theorem j_i5 {idx key : Nat} {M' : hM} {R' : Room} {a0 a1 a2 a3 a4 : Value} {h2 : hH} (hd : fnd (h_tab M) pc = some (.invokespecial idx, 3)) (hp : pc + 3 = pc') (I : h_MI M' 5) (hret : h_ret M' = none) (L : h_LI (h_own M) idx (h_y M')) (S : SpD M' R' (.ref key :: [a0, a1, a2, a3, a4]) h none h2) (rm : h_rm R R' (h_nL M') cells slots) (hW8 : (st.map fun v => v.category).sum ≤ 8) (kk : J M R Q (cells + R'.cells) (slots + R'.slots) h2 pc' ls st) : J M R Q cells slots h pc ls (a4 :: a3 :: a2 :: a1 :: a0 :: .ref key :: st) :=
  j_callI (As := [a0, a1, a2, a3, a4]) hd hp I hret L rfl rm hW8 S (fun v h' q => by obtain ⟨q1, q2⟩ := q; rw [q1, q2]; exact kk)
theorem j_v6 {idx ci key : Nat} {M' : hM} {R' : Room} {a0 a1 a2 a3 a4 a5 : Value} {fs : List Value} {r : Option Value} {h2 : hH} (hd : fnd (h_tab M) pc = some (.invokevirtual idx, 3)) (hp : pc + 3 = pc') (I : h_MI M' 6) (L : h_LV (h_own M) idx (h_y M')) (hk : h key = some (.inr (ci, fs))) (hci : (vwCl[ci]?).map (fun q => q.1) = some (h_y M').cls) (S : SpD M' R' (.ref key :: [a0, a1, a2, a3, a4, a5]) h r h2) (rm : h_rm R R' (h_nL M') cells slots) (hW8 : (st.map fun v => v.category).sum ≤ 8) (kk : J M R Q (cells + R'.cells) (slots + R'.slots) h2 pc' ls (r.toList ++ st)) : J M R Q cells slots h pc ls (a5 :: a4 :: a3 :: a2 :: a1 :: a0 :: .ref key :: st) :=
  j_callV (As := [a0, a1, a2, a3, a4, a5]) hd hp I L hk hci rfl rm hW8 S (fun v h' q => by obtain ⟨q1, q2⟩ := q; rw [q1, q2]; exact kk)
theorem j_s6 {idx : Nat} {M' : hM} {R' : Room} {a0 a1 a2 a3 a4 a5 : Value} {r : Option Value} {h2 : hH} (hd : fnd (h_tab M) pc = some (.invokestatic idx, 3)) (hp : pc + 3 = pc') (I : h_MI M' 6) (L : h_LS (h_own M) idx (h_y M')) (S : SpD M' R' [a0, a1, a2, a3, a4, a5] h r h2) (rm : h_rm R R' (h_nL M') cells slots) (hW8 : (st.map fun v => v.category).sum ≤ 8) (kk : J M R Q (cells + R'.cells) (slots + R'.slots) h2 pc' ls (r.toList ++ st)) : J M R Q cells slots h pc ls (a5 :: a4 :: a3 :: a2 :: a1 :: a0 :: st) :=
  j_callS (As := [a0, a1, a2, a3, a4, a5]) hd hp I L rfl rm hW8 S (fun v h' q => by obtain ⟨q1, q2⟩ := q; rw [q1, q2]; exact kk)
theorem j_i6 {idx key : Nat} {M' : hM} {R' : Room} {a0 a1 a2 a3 a4 a5 : Value} {h2 : hH} (hd : fnd (h_tab M) pc = some (.invokespecial idx, 3)) (hp : pc + 3 = pc') (I : h_MI M' 6) (hret : h_ret M' = none) (L : h_LI (h_own M) idx (h_y M')) (S : SpD M' R' (.ref key :: [a0, a1, a2, a3, a4, a5]) h none h2) (rm : h_rm R R' (h_nL M') cells slots) (hW8 : (st.map fun v => v.category).sum ≤ 8) (kk : J M R Q (cells + R'.cells) (slots + R'.slots) h2 pc' ls st) : J M R Q cells slots h pc ls (a5 :: a4 :: a3 :: a2 :: a1 :: a0 :: .ref key :: st) :=
  j_callI (As := [a0, a1, a2, a3, a4, a5]) hd hp I hret L rfl rm hW8 S (fun v h' q => by obtain ⟨q1, q2⟩ := q; rw [q1, q2]; exact kk)
theorem j_v7 {idx ci key : Nat} {M' : hM} {R' : Room} {a0 a1 a2 a3 a4 a5 a6 : Value} {fs : List Value} {r : Option Value} {h2 : hH} (hd : fnd (h_tab M) pc = some (.invokevirtual idx, 3)) (hp : pc + 3 = pc') (I : h_MI M' 7) (L : h_LV (h_own M) idx (h_y M')) (hk : h key = some (.inr (ci, fs))) (hci : (vwCl[ci]?).map (fun q => q.1) = some (h_y M').cls) (S : SpD M' R' (.ref key :: [a0, a1, a2, a3, a4, a5, a6]) h r h2) (rm : h_rm R R' (h_nL M') cells slots) (hW8 : (st.map fun v => v.category).sum ≤ 8) (kk : J M R Q (cells + R'.cells) (slots + R'.slots) h2 pc' ls (r.toList ++ st)) : J M R Q cells slots h pc ls (a6 :: a5 :: a4 :: a3 :: a2 :: a1 :: a0 :: .ref key :: st) :=
  j_callV (As := [a0, a1, a2, a3, a4, a5, a6]) hd hp I L hk hci rfl rm hW8 S (fun v h' q => by obtain ⟨q1, q2⟩ := q; rw [q1, q2]; exact kk)
theorem j_s7 {idx : Nat} {M' : hM} {R' : Room} {a0 a1 a2 a3 a4 a5 a6 : Value} {r : Option Value} {h2 : hH} (hd : fnd (h_tab M) pc = some (.invokestatic idx, 3)) (hp : pc + 3 = pc') (I : h_MI M' 7) (L : h_LS (h_own M) idx (h_y M')) (S : SpD M' R' [a0, a1, a2, a3, a4, a5, a6] h r h2) (rm : h_rm R R' (h_nL M') cells slots) (hW8 : (st.map fun v => v.category).sum ≤ 8) (kk : J M R Q (cells + R'.cells) (slots + R'.slots) h2 pc' ls (r.toList ++ st)) : J M R Q cells slots h pc ls (a6 :: a5 :: a4 :: a3 :: a2 :: a1 :: a0 :: st) :=
  j_callS (As := [a0, a1, a2, a3, a4, a5, a6]) hd hp I L rfl rm hW8 S (fun v h' q => by obtain ⟨q1, q2⟩ := q; rw [q1, q2]; exact kk)
theorem j_i7 {idx key : Nat} {M' : hM} {R' : Room} {a0 a1 a2 a3 a4 a5 a6 : Value} {h2 : hH} (hd : fnd (h_tab M) pc = some (.invokespecial idx, 3)) (hp : pc + 3 = pc') (I : h_MI M' 7) (hret : h_ret M' = none) (L : h_LI (h_own M) idx (h_y M')) (S : SpD M' R' (.ref key :: [a0, a1, a2, a3, a4, a5, a6]) h none h2) (rm : h_rm R R' (h_nL M') cells slots) (hW8 : (st.map fun v => v.category).sum ≤ 8) (kk : J M R Q (cells + R'.cells) (slots + R'.slots) h2 pc' ls st) : J M R Q cells slots h pc ls (a6 :: a5 :: a4 :: a3 :: a2 :: a1 :: a0 :: .ref key :: st) :=
  j_callI (As := [a0, a1, a2, a3, a4, a5, a6]) hd hp I hret L rfl rm hW8 S (fun v h' q => by obtain ⟨q1, q2⟩ := q; rw [q1, q2]; exact kk)
end HCALLS
end
