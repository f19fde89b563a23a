section
-- ===== PART A: goes FIRST, ahead of the names: the tables' words, and 'selects' of the private methods out of them =====
/-- a private method of a class that the tables say can be made, by its rows of tables_1 -/
def lw_okq (q : MethodName × Nat) : Prop := (q.1.cls ≠ "java/lang/invoke/MethodHandle" ∧ q.1.cls ≠ "java/lang/invoke/VarHandle") ∧ Cond.instantiable q.1.cls q.2 ∈ tables_1 ∧ Cond.privateMethod q.1 ∈ tables_1 ∧ Cond.instanceMethod q.1 ∈ tables_1
theorem lw_p0 : lw_okq (⟨"MatchRows", "ruleMade", "(IIIII)I"⟩, 9) := ⟨⟨by decide +kernel, by decide +kernel⟩, List.mem_of_getElem? (i := 12) (by decide +kernel), List.mem_of_getElem? (i := 212) (by decide +kernel), List.mem_of_getElem? (i := 213) (by decide +kernel)⟩
theorem lw_p1 : lw_okq (⟨"MatchRows$Rules", "isNumber", "(I)Z"⟩, 5) := ⟨⟨by decide +kernel, by decide +kernel⟩, List.mem_of_getElem? (i := 20) (by decide +kernel), List.mem_of_getElem? (i := 224) (by decide +kernel), List.mem_of_getElem? (i := 225) (by decide +kernel)⟩
theorem lw_p2 : lw_okq (⟨"MatchRows", "tableNumbered", "(I)LMatchRows$Table;"⟩, 9) := ⟨⟨by decide +kernel, by decide +kernel⟩, List.mem_of_getElem? (i := 12) (by decide +kernel), List.mem_of_getElem? (i := 319) (by decide +kernel), List.mem_of_getElem? (i := 320) (by decide +kernel)⟩
theorem lw_p3 : lw_okq (⟨"MatchRows", "refusedPut", "(LMatchRows$Table;I)I"⟩, 9) := ⟨⟨by decide +kernel, by decide +kernel⟩, List.mem_of_getElem? (i := 12) (by decide +kernel), List.mem_of_getElem? (i := 323) (by decide +kernel), List.mem_of_getElem? (i := 324) (by decide +kernel)⟩
theorem lw_p4 : lw_okq (⟨"MatchRows$Search", "gather", "(LMatchRows$Table;I)V"⟩, 11) := ⟨⟨by decide +kernel, by decide +kernel⟩, List.mem_of_getElem? (i := 63) (by decide +kernel), List.mem_of_getElem? (i := 340) (by decide +kernel), List.mem_of_getElem? (i := 341) (by decide +kernel)⟩
theorem lw_p5 : lw_okq (⟨"MatchRows$Search", "relate", "(I)V"⟩, 11) := ⟨⟨by decide +kernel, by decide +kernel⟩, List.mem_of_getElem? (i := 63) (by decide +kernel), List.mem_of_getElem? (i := 349) (by decide +kernel), List.mem_of_getElem? (i := 350) (by decide +kernel)⟩
theorem lw_p6 : lw_okq (⟨"MatchRows$Search", "code", "()I"⟩, 11) := ⟨⟨by decide +kernel, by decide +kernel⟩, List.mem_of_getElem? (i := 63) (by decide +kernel), List.mem_of_getElem? (i := 356) (by decide +kernel), List.mem_of_getElem? (i := 357) (by decide +kernel)⟩
theorem lw_p7 : lw_okq (⟨"MatchRows$Search", "reach", "(II)V"⟩, 11) := ⟨⟨by decide +kernel, by decide +kernel⟩, List.mem_of_getElem? (i := 63) (by decide +kernel), List.mem_of_getElem? (i := 360) (by decide +kernel), List.mem_of_getElem? (i := 361) (by decide +kernel)⟩
theorem lw_p8 : lw_okq (⟨"MatchRows$Search", "arrange", "(I)V"⟩, 11) := ⟨⟨by decide +kernel, by decide +kernel⟩, List.mem_of_getElem? (i := 63) (by decide +kernel), List.mem_of_getElem? (i := 364) (by decide +kernel), List.mem_of_getElem? (i := 365) (by decide +kernel)⟩
theorem lw_p9 : lw_okq (⟨"MatchRows$Search", "leastPlaceFor", "(I)I"⟩, 11) := ⟨⟨by decide +kernel, by decide +kernel⟩, List.mem_of_getElem? (i := 63) (by decide +kernel), List.mem_of_getElem? (i := 368) (by decide +kernel), List.mem_of_getElem? (i := 369) (by decide +kernel)⟩
theorem lw_p10 : lw_okq (⟨"MatchRows$Search", "placesTaken", "()I"⟩, 11) := ⟨⟨by decide +kernel, by decide +kernel⟩, List.mem_of_getElem? (i := 63) (by decide +kernel), List.mem_of_getElem? (i := 372) (by decide +kernel), List.mem_of_getElem? (i := 373) (by decide +kernel)⟩
theorem lw_p11 : lw_okq (⟨"MatchRows$Search", "endOfRoom", "(I)I"⟩, 11) := ⟨⟨by decide +kernel, by decide +kernel⟩, List.mem_of_getElem? (i := 63) (by decide +kernel), List.mem_of_getElem? (i := 376) (by decide +kernel), List.mem_of_getElem? (i := 377) (by decide +kernel)⟩
theorem lw_p12 : lw_okq (⟨"MatchRows$Search", "startOfRoom", "(I)I"⟩, 11) := ⟨⟨by decide +kernel, by decide +kernel⟩, List.mem_of_getElem? (i := 63) (by decide +kernel), List.mem_of_getElem? (i := 383) (by decide +kernel), List.mem_of_getElem? (i := 384) (by decide +kernel)⟩
theorem lw_p13 : lw_okq (⟨"MatchRows$Search", "trace", "(ILMatchRows$Plan;)V"⟩, 11) := ⟨⟨by decide +kernel, by decide +kernel⟩, List.mem_of_getElem? (i := 63) (by decide +kernel), List.mem_of_getElem? (i := 390) (by decide +kernel), List.mem_of_getElem? (i := 391) (by decide +kernel)⟩
theorem lw_p14 : lw_okq (⟨"MatchRows$Search", "cameFromOf", "(I)I"⟩, 11) := ⟨⟨by decide +kernel, by decide +kernel⟩, List.mem_of_getElem? (i := 63) (by decide +kernel), List.mem_of_getElem? (i := 394) (by decide +kernel), List.mem_of_getElem? (i := 395) (by decide +kernel)⟩
theorem lw_p15 : lw_okq (⟨"MatchRows$Search", "codeOf", "(I)I"⟩, 11) := ⟨⟨by decide +kernel, by decide +kernel⟩, List.mem_of_getElem? (i := 63) (by decide +kernel), List.mem_of_getElem? (i := 404) (by decide +kernel), List.mem_of_getElem? (i := 405) (by decide +kernel)⟩
def lw_privs_1 : List (MethodName × Nat) := [(⟨"MatchRows", "ruleMade", "(IIIII)I"⟩, 9), (⟨"MatchRows$Rules", "isNumber", "(I)Z"⟩, 5), (⟨"MatchRows", "tableNumbered", "(I)LMatchRows$Table;"⟩, 9), (⟨"MatchRows", "refusedPut", "(LMatchRows$Table;I)I"⟩, 9), (⟨"MatchRows$Search", "gather", "(LMatchRows$Table;I)V"⟩, 11), (⟨"MatchRows$Search", "relate", "(I)V"⟩, 11), (⟨"MatchRows$Search", "code", "()I"⟩, 11), (⟨"MatchRows$Search", "reach", "(II)V"⟩, 11), (⟨"MatchRows$Search", "arrange", "(I)V"⟩, 11), (⟨"MatchRows$Search", "leastPlaceFor", "(I)I"⟩, 11), (⟨"MatchRows$Search", "placesTaken", "()I"⟩, 11), (⟨"MatchRows$Search", "endOfRoom", "(I)I"⟩, 11), (⟨"MatchRows$Search", "startOfRoom", "(I)I"⟩, 11), (⟨"MatchRows$Search", "trace", "(ILMatchRows$Plan;)V"⟩, 11), (⟨"MatchRows$Search", "cameFromOf", "(I)I"⟩, 11), (⟨"MatchRows$Search", "codeOf", "(I)I"⟩, 11)]
theorem lw_r1 : ∀ q ∈ lw_privs_1, lw_okq q := List.forall_mem_cons.mpr ⟨lw_p0, List.forall_mem_cons.mpr ⟨lw_p1, List.forall_mem_cons.mpr ⟨lw_p2, List.forall_mem_cons.mpr ⟨lw_p3, List.forall_mem_cons.mpr ⟨lw_p4, List.forall_mem_cons.mpr ⟨lw_p5, List.forall_mem_cons.mpr ⟨lw_p6, List.forall_mem_cons.mpr ⟨lw_p7, List.forall_mem_cons.mpr ⟨lw_p8, List.forall_mem_cons.mpr ⟨lw_p9, List.forall_mem_cons.mpr ⟨lw_p10, List.forall_mem_cons.mpr ⟨lw_p11, List.forall_mem_cons.mpr ⟨lw_p12, List.forall_mem_cons.mpr ⟨lw_p13, List.forall_mem_cons.mpr ⟨lw_p14, List.forall_mem_cons.mpr ⟨lw_p15, fun _ h => absurd h List.not_mem_nil⟩⟩⟩⟩⟩⟩⟩⟩⟩⟩⟩⟩⟩⟩⟩⟩
theorem lw_p16 : lw_okq (⟨"MatchRows$Search", "tellMove", "(IIILMatchRows$Plan;)V"⟩, 11) := ⟨⟨by decide +kernel, by decide +kernel⟩, List.mem_of_getElem? (i := 63) (by decide +kernel), List.mem_of_getElem? (i := 408) (by decide +kernel), List.mem_of_getElem? (i := 409) (by decide +kernel)⟩
theorem lw_p17 : lw_okq (⟨"MatchRows$Search", "widen", "(I)V"⟩, 11) := ⟨⟨by decide +kernel, by decide +kernel⟩, List.mem_of_getElem? (i := 63) (by decide +kernel), List.mem_of_getElem? (i := 420) (by decide +kernel), List.mem_of_getElem? (i := 421) (by decide +kernel)⟩
theorem lw_p18 : lw_okq (⟨"MatchRows", "remember", "()V"⟩, 9) := ⟨⟨by decide +kernel, by decide +kernel⟩, List.mem_of_getElem? (i := 12) (by decide +kernel), List.mem_of_getElem? (i := 424) (by decide +kernel), List.mem_of_getElem? (i := 425) (by decide +kernel)⟩
theorem lw_p19 : lw_okq (⟨"MatchRows$Table", "isPlace", "(I)Z"⟩, 3) := ⟨⟨by decide +kernel, by decide +kernel⟩, List.mem_of_getElem? (i := 46) (by decide +kernel), List.mem_of_getElem? (i := 454) (by decide +kernel), List.mem_of_getElem? (i := 455) (by decide +kernel)⟩
theorem lw_p20 : lw_okq (⟨"MatchRows$Table", "hasHigherFor", "(II)Z"⟩, 3) := ⟨⟨by decide +kernel, by decide +kernel⟩, List.mem_of_getElem? (i := 46) (by decide +kernel), List.mem_of_getElem? (i := 516) (by decide +kernel), List.mem_of_getElem? (i := 517) (by decide +kernel)⟩
theorem lw_p21 : lw_okq (⟨"MatchRows", "isMeltable", "(I)Z"⟩, 9) := ⟨⟨by decide +kernel, by decide +kernel⟩, List.mem_of_getElem? (i := 12) (by decide +kernel), List.mem_of_getElem? (i := 532) (by decide +kernel), List.mem_of_getElem? (i := 533) (by decide +kernel)⟩
theorem lw_p22 : lw_okq (⟨"MatchRows", "standsOnlyIn", "(LMatchRows$Table;I)Z"⟩, 9) := ⟨⟨by decide +kernel, by decide +kernel⟩, List.mem_of_getElem? (i := 12) (by decide +kernel), List.mem_of_getElem? (i := 549) (by decide +kernel), List.mem_of_getElem? (i := 550) (by decide +kernel)⟩
theorem lw_p23 : lw_okq (⟨"MatchRows", "meltHolds", "(LMatchRows$Table;III)Z"⟩, 9) := ⟨⟨by decide +kernel, by decide +kernel⟩, List.mem_of_getElem? (i := 12) (by decide +kernel), List.mem_of_getElem? (i := 553) (by decide +kernel), List.mem_of_getElem? (i := 554) (by decide +kernel)⟩
theorem lw_p24 : lw_okq (⟨"MatchRows$History", "latestOf", "([I)I"⟩, 7) := ⟨⟨by decide +kernel, by decide +kernel⟩, List.mem_of_getElem? (i := 103) (by decide +kernel), List.mem_of_getElem? (i := 605) (by decide +kernel), List.mem_of_getElem? (i := 606) (by decide +kernel)⟩
theorem lw_p25 : lw_okq (⟨"MatchRows$History", "latest", "()I"⟩, 7) := ⟨⟨by decide +kernel, by decide +kernel⟩, List.mem_of_getElem? (i := 103) (by decide +kernel), List.mem_of_getElem? (i := 609) (by decide +kernel), List.mem_of_getElem? (i := 610) (by decide +kernel)⟩
theorem lw_p26 : lw_okq (⟨"MatchRowsModel", "clearTables", "()V"⟩, 25) := ⟨⟨by decide +kernel, by decide +kernel⟩, List.mem_of_getElem? (i := 645) (by decide +kernel), List.mem_of_getElem? (i := 652) (by decide +kernel), List.mem_of_getElem? (i := 653) (by decide +kernel)⟩
theorem lw_p27 : lw_okq (⟨"MatchRowsModel", "freeRules", "()I"⟩, 25) := ⟨⟨by decide +kernel, by decide +kernel⟩, List.mem_of_getElem? (i := 645) (by decide +kernel), List.mem_of_getElem? (i := 748) (by decide +kernel), List.mem_of_getElem? (i := 749) (by decide +kernel)⟩
theorem lw_p28 : lw_okq (⟨"MatchRowsModel", "add", "(IIIII)I"⟩, 25) := ⟨⟨by decide +kernel, by decide +kernel⟩, List.mem_of_getElem? (i := 645) (by decide +kernel), List.mem_of_getElem? (i := 752) (by decide +kernel), List.mem_of_getElem? (i := 753) (by decide +kernel)⟩
theorem lw_p29 : lw_okq (⟨"MatchRowsModel", "isRule", "(I)Z"⟩, 25) := ⟨⟨by decide +kernel, by decide +kernel⟩, List.mem_of_getElem? (i := 645) (by decide +kernel), List.mem_of_getElem? (i := 771) (by decide +kernel), List.mem_of_getElem? (i := 772) (by decide +kernel)⟩
theorem lw_p30 : lw_okq (⟨"MatchRowsModel", "placeOf", "(II)I"⟩, 25) := ⟨⟨by decide +kernel, by decide +kernel⟩, List.mem_of_getElem? (i := 645) (by decide +kernel), List.mem_of_getElem? (i := 775) (by decide +kernel), List.mem_of_getElem? (i := 776) (by decide +kernel)⟩
theorem lw_p31 : lw_okq (⟨"MatchRowsModel", "doOverlap", "(II)Z"⟩, 25) := ⟨⟨by decide +kernel, by decide +kernel⟩, List.mem_of_getElem? (i := 645) (by decide +kernel), List.mem_of_getElem? (i := 791) (by decide +kernel), List.mem_of_getElem? (i := 792) (by decide +kernel)⟩
def lw_privs_2 : List (MethodName × Nat) := [(⟨"MatchRows$Search", "tellMove", "(IIILMatchRows$Plan;)V"⟩, 11), (⟨"MatchRows$Search", "widen", "(I)V"⟩, 11), (⟨"MatchRows", "remember", "()V"⟩, 9), (⟨"MatchRows$Table", "isPlace", "(I)Z"⟩, 3), (⟨"MatchRows$Table", "hasHigherFor", "(II)Z"⟩, 3), (⟨"MatchRows", "isMeltable", "(I)Z"⟩, 9), (⟨"MatchRows", "standsOnlyIn", "(LMatchRows$Table;I)Z"⟩, 9), (⟨"MatchRows", "meltHolds", "(LMatchRows$Table;III)Z"⟩, 9), (⟨"MatchRows$History", "latestOf", "([I)I"⟩, 7), (⟨"MatchRows$History", "latest", "()I"⟩, 7), (⟨"MatchRowsModel", "clearTables", "()V"⟩, 25), (⟨"MatchRowsModel", "freeRules", "()I"⟩, 25), (⟨"MatchRowsModel", "add", "(IIIII)I"⟩, 25), (⟨"MatchRowsModel", "isRule", "(I)Z"⟩, 25), (⟨"MatchRowsModel", "placeOf", "(II)I"⟩, 25), (⟨"MatchRowsModel", "doOverlap", "(II)Z"⟩, 25)]
theorem lw_r2 : ∀ q ∈ lw_privs_2, lw_okq q := List.forall_mem_cons.mpr ⟨lw_p16, List.forall_mem_cons.mpr ⟨lw_p17, List.forall_mem_cons.mpr ⟨lw_p18, List.forall_mem_cons.mpr ⟨lw_p19, List.forall_mem_cons.mpr ⟨lw_p20, List.forall_mem_cons.mpr ⟨lw_p21, List.forall_mem_cons.mpr ⟨lw_p22, List.forall_mem_cons.mpr ⟨lw_p23, List.forall_mem_cons.mpr ⟨lw_p24, List.forall_mem_cons.mpr ⟨lw_p25, List.forall_mem_cons.mpr ⟨lw_p26, List.forall_mem_cons.mpr ⟨lw_p27, List.forall_mem_cons.mpr ⟨lw_p28, List.forall_mem_cons.mpr ⟨lw_p29, List.forall_mem_cons.mpr ⟨lw_p30, List.forall_mem_cons.mpr ⟨lw_p31, fun _ h => absurd h List.not_mem_nil⟩⟩⟩⟩⟩⟩⟩⟩⟩⟩⟩⟩⟩⟩⟩⟩
theorem lw_p32 : lw_okq (⟨"MatchRowsModel", "isHigher", "(II)Z"⟩, 25) := ⟨⟨by decide +kernel, by decide +kernel⟩, List.mem_of_getElem? (i := 645) (by decide +kernel), List.mem_of_getElem? (i := 799) (by decide +kernel), List.mem_of_getElem? (i := 800) (by decide +kernel)⟩
theorem lw_p33 : lw_okq (⟨"MatchRowsModel", "refusal", "(II)I"⟩, 25) := ⟨⟨by decide +kernel, by decide +kernel⟩, List.mem_of_getElem? (i := 645) (by decide +kernel), List.mem_of_getElem? (i := 807) (by decide +kernel), List.mem_of_getElem? (i := 808) (by decide +kernel)⟩
theorem lw_p34 : lw_okq (⟨"MatchRowsModel", "hasFree", "(I)Z"⟩, 25) := ⟨⟨by decide +kernel, by decide +kernel⟩, List.mem_of_getElem? (i := 645) (by decide +kernel), List.mem_of_getElem? (i := 814) (by decide +kernel), List.mem_of_getElem? (i := 815) (by decide +kernel)⟩
theorem lw_p35 : lw_okq (⟨"MatchRowsModel", "findStates", "(I)V"⟩, 25) := ⟨⟨by decide +kernel, by decide +kernel⟩, List.mem_of_getElem? (i := 645) (by decide +kernel), List.mem_of_getElem? (i := 818) (by decide +kernel), List.mem_of_getElem? (i := 819) (by decide +kernel)⟩
theorem lw_p36 : lw_okq (⟨"MatchRowsModel", "codeOf", "()I"⟩, 25) := ⟨⟨by decide +kernel, by decide +kernel⟩, List.mem_of_getElem? (i := 645) (by decide +kernel), List.mem_of_getElem? (i := 822) (by decide +kernel), List.mem_of_getElem? (i := 823) (by decide +kernel)⟩
theorem lw_p37 : lw_okq (⟨"MatchRowsModel", "meet", "(IIII)V"⟩, 25) := ⟨⟨by decide +kernel, by decide +kernel⟩, List.mem_of_getElem? (i := 645) (by decide +kernel), List.mem_of_getElem? (i := 826) (by decide +kernel), List.mem_of_getElem? (i := 827) (by decide +kernel)⟩
theorem lw_p38 : lw_okq (⟨"MatchRowsModel", "setRow", "(I)V"⟩, 25) := ⟨⟨by decide +kernel, by decide +kernel⟩, List.mem_of_getElem? (i := 645) (by decide +kernel), List.mem_of_getElem? (i := 830) (by decide +kernel), List.mem_of_getElem? (i := 831) (by decide +kernel)⟩
theorem lw_p39 : lw_okq (⟨"MatchRowsModel", "isSafeAt", "(II)Z"⟩, 25) := ⟨⟨by decide +kernel, by decide +kernel⟩, List.mem_of_getElem? (i := 645) (by decide +kernel), List.mem_of_getElem? (i := 834) (by decide +kernel), List.mem_of_getElem? (i := 835) (by decide +kernel)⟩
theorem lw_p40 : lw_okq (⟨"MatchRowsModel", "stateFor", "(I)I"⟩, 25) := ⟨⟨by decide +kernel, by decide +kernel⟩, List.mem_of_getElem? (i := 645) (by decide +kernel), List.mem_of_getElem? (i := 838) (by decide +kernel), List.mem_of_getElem? (i := 839) (by decide +kernel)⟩
theorem lw_p41 : lw_okq (⟨"MatchRowsModel", "keep", "(I)V"⟩, 25) := ⟨⟨by decide +kernel, by decide +kernel⟩, List.mem_of_getElem? (i := 645) (by decide +kernel), List.mem_of_getElem? (i := 847) (by decide +kernel), List.mem_of_getElem? (i := 848) (by decide +kernel)⟩
theorem lw_p42 : lw_okq (⟨"MatchRowsModel", "layIn", "(II)I"⟩, 25) := ⟨⟨by decide +kernel, by decide +kernel⟩, List.mem_of_getElem? (i := 645) (by decide +kernel), List.mem_of_getElem? (i := 851) (by decide +kernel), List.mem_of_getElem? (i := 852) (by decide +kernel)⟩
theorem lw_p43 : lw_okq (⟨"MatchRowsModel", "judge", "(II)I"⟩, 25) := ⟨⟨by decide +kernel, by decide +kernel⟩, List.mem_of_getElem? (i := 645) (by decide +kernel), List.mem_of_getElem? (i := 871) (by decide +kernel), List.mem_of_getElem? (i := 872) (by decide +kernel)⟩
theorem lw_p44 : lw_okq (⟨"MatchRowsModel", "fits", "(II)Z"⟩, 25) := ⟨⟨by decide +kernel, by decide +kernel⟩, List.mem_of_getElem? (i := 645) (by decide +kernel), List.mem_of_getElem? (i := 875) (by decide +kernel), List.mem_of_getElem? (i := 876) (by decide +kernel)⟩
theorem lw_p45 : lw_okq (⟨"MatchRowsModel", "due", "(II)I"⟩, 25) := ⟨⟨by decide +kernel, by decide +kernel⟩, List.mem_of_getElem? (i := 645) (by decide +kernel), List.mem_of_getElem? (i := 883) (by decide +kernel), List.mem_of_getElem? (i := 884) (by decide +kernel)⟩
theorem lw_p46 : lw_okq (⟨"MatchRowsModel", "firstShown", "(II)I"⟩, 25) := ⟨⟨by decide +kernel, by decide +kernel⟩, List.mem_of_getElem? (i := 645) (by decide +kernel), List.mem_of_getElem? (i := 891) (by decide +kernel), List.mem_of_getElem? (i := 892) (by decide +kernel)⟩
theorem lw_p47 : lw_okq (⟨"MatchRowsModel", "isSafe", "(I)Z"⟩, 25) := ⟨⟨by decide +kernel, by decide +kernel⟩, List.mem_of_getElem? (i := 645) (by decide +kernel), List.mem_of_getElem? (i := 910) (by decide +kernel), List.mem_of_getElem? (i := 911) (by decide +kernel)⟩
def lw_privs_3 : List (MethodName × Nat) := [(⟨"MatchRowsModel", "isHigher", "(II)Z"⟩, 25), (⟨"MatchRowsModel", "refusal", "(II)I"⟩, 25), (⟨"MatchRowsModel", "hasFree", "(I)Z"⟩, 25), (⟨"MatchRowsModel", "findStates", "(I)V"⟩, 25), (⟨"MatchRowsModel", "codeOf", "()I"⟩, 25), (⟨"MatchRowsModel", "meet", "(IIII)V"⟩, 25), (⟨"MatchRowsModel", "setRow", "(I)V"⟩, 25), (⟨"MatchRowsModel", "isSafeAt", "(II)Z"⟩, 25), (⟨"MatchRowsModel", "stateFor", "(I)I"⟩, 25), (⟨"MatchRowsModel", "keep", "(I)V"⟩, 25), (⟨"MatchRowsModel", "layIn", "(II)I"⟩, 25), (⟨"MatchRowsModel", "judge", "(II)I"⟩, 25), (⟨"MatchRowsModel", "fits", "(II)Z"⟩, 25), (⟨"MatchRowsModel", "due", "(II)I"⟩, 25), (⟨"MatchRowsModel", "firstShown", "(II)I"⟩, 25), (⟨"MatchRowsModel", "isSafe", "(I)Z"⟩, 25)]
theorem lw_r3 : ∀ q ∈ lw_privs_3, lw_okq q := List.forall_mem_cons.mpr ⟨lw_p32, List.forall_mem_cons.mpr ⟨lw_p33, List.forall_mem_cons.mpr ⟨lw_p34, List.forall_mem_cons.mpr ⟨lw_p35, List.forall_mem_cons.mpr ⟨lw_p36, List.forall_mem_cons.mpr ⟨lw_p37, List.forall_mem_cons.mpr ⟨lw_p38, List.forall_mem_cons.mpr ⟨lw_p39, List.forall_mem_cons.mpr ⟨lw_p40, List.forall_mem_cons.mpr ⟨lw_p41, List.forall_mem_cons.mpr ⟨lw_p42, List.forall_mem_cons.mpr ⟨lw_p43, List.forall_mem_cons.mpr ⟨lw_p44, List.forall_mem_cons.mpr ⟨lw_p45, List.forall_mem_cons.mpr ⟨lw_p46, List.forall_mem_cons.mpr ⟨lw_p47, fun _ h => absurd h List.not_mem_nil⟩⟩⟩⟩⟩⟩⟩⟩⟩⟩⟩⟩⟩⟩⟩⟩
def lw_privs : List (MethodName × Nat) := lw_privs_1 ++ (lw_privs_2 ++ (lw_privs_3))
def lw_tbl : List Cond := k2_sels lw_privs ++ tables_1
theorem lw_privs_ok : ∀ q ∈ lw_privs, lw_okq q := by
  show ∀ q ∈ lw_privs_1 ++ (lw_privs_2 ++ (lw_privs_3)), lw_okq q
  exact List.forall_mem_append.mpr ⟨lw_r1, List.forall_mem_append.mpr ⟨lw_r2, lw_r3⟩⟩
-- ===== end of PART A; then your names; then what follows =====
end
section
def RX0 : String := "MatchRows$History"
def TX0 : u_T := fun k => match k with
  | 0 => ("MatchRows$History", "firstTable", "[I", true)
  | 1 => ("MatchRows$History", "secondTable", "[I", true)
  | 2 => ("MatchRows$History", "liveTable", "[I", true)
  | 3 => ("MatchRows$History", "meltedRule", "[I", true)
  | 4 => ("MatchRows$History", "meltedMask", "[I", true)
  | 5 => ("MatchRows$History", "next", "I", false)
  | _ => ("MatchRows$History", "length", "I", false)
def tyX0 : Nat → FieldType := fun k => match k with
  | 0 => .array .int
  | 1 => .array .int
  | 2 => .array .int
  | 3 => .array .int
  | 4 => .array .int
  | 5 => .int
  | _ => .int
abbrev wsX00 : List Cond := u_ws RX0 TX0 7
theorem nmX0 : ∀ a, a < 7 → ∀ b, b < 7 → a ≠ b → (TX0 a).2.1 ≠ (TX0 b).2.1 := by decide +kernel
theorem tyX0_ok : ∀ k, k < 7 → parseFieldDescriptor (TX0 k).2.2.1 = some (tyX0 k) := by decide +kernel
abbrev cX0_init : ByteArray := prog_2_method_1_code
def yX0_init : MethodName := ⟨RX0, "<init>", "()V"⟩
abbrev cX0_forgetAll : ByteArray := prog_2_method_2_code
def yX0_forgetAll : MethodName := ⟨RX0, "forgetAll", "()V"⟩
abbrev cX0_length : ByteArray := prog_2_method_3_code
def yX0_length : MethodName := ⟨RX0, "length", "()I"⟩
abbrev cX0_push : ByteArray := prog_2_method_4_code
def yX0_push : MethodName := ⟨RX0, "push", "(IIIII)V"⟩
abbrev cX0_pop : ByteArray := prog_2_method_5_code
def yX0_pop : MethodName := ⟨RX0, "pop", "()V"⟩
abbrev cX0_latest : ByteArray := prog_2_method_6_code
def yX0_latest : MethodName := ⟨RX0, "latest", "()I"⟩
abbrev cX0_latestOf : ByteArray := prog_2_method_7_code
def yX0_latestOf : MethodName := ⟨RX0, "latestOf", "([I)I"⟩
abbrev cX0_firstTable : ByteArray := prog_2_method_8_code
def yX0_firstTable : MethodName := ⟨RX0, "firstTable", "()I"⟩
abbrev cX0_secondTable : ByteArray := prog_2_method_9_code
def yX0_secondTable : MethodName := ⟨RX0, "secondTable", "()I"⟩
abbrev cX0_liveTable : ByteArray := prog_2_method_10_code
def yX0_liveTable : MethodName := ⟨RX0, "liveTable", "()I"⟩
abbrev cX0_meltedRule : ByteArray := prog_2_method_11_code
def yX0_meltedRule : MethodName := ⟨RX0, "meltedRule", "()I"⟩
abbrev cX0_meltedMask : ByteArray := prog_2_method_12_code
def yX0_meltedMask : MethodName := ⟨RX0, "meltedMask", "()I"⟩
def RX1 : String := "MatchRows$Plan"
def TX1 : u_T := fun k => match k with
  | 0 => ("MatchRows$Plan", "rule", "[I", true)
  | 1 => ("MatchRows$Plan", "place", "[I", true)
  | _ => ("MatchRows$Plan", "length", "I", false)
def tyX1 : Nat → FieldType := fun k => match k with
  | 0 => .array .int
  | 1 => .array .int
  | _ => .int
abbrev wsX10 : List Cond := u_ws RX1 TX1 3
theorem nmX1 : ∀ a, a < 3 → ∀ b, b < 3 → a ≠ b → (TX1 a).2.1 ≠ (TX1 b).2.1 := by decide +kernel
theorem tyX1_ok : ∀ k, k < 3 → parseFieldDescriptor (TX1 k).2.2.1 = some (tyX1 k) := by decide +kernel
abbrev cX1_init : ByteArray := prog_3_method_1_code
def yX1_init : MethodName := ⟨RX1, "<init>", "()V"⟩
abbrev cX1_forgetAll : ByteArray := prog_3_method_2_code
def yX1_forgetAll : MethodName := ⟨RX1, "forgetAll", "()V"⟩
abbrev cX1_setLength : ByteArray := prog_3_method_3_code
def yX1_setLength : MethodName := ⟨RX1, "setLength", "(I)V"⟩
abbrev cX1_length : ByteArray := prog_3_method_4_code
def yX1_length : MethodName := ⟨RX1, "length", "()I"⟩
abbrev cX1_set : ByteArray := prog_3_method_5_code
def yX1_set : MethodName := ⟨RX1, "set", "(III)V"⟩
abbrev cX1_ruleOf : ByteArray := prog_3_method_6_code
def yX1_ruleOf : MethodName := ⟨RX1, "ruleOf", "(I)I"⟩
abbrev cX1_placeOf : ByteArray := prog_3_method_7_code
def yX1_placeOf : MethodName := ⟨RX1, "placeOf", "(I)I"⟩
def RX2 : String := "MatchRows$Rules"
def TX2 : u_T := fun k => match k with
  | 0 => ("MatchRows$Rules", "kind", "[I", true)
  | 1 => ("MatchRows$Rules", "value", "[I", true)
  | 2 => ("MatchRows$Rules", "mask", "[I", true)
  | 3 => ("MatchRows$Rules", "rank", "[I", true)
  | _ => ("MatchRows$Rules", "act", "[I", true)
def tyX2 : Nat → FieldType := fun k => match k with
  | 0 => .array .int
  | 1 => .array .int
  | 2 => .array .int
  | 3 => .array .int
  | _ => .array .int
abbrev wsX20 : List Cond := u_ws RX2 TX2 5
theorem nmX2 : ∀ a, a < 5 → ∀ b, b < 5 → a ≠ b → (TX2 a).2.1 ≠ (TX2 b).2.1 := by decide +kernel
theorem tyX2_ok : ∀ k, k < 5 → parseFieldDescriptor (TX2 k).2.2.1 = some (tyX2 k) := by decide +kernel
abbrev cX2_init : ByteArray := prog_4_method_1_code
def yX2_init : MethodName := ⟨RX2, "<init>", "()V"⟩
abbrev cX2_forgetAll : ByteArray := prog_4_method_2_code
def yX2_forgetAll : MethodName := ⟨RX2, "forgetAll", "()V"⟩
abbrev cX2_forget : ByteArray := prog_4_method_3_code
def yX2_forget : MethodName := ⟨RX2, "forget", "(I)V"⟩
abbrev cX2_isNumber : ByteArray := prog_4_method_4_code
def yX2_isNumber : MethodName := ⟨RX2, "isNumber", "(I)Z"⟩
abbrev cX2_isInUse : ByteArray := prog_4_method_5_code
def yX2_isInUse : MethodName := ⟨RX2, "isInUse", "(I)Z"⟩
abbrev cX2_unused : ByteArray := prog_4_method_6_code
def yX2_unused : MethodName := ⟨RX2, "unused", "()I"⟩
abbrev cX2_leastUnused : ByteArray := prog_4_method_7_code
def yX2_leastUnused : MethodName := ⟨RX2, "leastUnused", "()I"⟩
abbrev cX2_set : ByteArray := prog_4_method_8_code
def yX2_set : MethodName := ⟨RX2, "set", "(IIIIII)V"⟩
abbrev cX2_setMask : ByteArray := prog_4_method_9_code
def yX2_setMask : MethodName := ⟨RX2, "setMask", "(II)V"⟩
abbrev cX2_setAct : ByteArray := prog_4_method_10_code
def yX2_setAct : MethodName := ⟨RX2, "setAct", "(II)V"⟩
abbrev cX2_kindOf : ByteArray := prog_4_method_11_code
def yX2_kindOf : MethodName := ⟨RX2, "kindOf", "(I)I"⟩
abbrev cX2_valueOf : ByteArray := prog_4_method_12_code
def yX2_valueOf : MethodName := ⟨RX2, "valueOf", "(I)I"⟩
abbrev cX2_maskOf : ByteArray := prog_4_method_13_code
def yX2_maskOf : MethodName := ⟨RX2, "maskOf", "(I)I"⟩
abbrev cX2_rankOf : ByteArray := prog_4_method_14_code
def yX2_rankOf : MethodName := ⟨RX2, "rankOf", "(I)I"⟩
abbrev cX2_actOf : ByteArray := prog_4_method_15_code
def yX2_actOf : MethodName := ⟨RX2, "actOf", "(I)I"⟩
abbrev cX2_doesFit : ByteArray := prog_4_method_16_code
def yX2_doesFit : MethodName := ⟨RX2, "doesFit", "(II)Z"⟩
abbrev cX2_doOverlap : ByteArray := prog_4_method_17_code
def yX2_doOverlap : MethodName := ⟨RX2, "doOverlap", "(II)Z"⟩
abbrev cX2_isHigher : ByteArray := prog_4_method_18_code
def yX2_isHigher : MethodName := ⟨RX2, "isHigher", "(II)Z"⟩
abbrev cX2_bitApart : ByteArray := prog_4_method_19_code
def yX2_bitApart : MethodName := ⟨RX2, "bitApart", "(II)I"⟩
def RX3 : String := "MatchRows$Search"
def TX3 : u_T := fun k => match k with
  | 0 => ("MatchRows$Search", "rules", "LMatchRows$Rules;", true)
  | 1 => ("MatchRows$Search", "member", "[I", true)
  | 2 => ("MatchRows$Search", "behindOf", "[I", true)
  | 3 => ("MatchRows$Search", "aheadOf", "[I", true)
  | 4 => ("MatchRows$Search", "where", "[I", true)
  | 5 => ("MatchRows$Search", "reached", "[I", true)
  | 6 => ("MatchRows$Search", "cameFrom", "[I", true)
  | 7 => ("MatchRows$Search", "seen", "[I", true)
  | 8 => ("MatchRows$Search", "arrangements", "I", false)
  | 9 => ("MatchRows$Search", "standing", "I", false)
  | _ => ("MatchRows$Search", "size", "I", false)
def tyX3 : Nat → FieldType := fun k => match k with
  | 0 => .object "MatchRows$Rules"
  | 1 => .array .int
  | 2 => .array .int
  | 3 => .array .int
  | 4 => .array .int
  | 5 => .array .int
  | 6 => .array .int
  | 7 => .array .int
  | 8 => .int
  | 9 => .int
  | _ => .int
abbrev wsX30 : List Cond := u_ws RX3 TX3 11
theorem nmX3 : ∀ a, a < 11 → ∀ b, b < 11 → a ≠ b → (TX3 a).2.1 ≠ (TX3 b).2.1 := by decide +kernel
theorem tyX3_ok : ∀ k, k < 11 → parseFieldDescriptor (TX3 k).2.2.1 = some (tyX3 k) := by decide +kernel
abbrev cX3_init : ByteArray := prog_5_method_1_code
def yX3_init : MethodName := ⟨RX3, "<init>", "(LMatchRows$Rules;)V"⟩
abbrev cX3_find : ByteArray := prog_5_method_2_code
def yX3_find : MethodName := ⟨RX3, "find", "(LMatchRows$Table;ILMatchRows$Plan;)V"⟩
abbrev cX3_gather : ByteArray := prog_5_method_3_code
def yX3_gather : MethodName := ⟨RX3, "gather", "(LMatchRows$Table;I)V"⟩
abbrev cX3_relate : ByteArray := prog_5_method_4_code
def yX3_relate : MethodName := ⟨RX3, "relate", "(I)V"⟩
abbrev cX3_code : ByteArray := prog_5_method_5_code
def yX3_code : MethodName := ⟨RX3, "code", "()I"⟩
abbrev cX3_arrange : ByteArray := prog_5_method_6_code
def yX3_arrange : MethodName := ⟨RX3, "arrange", "(I)V"⟩
abbrev cX3_reach : ByteArray := prog_5_method_7_code
def yX3_reach : MethodName := ⟨RX3, "reach", "(II)V"⟩
abbrev cX3_widen : ByteArray := prog_5_method_8_code
def yX3_widen : MethodName := ⟨RX3, "widen", "(I)V"⟩
abbrev cX3_placesTaken : ByteArray := prog_5_method_9_code
def yX3_placesTaken : MethodName := ⟨RX3, "placesTaken", "()I"⟩
abbrev cX3_startOfRoom : ByteArray := prog_5_method_10_code
def yX3_startOfRoom : MethodName := ⟨RX3, "startOfRoom", "(I)I"⟩
abbrev cX3_endOfRoom : ByteArray := prog_5_method_11_code
def yX3_endOfRoom : MethodName := ⟨RX3, "endOfRoom", "(I)I"⟩
abbrev cX3_isIn : ByteArray := prog_5_method_12_code
def yX3_isIn : MethodName := ⟨RX3, "isIn", "([III)Z"⟩
abbrev cX3_leastPlaceFor : ByteArray := prog_5_method_13_code
def yX3_leastPlaceFor : MethodName := ⟨RX3, "leastPlaceFor", "(I)I"⟩
abbrev cX3_trace : ByteArray := prog_5_method_14_code
def yX3_trace : MethodName := ⟨RX3, "trace", "(ILMatchRows$Plan;)V"⟩
abbrev cX3_cameFromOf : ByteArray := prog_5_method_15_code
def yX3_cameFromOf : MethodName := ⟨RX3, "cameFromOf", "(I)I"⟩
abbrev cX3_codeOf : ByteArray := prog_5_method_16_code
def yX3_codeOf : MethodName := ⟨RX3, "codeOf", "(I)I"⟩
abbrev cX3_tellMove : ByteArray := prog_5_method_17_code
def yX3_tellMove : MethodName := ⟨RX3, "tellMove", "(IIILMatchRows$Plan;)V"⟩
def RX4 : String := "MatchRows$Table"
def TX4 : u_T := fun k => match k with
  | 0 => ("MatchRows$Table", "rules", "LMatchRows$Rules;", true)
  | 1 => ("MatchRows$Table", "row", "[I", true)
  | _ => ("MatchRows$Table", "size", "I", false)
def tyX4 : Nat → FieldType := fun k => match k with
  | 0 => .object "MatchRows$Rules"
  | 1 => .array .int
  | _ => .int
abbrev wsX40 : List Cond := u_ws RX4 TX4 3
theorem nmX4 : ∀ a, a < 3 → ∀ b, b < 3 → a ≠ b → (TX4 a).2.1 ≠ (TX4 b).2.1 := by decide +kernel
theorem tyX4_ok : ∀ k, k < 3 → parseFieldDescriptor (TX4 k).2.2.1 = some (tyX4 k) := by decide +kernel
abbrev cX4_init : ByteArray := prog_6_method_1_code
def yX4_init : MethodName := ⟨RX4, "<init>", "(LMatchRows$Rules;)V"⟩
abbrev cX4_empty : ByteArray := prog_6_method_2_code
def yX4_empty : MethodName := ⟨RX4, "empty", "(I)V"⟩
abbrev cX4_size : ByteArray := prog_6_method_3_code
def yX4_size : MethodName := ⟨RX4, "size", "()I"⟩
abbrev cX4_isPlace : ByteArray := prog_6_method_4_code
def yX4_isPlace : MethodName := ⟨RX4, "isPlace", "(I)Z"⟩
abbrev cX4_ruleAt : ByteArray := prog_6_method_5_code
def yX4_ruleAt : MethodName := ⟨RX4, "ruleAt", "(I)I"⟩
abbrev cX4_placeOf : ByteArray := prog_6_method_6_code
def yX4_placeOf : MethodName := ⟨RX4, "placeOf", "(I)I"⟩
abbrev cX4_hasRule : ByteArray := prog_6_method_7_code
def yX4_hasRule : MethodName := ⟨RX4, "hasRule", "(I)Z"⟩
abbrev cX4_standing : ByteArray := prog_6_method_8_code
def yX4_standing : MethodName := ⟨RX4, "standing", "()I"⟩
abbrev cX4_isFull : ByteArray := prog_6_method_9_code
def yX4_isFull : MethodName := ⟨RX4, "isFull", "()Z"⟩
abbrev cX4_makeFree : ByteArray := prog_6_method_10_code
def yX4_makeFree : MethodName := ⟨RX4, "makeFree", "(I)V"⟩
abbrev cX4_lay : ByteArray := prog_6_method_11_code
def yX4_lay : MethodName := ⟨RX4, "lay", "(II)V"⟩
abbrev cX4_carryOut : ByteArray := prog_6_method_12_code
def yX4_carryOut : MethodName := ⟨RX4, "carryOut", "(LMatchRows$Plan;)V"⟩
abbrev cX4_actFor : ByteArray := prog_6_method_13_code
def yX4_actFor : MethodName := ⟨RX4, "actFor", "(I)I"⟩
abbrev cX4_dueActFor : ByteArray := prog_6_method_14_code
def yX4_dueActFor : MethodName := ⟨RX4, "dueActFor", "(I)I"⟩
abbrev cX4_noteActs : ByteArray := prog_6_method_15_code
def yX4_noteActs : MethodName := ⟨RX4, "noteActs", "([I)V"⟩
abbrev cX4_hasActs : ByteArray := prog_6_method_16_code
def yX4_hasActs : MethodName := ⟨RX4, "hasActs", "([I)Z"⟩
abbrev cX4_isSafe : ByteArray := prog_6_method_17_code
def yX4_isSafe : MethodName := ⟨RX4, "isSafe", "()Z"⟩
abbrev cX4_firstKeyShown : ByteArray := prog_6_method_18_code
def yX4_firstKeyShown : MethodName := ⟨RX4, "firstKeyShown", "(I)I"⟩
abbrev cX4_hasHigherFor : ByteArray := prog_6_method_19_code
def yX4_hasHigherFor : MethodName := ⟨RX4, "hasHigherFor", "(II)Z"⟩
abbrev cX4_highestBelow : ByteArray := prog_6_method_20_code
def yX4_highestBelow : MethodName := ⟨RX4, "highestBelow", "(I)I"⟩
abbrev cX4_packed : ByteArray := prog_6_method_21_code
def yX4_packed : MethodName := ⟨RX4, "packed", "()I"⟩
abbrev cX4_unpack : ByteArray := prog_6_method_22_code
def yX4_unpack : MethodName := ⟨RX4, "unpack", "(I)V"⟩
def RX5 : String := "MatchRows"
def TX5 : u_T := fun k => match k with
  | 0 => ("MatchRows", "rules", "LMatchRows$Rules;", true)
  | 1 => ("MatchRows", "first", "LMatchRows$Table;", true)
  | 2 => ("MatchRows", "second", "LMatchRows$Table;", true)
  | 3 => ("MatchRows", "search", "LMatchRows$Search;", true)
  | 4 => ("MatchRows", "history", "LMatchRows$History;", true)
  | 5 => ("MatchRows", "latest", "LMatchRows$Plan;", true)
  | 6 => ("MatchRows", "asked", "LMatchRows$Plan;", true)
  | 7 => ("MatchRows", "actsBefore", "[I", true)
  | _ => ("MatchRows", "live", "I", false)
def tyX5 : Nat → FieldType := fun k => match k with
  | 0 => .object "MatchRows$Rules"
  | 1 => .object "MatchRows$Table"
  | 2 => .object "MatchRows$Table"
  | 3 => .object "MatchRows$Search"
  | 4 => .object "MatchRows$History"
  | 5 => .object "MatchRows$Plan"
  | 6 => .object "MatchRows$Plan"
  | 7 => .array .int
  | _ => .int
abbrev wsX50 : List Cond := u_ws RX5 TX5 9
theorem nmX5 : ∀ a, a < 9 → ∀ b, b < 9 → a ≠ b → (TX5 a).2.1 ≠ (TX5 b).2.1 := by decide +kernel
theorem tyX5_ok : ∀ k, k < 9 → parseFieldDescriptor (TX5 k).2.2.1 = some (tyX5 k) := by decide +kernel
abbrev cX5_init : ByteArray := prog_1_method_1_code
def yX5_init : MethodName := ⟨RX5, "<init>", "()V"⟩
abbrev cX5_places : ByteArray := prog_1_method_2_code
def yX5_places : MethodName := ⟨RX5, "places", "(I)I"⟩
abbrev cX5_rule : ByteArray := prog_1_method_3_code
def yX5_rule : MethodName := ⟨RX5, "rule", "(IIII)I"⟩
abbrev cX5_last : ByteArray := prog_1_method_4_code
def yX5_last : MethodName := ⟨RX5, "last", "(I)I"⟩
abbrev cX5_span : ByteArray := prog_1_method_5_code
def yX5_span : MethodName := ⟨RX5, "span", "(IIII)I"⟩
abbrev cX5_told : ByteArray := prog_1_method_6_code
def yX5_told : MethodName := ⟨RX5, "told", "(II)I"⟩
abbrev cX5_drop : ByteArray := prog_1_method_7_code
def yX5_drop : MethodName := ⟨RX5, "drop", "(I)I"⟩
abbrev cX5_act : ByteArray := prog_1_method_8_code
def yX5_act : MethodName := ⟨RX5, "act", "(II)I"⟩
abbrev cX5_overlap : ByteArray := prog_1_method_9_code
def yX5_overlap : MethodName := ⟨RX5, "overlap", "(II)I"⟩
abbrev cX5_higher : ByteArray := prog_1_method_10_code
def yX5_higher : MethodName := ⟨RX5, "higher", "(II)I"⟩
abbrev cX5_put : ByteArray := prog_1_method_11_code
def yX5_put : MethodName := ⟨RX5, "put", "(II)I"⟩
abbrev cX5_writes : ByteArray := prog_1_method_12_code
def yX5_writes : MethodName := ⟨RX5, "writes", "(II)I"⟩
abbrev cX5_write : ByteArray := prog_1_method_13_code
def yX5_write : MethodName := ⟨RX5, "write", "(II)I"⟩
abbrev cX5_strike : ByteArray := prog_1_method_14_code
def yX5_strike : MethodName := ⟨RX5, "strike", "(II)I"⟩
abbrev cX5_at : ByteArray := prog_1_method_15_code
def yX5_at : MethodName := ⟨RX5, "at", "(II)I"⟩
abbrev cX5_judged : ByteArray := prog_1_method_16_code
def yX5_judged : MethodName := ⟨RX5, "judged", "(II)I"⟩
abbrev cX5_right : ByteArray := prog_1_method_17_code
def yX5_right : MethodName := ⟨RX5, "right", "(I)I"⟩
abbrev cX5_covered : ByteArray := prog_1_method_18_code
def yX5_covered : MethodName := ⟨RX5, "covered", "(II)I"⟩
abbrev cX5_shown : ByteArray := prog_1_method_19_code
def yX5_shown : MethodName := ⟨RX5, "shown", "(II)I"⟩
abbrev cX5_spare : ByteArray := prog_1_method_20_code
def yX5_spare : MethodName := ⟨RX5, "spare", "(II)I"⟩
abbrev cX5_melt : ByteArray := prog_1_method_21_code
def yX5_melt : MethodName := ⟨RX5, "melt", "(III)I"⟩
abbrev cX5_over : ByteArray := prog_1_method_22_code
def yX5_over : MethodName := ⟨RX5, "over", "()I"⟩
abbrev cX5_differ : ByteArray := prog_1_method_23_code
def yX5_differ : MethodName := ⟨RX5, "differ", "()I"⟩
abbrev cX5_build : ByteArray := prog_1_method_24_code
def yX5_build : MethodName := ⟨RX5, "build", "(I)I"⟩
abbrev cX5_undo : ByteArray := prog_1_method_25_code
def yX5_undo : MethodName := ⟨RX5, "undo", "()I"⟩
abbrev cX5_count : ByteArray := prog_1_method_26_code
def yX5_count : MethodName := ⟨RX5, "count", "(I)I"⟩
abbrev cX5_isKey : ByteArray := prog_1_method_27_code
def yX5_isKey : MethodName := ⟨RX5, "isKey", "(I)Z"⟩
abbrev cX5_isRank : ByteArray := prog_1_method_28_code
def yX5_isRank : MethodName := ⟨RX5, "isRank", "(I)Z"⟩
abbrev cX5_isAct : ByteArray := prog_1_method_29_code
def yX5_isAct : MethodName := ⟨RX5, "isAct", "(I)Z"⟩
abbrev cX5_tableNumbered : ByteArray := prog_1_method_30_code
def yX5_tableNumbered : MethodName := ⟨RX5, "tableNumbered", "(I)LMatchRows$Table;"⟩
abbrev cX5_ruleMade : ByteArray := prog_1_method_31_code
def yX5_ruleMade : MethodName := ⟨RX5, "ruleMade", "(IIIII)I"⟩
abbrev cX5_keysOfRow : ByteArray := prog_1_method_32_code
def yX5_keysOfRow : MethodName := ⟨RX5, "keysOfRow", "(II)I"⟩
abbrev cX5_rowsOfSpan : ByteArray := prog_1_method_33_code
def yX5_rowsOfSpan : MethodName := ⟨RX5, "rowsOfSpan", "(II)I"⟩
abbrev cX5_refusedPut : ByteArray := prog_1_method_34_code
def yX5_refusedPut : MethodName := ⟨RX5, "refusedPut", "(LMatchRows$Table;I)I"⟩
abbrev cX5_remember : ByteArray := prog_1_method_35_code
def yX5_remember : MethodName := ⟨RX5, "remember", "()V"⟩
abbrev cX5_isMeltable : ByteArray := prog_1_method_36_code
def yX5_isMeltable : MethodName := ⟨RX5, "isMeltable", "(I)Z"⟩
abbrev cX5_standsOnlyIn : ByteArray := prog_1_method_37_code
def yX5_standsOnlyIn : MethodName := ⟨RX5, "standsOnlyIn", "(LMatchRows$Table;I)Z"⟩
abbrev cX5_meltHolds : ByteArray := prog_1_method_38_code
def yX5_meltHolds : MethodName := ⟨RX5, "meltHolds", "(LMatchRows$Table;III)Z"⟩
def RX6 : String := "MatchRowsModel"
def TX6 : u_T := fun k => match k with
  | 0 => ("MatchRowsModel", "used", "[Z", true)
  | 1 => ("MatchRowsModel", "kinds", "[I", true)
  | 2 => ("MatchRowsModel", "values", "[I", true)
  | 3 => ("MatchRowsModel", "masks", "[I", true)
  | 4 => ("MatchRowsModel", "ranks", "[I", true)
  | 5 => ("MatchRowsModel", "acts", "[I", true)
  | 6 => ("MatchRowsModel", "wide", "I", false)
  | 7 => ("MatchRowsModel", "live", "I", false)
  | 8 => ("MatchRowsModel", "tables", "[I", true)
  | 9 => ("MatchRowsModel", "olds", "I", false)
  | 10 => ("MatchRowsModel", "kept", "[I", true)
  | 11 => ("MatchRowsModel", "met", "[Z", true)
  | 12 => ("MatchRowsModel", "states", "[I", true)
  | 13 => ("MatchRowsModel", "from", "[I", true)
  | 14 => ("MatchRowsModel", "moved", "[I", true)
  | 15 => ("MatchRowsModel", "depth", "[I", true)
  | 16 => ("MatchRowsModel", "stateMany", "I", false)
  | 17 => ("MatchRowsModel", "own", "[I", true)
  | 18 => ("MatchRowsModel", "owns", "I", false)
  | 19 => ("MatchRowsModel", "row", "[I", true)
  | 20 => ("MatchRowsModel", "lastPlace", "I", false)
  | 21 => ("MatchRowsModel", "wayMany", "I", false)
  | 22 => ("MatchRowsModel", "wayRule", "[I", true)
  | 23 => ("MatchRowsModel", "wayPlace", "[I", true)
  | _ => ("MatchRowsModel", "before", "[I", true)
def tyX6 : Nat → FieldType := fun k => match k with
  | 0 => .array .boolean
  | 1 => .array .int
  | 2 => .array .int
  | 3 => .array .int
  | 4 => .array .int
  | 5 => .array .int
  | 6 => .int
  | 7 => .int
  | 8 => .array .int
  | 9 => .int
  | 10 => .array .int
  | 11 => .array .boolean
  | 12 => .array .int
  | 13 => .array .int
  | 14 => .array .int
  | 15 => .array .int
  | 16 => .int
  | 17 => .array .int
  | 18 => .int
  | 19 => .array .int
  | 20 => .int
  | 21 => .int
  | 22 => .array .int
  | 23 => .array .int
  | _ => .array .int
abbrev wsX60 : List Cond := u_ws RX6 TX6 25
theorem nmX6 : ∀ a, a < 25 → ∀ b, b < 25 → a ≠ b → (TX6 a).2.1 ≠ (TX6 b).2.1 := by decide +kernel
theorem tyX6_ok : ∀ k, k < 25 → parseFieldDescriptor (TX6 k).2.2.1 = some (tyX6 k) := by decide +kernel
abbrev cX6_in : ByteArray := prog_8_method_1_code
def yX6_in : MethodName := ⟨RX6, "in", "(III)Z"⟩
abbrev cX6_init : ByteArray := prog_8_method_2_code
def yX6_init : MethodName := ⟨RX6, "<init>", "()V"⟩
abbrev cX6_clearTables : ByteArray := prog_8_method_3_code
def yX6_clearTables : MethodName := ⟨RX6, "clearTables", "()V"⟩
abbrev cX6_isRule : ByteArray := prog_8_method_4_code
def yX6_isRule : MethodName := ⟨RX6, "isRule", "(I)Z"⟩
abbrev cX6_isTable : ByteArray := prog_8_method_5_code
def yX6_isTable : MethodName := ⟨RX6, "isTable", "(I)Z"⟩
abbrev cX6_fits : ByteArray := prog_8_method_6_code
def yX6_fits : MethodName := ⟨RX6, "fits", "(II)Z"⟩
abbrev cX6_doOverlap : ByteArray := prog_8_method_7_code
def yX6_doOverlap : MethodName := ⟨RX6, "doOverlap", "(II)Z"⟩
abbrev cX6_isHigher : ByteArray := prog_8_method_8_code
def yX6_isHigher : MethodName := ⟨RX6, "isHigher", "(II)Z"⟩
abbrev cX6_keep : ByteArray := prog_8_method_9_code
def yX6_keep : MethodName := ⟨RX6, "keep", "(I)V"⟩
abbrev cX6_undo : ByteArray := prog_8_method_10_code
def yX6_undo : MethodName := ⟨RX6, "undo", "()I"⟩
abbrev cX6_places : ByteArray := prog_8_method_11_code
def yX6_places : MethodName := ⟨RX6, "places", "(I)I"⟩
abbrev cX6_freeRules : ByteArray := prog_8_method_12_code
def yX6_freeRules : MethodName := ⟨RX6, "freeRules", "()I"⟩
abbrev cX6_add : ByteArray := prog_8_method_13_code
def yX6_add : MethodName := ⟨RX6, "add", "(IIIII)I"⟩
abbrev cX6_rule : ByteArray := prog_8_method_14_code
def yX6_rule : MethodName := ⟨RX6, "rule", "(IIII)I"⟩
abbrev cX6_last : ByteArray := prog_8_method_15_code
def yX6_last : MethodName := ⟨RX6, "last", "(I)I"⟩
abbrev cX6_sizeOf : ByteArray := prog_8_method_16_code
def yX6_sizeOf : MethodName := ⟨RX6, "sizeOf", "(II)I"⟩
abbrev cX6_span : ByteArray := prog_8_method_17_code
def yX6_span : MethodName := ⟨RX6, "span", "(IIII)I"⟩
abbrev cX6_placeOf : ByteArray := prog_8_method_18_code
def yX6_placeOf : MethodName := ⟨RX6, "placeOf", "(II)I"⟩
abbrev cX6_told : ByteArray := prog_8_method_19_code
def yX6_told : MethodName := ⟨RX6, "told", "(II)I"⟩
abbrev cX6_drop : ByteArray := prog_8_method_20_code
def yX6_drop : MethodName := ⟨RX6, "drop", "(I)I"⟩
abbrev cX6_act : ByteArray := prog_8_method_21_code
def yX6_act : MethodName := ⟨RX6, "act", "(II)I"⟩
abbrev cX6_overlap : ByteArray := prog_8_method_22_code
def yX6_overlap : MethodName := ⟨RX6, "overlap", "(II)I"⟩
abbrev cX6_higher : ByteArray := prog_8_method_23_code
def yX6_higher : MethodName := ⟨RX6, "higher", "(II)I"⟩
abbrev cX6_codeOf : ByteArray := prog_8_method_24_code
def yX6_codeOf : MethodName := ⟨RX6, "codeOf", "()I"⟩
abbrev cX6_setRow : ByteArray := prog_8_method_25_code
def yX6_setRow : MethodName := ⟨RX6, "setRow", "(I)V"⟩
abbrev cX6_isSafeAt : ByteArray := prog_8_method_26_code
def yX6_isSafeAt : MethodName := ⟨RX6, "isSafeAt", "(II)Z"⟩
abbrev cX6_meet : ByteArray := prog_8_method_27_code
def yX6_meet : MethodName := ⟨RX6, "meet", "(IIII)V"⟩
abbrev cX6_findStates : ByteArray := prog_8_method_28_code
def yX6_findStates : MethodName := ⟨RX6, "findStates", "(I)V"⟩
abbrev cX6_hasFree : ByteArray := prog_8_method_29_code
def yX6_hasFree : MethodName := ⟨RX6, "hasFree", "(I)Z"⟩
abbrev cX6_stateFor : ByteArray := prog_8_method_30_code
def yX6_stateFor : MethodName := ⟨RX6, "stateFor", "(I)I"⟩
abbrev cX6_refusal : ByteArray := prog_8_method_31_code
def yX6_refusal : MethodName := ⟨RX6, "refusal", "(II)I"⟩
abbrev cX6_writes : ByteArray := prog_8_method_32_code
def yX6_writes : MethodName := ⟨RX6, "writes", "(II)I"⟩
abbrev cX6_layIn : ByteArray := prog_8_method_33_code
def yX6_layIn : MethodName := ⟨RX6, "layIn", "(II)I"⟩
abbrev cX6_put : ByteArray := prog_8_method_34_code
def yX6_put : MethodName := ⟨RX6, "put", "(II)I"⟩
abbrev cX6_write : ByteArray := prog_8_method_35_code
def yX6_write : MethodName := ⟨RX6, "write", "(II)I"⟩
abbrev cX6_strike : ByteArray := prog_8_method_36_code
def yX6_strike : MethodName := ⟨RX6, "strike", "(II)I"⟩
abbrev cX6_at : ByteArray := prog_8_method_37_code
def yX6_at : MethodName := ⟨RX6, "at", "(II)I"⟩
abbrev cX6_judge : ByteArray := prog_8_method_38_code
def yX6_judge : MethodName := ⟨RX6, "judge", "(II)I"⟩
abbrev cX6_judged : ByteArray := prog_8_method_39_code
def yX6_judged : MethodName := ⟨RX6, "judged", "(II)I"⟩
abbrev cX6_due : ByteArray := prog_8_method_40_code
def yX6_due : MethodName := ⟨RX6, "due", "(II)I"⟩
abbrev cX6_right : ByteArray := prog_8_method_41_code
def yX6_right : MethodName := ⟨RX6, "right", "(I)I"⟩
abbrev cX6_firstShown : ByteArray := prog_8_method_42_code
def yX6_firstShown : MethodName := ⟨RX6, "firstShown", "(II)I"⟩
abbrev cX6_covered : ByteArray := prog_8_method_43_code
def yX6_covered : MethodName := ⟨RX6, "covered", "(II)I"⟩
abbrev cX6_shown : ByteArray := prog_8_method_44_code
def yX6_shown : MethodName := ⟨RX6, "shown", "(II)I"⟩
abbrev cX6_spare : ByteArray := prog_8_method_45_code
def yX6_spare : MethodName := ⟨RX6, "spare", "(II)I"⟩
abbrev cX6_ones : ByteArray := prog_8_method_46_code
def yX6_ones : MethodName := ⟨RX6, "ones", "(I)I"⟩
abbrev cX6_isSafe : ByteArray := prog_8_method_47_code
def yX6_isSafe : MethodName := ⟨RX6, "isSafe", "(I)Z"⟩
abbrev cX6_melt : ByteArray := prog_8_method_48_code
def yX6_melt : MethodName := ⟨RX6, "melt", "(III)I"⟩
abbrev cX6_over : ByteArray := prog_8_method_49_code
def yX6_over : MethodName := ⟨RX6, "over", "()I"⟩
abbrev cX6_differ : ByteArray := prog_8_method_50_code
def yX6_differ : MethodName := ⟨RX6, "differ", "()I"⟩
abbrev cX6_build : ByteArray := prog_8_method_51_code
def yX6_build : MethodName := ⟨RX6, "build", "(I)I"⟩
abbrev cX6_count : ByteArray := prog_8_method_52_code
def yX6_count : MethodName := ⟨RX6, "count", "(I)I"⟩
def RJ6 : String := "java/lang/Integer"
def TJ6 : u_T := fun k => match k with
  | _ => ("", "", "", false)
def tyJ6 : Nat → FieldType := fun k => match k with
  | _ => .int
abbrev wsJ60 : List Cond := u_ws RJ6 TJ6 0
theorem nmJ6 : ∀ a, a < 0 → ∀ b, b < 0 → a ≠ b → (TJ6 a).2.1 ≠ (TJ6 b).2.1 := by decide +kernel
theorem tyJ6_ok : ∀ k, k < 0 → parseFieldDescriptor (TJ6 k).2.2.1 = some (tyJ6 k) := by decide +kernel
abbrev cJ6_bitCount_0f7a4 : ByteArray := prog_9_method_49_code
def yJ6_bitCount_0f7a4 : MethodName := ⟨RJ6, "bitCount", "(I)I"⟩
def RJ9 : String := "java/lang/Math"
def TJ9 : u_T := fun k => match k with
  | _ => ("", "", "", false)
def tyJ9 : Nat → FieldType := fun k => match k with
  | _ => .int
abbrev wsJ90 : List Cond := u_ws RJ9 TJ9 0
theorem nmJ9 : ∀ a, a < 0 → ∀ b, b < 0 → a ≠ b → (TJ9 a).2.1 ≠ (TJ9 b).2.1 := by decide +kernel
theorem tyJ9_ok : ∀ k, k < 0 → parseFieldDescriptor (TJ9 k).2.2.1 = some (tyJ9 k) := by decide +kernel
abbrev cJ9_floorMod_7cf53 : ByteArray := prog_10_method_50_code
def yJ9_floorMod_7cf53 : MethodName := ⟨RJ9, "floorMod", "(II)I"⟩
abbrev cJ9_max_7cf53 : ByteArray := prog_10_method_65_code
def yJ9_max_7cf53 : MethodName := ⟨RJ9, "max", "(II)I"⟩
abbrev cJ9_min_7cf53 : ByteArray := prog_10_method_69_code
def yJ9_min_7cf53 : MethodName := ⟨RJ9, "min", "(II)I"⟩
def RJ7 : String := "java/util/Arrays"
def TJ7 : u_T := fun k => match k with
  | _ => ("", "", "", false)
def tyJ7 : Nat → FieldType := fun k => match k with
  | _ => .int
abbrev wsJ70 : List Cond := u_ws RJ7 TJ7 0
theorem nmJ7 : ∀ a, a < 0 → ∀ b, b < 0 → a ≠ b → (TJ7 a).2.1 ≠ (TJ7 b).2.1 := by decide +kernel
theorem tyJ7_ok : ∀ k, k < 0 → parseFieldDescriptor (TJ7 k).2.2.1 = some (tyJ7 k) := by decide +kernel
abbrev cJ7_fill_53178 : ByteArray := prog_11_method_103_code
def yJ7_fill_53178 : MethodName := ⟨RJ7, "fill", "([II)V"⟩
def RL : String := "MatchRowsLaw"
abbrev cL_law : ByteArray := code
def yL_law : MethodName := ⟨RL, "law", "([I)Z"⟩
abbrev vwCl : List vw_C := [(RX0, TX0, 7), (RX1, TX1, 3), (RX2, TX2, 5), (RX3, TX3, 11), (RX4, TX4, 3), (RX5, TX5, 9), (RX6, TX6, 25)]
theorem inX0 : ∀ w ∈ wsX00, w ∈ lw_tbl := by decide +kernel
theorem inX1 : ∀ w ∈ wsX10, w ∈ lw_tbl := by decide +kernel
theorem inX2 : ∀ w ∈ wsX20, w ∈ lw_tbl := by decide +kernel
theorem inX3 : ∀ w ∈ wsX30, w ∈ lw_tbl := by decide +kernel
theorem inX4 : ∀ w ∈ wsX40, w ∈ lw_tbl := by decide +kernel
theorem inX5 : ∀ w ∈ wsX50, w ∈ lw_tbl := by decide +kernel
theorem inX6 : ∀ w ∈ wsX60, w ∈ lw_tbl := by decide +kernel
end
section
/-! A small machine of my own, over numbers: what the bytecode does, as a function. Part 05 ties it to the machine of the claim. -/
abbrev PV : Type := Int ⊕ (Option Nat ⊕ Bool)
abbrev PS : Type := Nat × (Nat → Int)
abbrev PH : Type := List (Nat × Nat) × (Nat → Nat → Int) × (Nat → Nat → Option Nat) × PS
abbrev PI : Type := Nat × Nat × Nat × Nat × Nat × Int × List Nat
abbrev PT : Type := Nat × List PV × List PV × PH
abbrev PR : Type := List (Bool × PT) ⊕ ((Bool × Option PV) ⊕ (Nat × List PV × List PV))
abbrev PF : Type := Nat → Nat → Nat → Nat → Int → List Nat → Nat → List PV → List PV → PH → PR
abbrev zI (z : Int) : PV := .inl z
abbrev zR (r : Option Nat) : PV := .inr (.inl r)
abbrev zA (r : Nat) : PV := .inr (.inl (some r))
abbrev zU : PV := .inr (.inr false)
abbrev zS : PV := .inr (.inr true)
def zpl : PV → Bool
  | .inr (.inr _) => false
  | _ => true
def pgo (pc : Nat) (ls st : List PV) (h : PH) : PR := .inl [(true, (pc, ls, st, h))]
def pgi (c : Bool) (pc : Nat) (ls st : List PV) (h : PH) : PR := .inl [(c, (pc, ls, st, h))]
def pbr (c : Bool) (pc1 pc2 : Nat) (ls st : List PV) (h : PH) : PR := .inl [(c, (pc1, ls, st, h)), (true, (pc2, ls, st, h))]
def pko : PR := .inl []
-- numbers
def zad (a b : Int) : Int := (Int32.ofInt a + Int32.ofInt b).toInt
def zsb (a b : Int) : Int := (Int32.ofInt a - Int32.ofInt b).toInt
def zml (a b : Int) : Int := (Int32.ofInt a * Int32.ofInt b).toInt
def zdv (a b : Int) : Int := (Int32.ofInt a / Int32.ofInt b).toInt
def zrm (a b : Int) : Int := (Int32.ofInt a - Int32.ofInt a / Int32.ofInt b * Int32.ofInt b).toInt
def zan (a b : Int) : Int := (Int32.ofInt a &&& Int32.ofInt b).toInt
def zor (a b : Int) : Int := (Int32.ofInt a ||| Int32.ofInt b).toInt
def zxr (a b : Int) : Int := (Int32.ofInt a ^^^ Int32.ofInt b).toInt
def zsl (a b : Int) : Int := (Int32.ofInt a <<< (Int32.ofInt b &&& 31)).toInt
def zsr (a b : Int) : Int := (Int32.ofInt a >>> (Int32.ofInt b &&& 31)).toInt
def zus (a b : Int) : Int := (((Int32.ofInt a).toUInt32 >>> ((Int32.ofInt b).toUInt32 &&& Int32.toUInt32 31)).toInt32).toInt
def zib (i : Int) (n : Nat) : Bool := decide (0 ≤ i) && decide (i < (n : Int))
def zbb (x : Int) : Bool := decide (x = 0) || decide (x = 1)
def zs2 {α : Type} (f : Nat → Nat → α) (r k : Nat) (x : α) : Nat → Nat → α := fun i => if i = r then (fun j => if j = k then x else f r j) else f i
-- the instructions
def h_ilo : PF := fun len a _ _ _ _ pc ls st h => match ls[a]? with
  | some (.inl x) => pgo (pc + len) ls (.inl x :: st) h
  | _ => pko
def h_alo : PF := fun len a _ _ _ _ pc ls st h => match ls[a]? with
  | some (.inr (.inl r)) => pgo (pc + len) ls (.inr (.inl r) :: st) h
  | some (.inr (.inr true)) => pgo (pc + len) ls (.inr (.inr true) :: st) h
  | _ => pko
def h_ist : PF := fun len a _ _ _ _ pc ls st h => match st with
  | .inl x :: st' => cond (Nat.blt a ls.length) (pgo (pc + len) (ls.set a (.inl x)) st' h) pko
  | _ => pko
def h_ast : PF := fun len a _ _ _ _ pc ls st h => match st with
  | .inr (.inl r) :: st' => cond (Nat.blt a ls.length) (pgo (pc + len) (ls.set a (.inr (.inl r))) st' h) pko
  | _ => pko
def h_con : PF := fun len _ _ _ z _ pc ls st h => pgo (pc + len) ls (.inl z :: st) h
def h_nul : PF := fun len _ _ _ _ _ pc ls st h => pgo (pc + len) ls (.inr (.inl none) :: st) h
def h_gfi : PF := fun len a b _ _ _ pc ls st h => match st with
  | .inr (.inl (some r)) :: st' => match h.1[r]? with
    | some (c, n) => cond (Nat.beq c a && Nat.blt b n) (pgo (pc + len) ls (.inl (h.2.1 r b) :: st') h) pko
    | none => pko
  | _ => pko
def h_gfr : PF := fun len a b _ _ _ pc ls st h => match st with
  | .inr (.inl (some r)) :: st' => match h.1[r]? with
    | some (c, n) => cond (Nat.beq c a && Nat.blt b n) (pgo (pc + len) ls (.inr (.inl (h.2.2.1 r b)) :: st') h) pko
    | none => pko
  | _ => pko
def h_pfi : PF := fun len a b _ _ _ pc ls st h => match st with
  | .inl x :: .inr (.inl (some r)) :: st' => match h.1[r]? with
    | some (c, n) => cond (Nat.beq c a && Nat.blt b n) (pgo (pc + len) ls st' (h.1, zs2 h.2.1 r b x, h.2.2)) pko
    | none => pko
  | _ => pko
def h_pfr : PF := fun len a b _ _ _ pc ls st h => match st with
  | .inr (.inl x) :: .inr (.inl (some r)) :: st' => match h.1[r]? with
    | some (c, n) => cond (Nat.beq c a && Nat.blt b n) (pgo (pc + len) ls st' (h.1, h.2.1, zs2 h.2.2.1 r b x, h.2.2.2)) pko
    | none => pko
  | _ => pko
def h_ald (ty : Nat) : PF := fun len _ _ _ _ _ pc ls st h => match st with
  | .inl i :: .inr (.inl (some r)) :: st' => match h.1[r]? with
    | some (c, n) => cond (Nat.beq c ty) (pgi (zib i n) (pc + len) ls (.inl (h.2.1 r i.toNat) :: st') h) pko
    | none => pko
  | _ => pko
def h_iast : PF := fun len _ _ _ _ _ pc ls st h => match st with
  | .inl x :: .inl i :: .inr (.inl (some r)) :: st' => match h.1[r]? with
    | some (c, n) => cond (Nat.beq c 7) (pgi (zib i n) (pc + len) ls st' (h.1, zs2 h.2.1 r i.toNat x, h.2.2)) pko
    | none => pko
  | _ => pko
def h_zast : PF := fun len _ _ _ _ _ pc ls st h => match st with
  | .inl x :: .inl i :: .inr (.inl (some r)) :: st' => match h.1[r]? with
    | some (c, n) => cond (Nat.beq c 8) (pgi (zib i n && zbb x) (pc + len) ls st' (h.1, zs2 h.2.1 r i.toNat x, h.2.2)) pko
    | none => pko
  | _ => pko
def h_aln : PF := fun len _ _ _ _ _ pc ls st h => match st with
  | .inr (.inl (some r)) :: st' => match h.1[r]? with
    | some (c, n) => cond (Nat.beq c 7 || Nat.beq c 8) (pgo (pc + len) ls (.inl (n : Int) :: st') h) pko
    | none => pko
  | _ => pko
def h_bin (f : Int → Int → Int) : PF := fun len _ _ _ _ _ pc ls st h => match st with
  | .inl y :: .inl x :: st' => pgo (pc + len) ls (.inl (f x y) :: st') h
  | _ => pko
def h_bin0 (f : Int → Int → Int) : PF := fun len _ _ _ _ _ pc ls st h => match st with
  | .inl y :: .inl x :: st' => pgi (!decide (y = 0)) (pc + len) ls (.inl (f x y) :: st') h
  | _ => pko
def h_inc : PF := fun len a _ _ z _ pc ls st h => match ls[a]? with
  | some (.inl x) => pgo (pc + len) (ls.set a (.inl (zad x z))) st h
  | _ => pko
def h_gto : PF := fun _ _ _ d _ _ _ ls st h => pgo d ls st h
def zcm (c : Nat) (x y : Int) (pc1 pc2 : Nat) (ls st : List PV) (h : PH) : PR := match c with
  | 0 => pbr (decide (x = y)) pc1 pc2 ls st h
  | 1 => pbr (decide (x = y)) pc2 pc1 ls st h
  | 2 => pbr (decide (x < y)) pc1 pc2 ls st h
  | 3 => pbr (decide (x < y)) pc2 pc1 ls st h
  | 4 => pbr (decide (y < x)) pc1 pc2 ls st h
  | 5 => pbr (decide (y < x)) pc2 pc1 ls st h
  | _ => pko
def h_ifc : PF := fun len a _ d _ _ pc ls st h => match st with
  | .inl x :: st' => zcm a x 0 d (pc + len) ls st' h
  | _ => pko
def h_icm : PF := fun len a _ d _ _ pc ls st h => match st with
  | .inl y :: .inl x :: st' => zcm a x y d (pc + len) ls st' h
  | _ => pko
def h_ifn : PF := fun len _ _ d _ _ pc ls st h => match st with
  | .inr (.inl none) :: st' => pgo d ls st' h
  | .inr (.inl (some _)) :: st' => pgo (pc + len) ls st' h
  | _ => pko
def h_inn : PF := fun len _ _ d _ _ pc ls st h => match st with
  | .inr (.inl none) :: st' => pgo (pc + len) ls st' h
  | .inr (.inl (some _)) :: st' => pgo d ls st' h
  | _ => pko
def h_acn : PF := fun len _ _ d _ _ pc ls st h => match st with
  | .inr (.inl (some r)) :: .inr (.inl (some q)) :: st' => pbr (Nat.beq q r) (pc + len) d ls st' h
  | _ => pko
def h_tsw : PF := fun _ _ _ d _ ts _ ls st h => match st with
  | .inl x :: st' => .inl (ts.zipIdx.map (fun q => (decide (x = (q.2 : Int)), (q.1, ls, st', h))) ++ [(true, (d, ls, st', h))])
  | _ => pko
def h_nar : PF := fun len a _ _ _ _ pc ls st h => match st with
  | .inl n :: st' => pgi (decide (0 ≤ n) && decide (n < 1000000)) (pc + len) ls (.inr (.inl (some h.1.length)) :: st') (h.1 ++ [(a, n.toNat)], (fun i => if i = h.1.length then (fun _ => 0) else h.2.1 i), h.2.2)
  | _ => pko
def h_new : PF := fun len a b _ _ _ pc ls st h => pgo (pc + len) ls (.inr (.inl (some h.1.length)) :: st) (h.1 ++ [(a, b)], (fun i => if i = h.1.length then (fun _ => 0) else h.2.1 i), (fun i => if i = h.1.length then (fun _ => none) else h.2.2.1 i), h.2.2.2)
def h_dup : PF := fun len _ _ _ _ _ pc ls st h => match st with
  | v :: st' => pgo (pc + len) ls (v :: v :: st') h
  | _ => pko
def h_du2 : PF := fun len _ _ _ _ _ pc ls st h => match st with
  | v :: w :: st' => pgo (pc + len) ls (v :: w :: v :: w :: st') h
  | _ => pko
def h_pop : PF := fun len _ _ _ _ _ pc ls st h => match st with
  | _ :: st' => pgo (pc + len) ls st' h
  | _ => pko
def h_irt : PF := fun _ _ _ _ _ _ _ _ st _ => match st with
  | [.inl x] => .inr (.inl (true, some (.inl x)))
  | _ => pko
def h_zrt : PF := fun _ _ _ _ _ _ _ _ st _ => match st with
  | [.inl x] => .inr (.inl (zbb x, some (.inl x)))
  | _ => pko
def h_art : PF := fun _ _ _ _ _ _ _ _ st _ => match st with
  | [.inr (.inl r)] => .inr (.inl (true, some (.inr (.inl r))))
  | _ => pko
def h_vrt : PF := fun _ _ _ _ _ _ _ _ st _ => match st with
  | [] => .inr (.inl (true, none))
  | _ => pko
def h_oin : PF := fun len _ _ _ _ _ pc ls st h => match st with
  | .inr (.inl (some _)) :: st' => cond (Nat.blt st'.length 9) (pgo (pc + len) ls st' h) pko
  | _ => pko
def h_sln : PF := fun len _ _ _ _ _ pc ls st h => match st with
  | .inr (.inr true) :: st' => pgo (pc + len) ls (.inl (h.2.2.2.1 : Int) :: st') h
  | _ => pko
def h_sld : PF := fun len _ _ _ _ _ pc ls st h => match st with
  | .inl i :: .inr (.inr true) :: st' => pgi (zib i h.2.2.2.1) (pc + len) ls (.inl (h.2.2.2.2 i.toNat) :: st') h
  | _ => pko
/-- a call: b values, the receiver first where there is one, of the class z -/
def h_inv (recv : Bool) : PF := fun _ a b _ z _ _ _ st h => cond (Nat.ble b st.length && (st.take b).all zpl && Nat.blt (st.length - b) 9)
  (match recv, (st.take b).reverse with
    | false, as => .inr (.inr (a, as, st.drop b))
    | true, .inr (.inl (some r)) :: as => match h.1[r]? with
      | some (c, _) => cond (Nat.beq c z.toNat) (.inr (.inr (a, .inr (.inl (some r)) :: as, st.drop b))) pko
      | none => pko
    | true, _ => pko) pko
def ptab : List PF := [fun _ _ _ _ _ _ _ _ _ _ => pko, h_ilo, h_alo, h_ist, h_ast, h_con, h_nul, h_gfi, h_gfr, h_pfi, h_pfr, h_ald 7, h_iast, h_ald 8, h_zast, h_aln,
  h_bin zad, h_bin zsb, h_bin zml, h_bin0 zdv, h_bin0 zrm, h_bin zan, h_bin zor, h_bin zxr, h_bin zsl, h_bin zsr, h_bin zus,
  h_inc, h_gto, h_ifc, h_icm, h_ifn, h_inn, h_acn, h_tsw, h_nar, h_new, h_dup, h_du2, h_pop, h_inv true, h_irt, h_zrt, h_art, h_vrt, h_oin, h_sln, h_sld, h_inv true, h_inv false, h_inv true]
end
section
/-! the code of each method, by its places (laid by a program out of the printed names) -/
def zc_0 : List (Option PI) := [some (2, 1, 0, 0, 0, 0, []), some (45, 3, 0, 0, 3, 0, []), none, none, some (2, 1, 0, 0, 0, 0, []), some (5, 2, 0, 0, 0, 20, []), none, some (35, 2, 7, 0, 0, 0, []), none, some (10, 3, 0, 0, 9, 0, []), none, none, some (2, 1, 0, 0, 0, 0, []), some (5, 2, 0, 0, 0, 20, []), none, some (35, 2, 7, 0, 0, 0, []), none, some (10, 3, 0, 1, 15, 0, []), none, none, some (2, 1, 0, 0, 0, 0, []), some (5, 2, 0, 0, 0, 20, []), none, some (35, 2, 7, 0, 0, 0, []), none, some (10, 3, 0, 2, 18, 0, []), none, none, some (2, 1, 0, 0, 0, 0, []), some (5, 2, 0, 0, 0, 20, []), none, some (35, 2, 7, 0, 0, 0, []), none, some (10, 3, 0, 3, 21, 0, []), none, none, some (2, 1, 0, 0, 0, 0, []), some (5, 2, 0, 0, 0, 20, []), none, some (35, 2, 7, 0, 0, 0, []), none, some (10, 3, 0, 4, 24, 0, []), none, none, some (2, 1, 0, 0, 0, 0, []), some (5, 1, 0, 0, 0, 0, []), some (9, 3, 0, 5, 27, 0, []), none, none, some (2, 1, 0, 0, 0, 0, []), some (5, 1, 0, 0, 0, 0, []), some (9, 3, 0, 6, 31, 0, []), none, none, some (44, 1, 0, 0, 0, 0, [])] -- X0_init
def zc_1 : List (Option PI) := [some (2, 1, 0, 0, 0, 0, []), some (5, 1, 0, 0, 0, 0, []), some (9, 3, 0, 6, 31, 0, []), none, none, some (44, 1, 0, 0, 0, 0, [])] -- X0_forgetAll
def zc_2 : List (Option PI) := [some (2, 1, 0, 0, 0, 0, []), some (7, 3, 0, 6, 31, 0, []), none, none, some (41, 1, 0, 0, 0, 0, [])] -- X0_length
def zc_3 : List (Option PI) := [some (2, 1, 0, 0, 0, 0, []), some (7, 3, 0, 5, 27, 0, []), none, none, some (29, 3, 2, 0, 16, 0, []), none, none, some (2, 1, 0, 0, 0, 0, []), some (7, 3, 0, 5, 27, 0, []), none, none, some (5, 2, 0, 0, 0, 20, []), none, some (30, 3, 2, 0, 17, 0, []), none, none, some (44, 1, 0, 0, 0, 0, []), some (2, 1, 0, 0, 0, 0, []), some (8, 3, 0, 0, 9, 0, []), none, none, some (2, 1, 0, 0, 0, 0, []), some (7, 3, 0, 5, 27, 0, []), none, none, some (1, 1, 1, 0, 0, 0, []), some (12, 1, 0, 0, 0, 0, []), some (2, 1, 0, 0, 0, 0, []), some (8, 3, 0, 1, 15, 0, []), none, none, some (2, 1, 0, 0, 0, 0, []), some (7, 3, 0, 5, 27, 0, []), none, none, some (1, 1, 2, 0, 0, 0, []), some (12, 1, 0, 0, 0, 0, []), some (2, 1, 0, 0, 0, 0, []), some (8, 3, 0, 2, 18, 0, []), none, none, some (2, 1, 0, 0, 0, 0, []), some (7, 3, 0, 5, 27, 0, []), none, none, some (1, 1, 3, 0, 0, 0, []), some (12, 1, 0, 0, 0, 0, []), some (2, 1, 0, 0, 0, 0, []), some (8, 3, 0, 3, 21, 0, []), none, none, some (2, 1, 0, 0, 0, 0, []), some (7, 3, 0, 5, 27, 0, []), none, none, some (1, 2, 4, 0, 0, 0, []), none, some (12, 1, 0, 0, 0, 0, []), some (2, 1, 0, 0, 0, 0, []), some (8, 3, 0, 4, 24, 0, []), none, none, some (2, 1, 0, 0, 0, 0, []), some (7, 3, 0, 5, 27, 0, []), none, none, some (1, 2, 5, 0, 0, 0, []), none, some (12, 1, 0, 0, 0, 0, []), some (2, 1, 0, 0, 0, 0, []), some (2, 1, 0, 0, 0, 0, []), some (7, 3, 0, 5, 27, 0, []), none, none, some (5, 1, 0, 0, 0, 1, []), some (16, 1, 0, 0, 0, 0, []), some (5, 2, 0, 0, 0, 20, []), none, some (20, 1, 0, 0, 0, 0, []), some (9, 3, 0, 5, 27, 0, []), none, none, some (2, 1, 0, 0, 0, 0, []), some (2, 1, 0, 0, 0, 0, []), some (7, 3, 0, 6, 31, 0, []), none, none, some (5, 1, 0, 0, 0, 1, []), some (16, 1, 0, 0, 0, 0, []), some (5, 2, 0, 0, 0, 20, []), none, some (49, 3, 170, 2, 34, 0, []), none, none, some (9, 3, 0, 6, 31, 0, []), none, none, some (44, 1, 0, 0, 0, 0, [])] -- X0_push
def zc_4 : List (Option PI) := [some (2, 1, 0, 0, 0, 0, []), some (2, 1, 0, 0, 0, 0, []), some (40, 3, 5, 1, 40, 0, []), none, none, some (9, 3, 0, 5, 27, 0, []), none, none, some (2, 1, 0, 0, 0, 0, []), some (2, 1, 0, 0, 0, 0, []), some (7, 3, 0, 6, 31, 0, []), none, none, some (5, 1, 0, 0, 0, 1, []), some (17, 1, 0, 0, 0, 0, []), some (5, 1, 0, 0, 0, 0, []), some (49, 3, 169, 2, 44, 0, []), none, none, some (9, 3, 0, 6, 31, 0, []), none, none, some (44, 1, 0, 0, 0, 0, [])] -- X0_pop
def zc_5 : List (Option PI) := [some (2, 1, 0, 0, 0, 0, []), some (7, 3, 0, 5, 27, 0, []), none, none, some (5, 1, 0, 0, 0, 1, []), some (17, 1, 0, 0, 0, 0, []), some (5, 2, 0, 0, 0, 20, []), none, some (49, 3, 168, 2, 47, 0, []), none, none, some (41, 1, 0, 0, 0, 0, [])] -- X0_latest
def zc_6 : List (Option PI) := [some (2, 1, 0, 0, 0, 0, []), some (40, 3, 5, 1, 40, 0, []), none, none, some (3, 1, 2, 0, 0, 0, []), some (1, 1, 2, 0, 0, 0, []), some (29, 3, 2, 0, 21, 0, []), none, none, some (1, 1, 2, 0, 0, 0, []), some (2, 1, 1, 0, 0, 0, []), some (15, 1, 0, 0, 0, 0, []), some (30, 3, 3, 0, 21, 0, []), none, none, some (2, 1, 1, 0, 0, 0, []), some (1, 1, 2, 0, 0, 0, []), some (11, 1, 0, 0, 0, 0, []), some (28, 3, 0, 0, 22, 0, []), none, none, some (5, 1, 0, 0, 0, 0, []), some (41, 1, 0, 0, 0, 0, [])] -- X0_latestOf
def zc_7 : List (Option PI) := [some (2, 1, 0, 0, 0, 0, []), some (2, 1, 0, 0, 0, 0, []), some (8, 3, 0, 0, 9, 0, []), none, none, some (40, 3, 6, 2, 50, 0, []), none, none, some (41, 1, 0, 0, 0, 0, [])] -- X0_firstTable
def zc_8 : List (Option PI) := [some (2, 1, 0, 0, 0, 0, []), some (2, 1, 0, 0, 0, 0, []), some (8, 3, 0, 1, 15, 0, []), none, none, some (40, 3, 6, 2, 50, 0, []), none, none, some (41, 1, 0, 0, 0, 0, [])] -- X0_secondTable
def zc_9 : List (Option PI) := [some (2, 1, 0, 0, 0, 0, []), some (2, 1, 0, 0, 0, 0, []), some (8, 3, 0, 2, 18, 0, []), none, none, some (40, 3, 6, 2, 50, 0, []), none, none, some (41, 1, 0, 0, 0, 0, [])] -- X0_liveTable
def zc_10 : List (Option PI) := [some (2, 1, 0, 0, 0, 0, []), some (2, 1, 0, 0, 0, 0, []), some (8, 3, 0, 3, 21, 0, []), none, none, some (40, 3, 6, 2, 50, 0, []), none, none, some (41, 1, 0, 0, 0, 0, [])] -- X0_meltedRule
def zc_11 : List (Option PI) := [some (2, 1, 0, 0, 0, 0, []), some (2, 1, 0, 0, 0, 0, []), some (8, 3, 0, 4, 24, 0, []), none, none, some (40, 3, 6, 2, 50, 0, []), none, none, some (41, 1, 0, 0, 0, 0, [])] -- X0_meltedMask
def zc_12 : List (Option PI) := [some (2, 1, 0, 0, 0, 0, []), some (45, 3, 0, 0, 3, 0, []), none, none, some (2, 1, 0, 0, 0, 0, []), some (5, 2, 0, 0, 0, 16, []), none, some (35, 2, 7, 0, 0, 0, []), none, some (10, 3, 1, 0, 9, 0, []), none, none, some (2, 1, 0, 0, 0, 0, []), some (5, 2, 0, 0, 0, 16, []), none, some (35, 2, 7, 0, 0, 0, []), none, some (10, 3, 1, 1, 15, 0, []), none, none, some (2, 1, 0, 0, 0, 0, []), some (5, 1, 0, 0, 0, 0, []), some (9, 3, 1, 2, 18, 0, []), none, none, some (44, 1, 0, 0, 0, 0, [])] -- X1_init
def zc_13 : List (Option PI) := [some (2, 1, 0, 0, 0, 0, []), some (5, 1, 0, 0, 0, 0, []), some (9, 3, 1, 2, 18, 0, []), none, none, some (44, 1, 0, 0, 0, 0, [])] -- X1_forgetAll
def zc_14 : List (Option PI) := [some (2, 1, 0, 0, 0, 0, []), some (5, 1, 0, 0, 0, 0, []), some (1, 1, 1, 0, 0, 0, []), some (5, 2, 0, 0, 0, 16, []), none, some (49, 3, 170, 2, 22, 0, []), none, none, some (49, 3, 169, 2, 28, 0, []), none, none, some (9, 3, 1, 2, 18, 0, []), none, none, some (44, 1, 0, 0, 0, 0, [])] -- X1_setLength
def zc_15 : List (Option PI) := [some (2, 1, 0, 0, 0, 0, []), some (7, 3, 1, 2, 18, 0, []), none, none, some (41, 1, 0, 0, 0, 0, [])] -- X1_length
def zc_16 : List (Option PI) := [some (1, 1, 1, 0, 0, 0, []), some (29, 3, 2, 0, 44, 0, []), none, none, some (1, 1, 1, 0, 0, 0, []), some (2, 1, 0, 0, 0, 0, []), some (7, 3, 1, 2, 18, 0, []), none, none, some (30, 3, 3, 0, 44, 0, []), none, none, some (1, 1, 1, 0, 0, 0, []), some (2, 1, 0, 0, 0, 0, []), some (8, 3, 1, 0, 9, 0, []), none, none, some (15, 1, 0, 0, 0, 0, []), some (30, 3, 3, 0, 44, 0, []), none, none, some (1, 1, 1, 0, 0, 0, []), some (2, 1, 0, 0, 0, 0, []), some (8, 3, 1, 1, 15, 0, []), none, none, some (15, 1, 0, 0, 0, 0, []), some (30, 3, 3, 0, 44, 0, []), none, none, some (2, 1, 0, 0, 0, 0, []), some (8, 3, 1, 0, 9, 0, []), none, none, some (1, 1, 1, 0, 0, 0, []), some (1, 1, 2, 0, 0, 0, []), some (12, 1, 0, 0, 0, 0, []), some (2, 1, 0, 0, 0, 0, []), some (8, 3, 1, 1, 15, 0, []), none, none, some (1, 1, 1, 0, 0, 0, []), some (1, 1, 3, 0, 0, 0, []), some (12, 1, 0, 0, 0, 0, []), some (44, 1, 0, 0, 0, 0, [])] -- X1_set
def zc_17 : List (Option PI) := [some (1, 1, 1, 0, 0, 0, []), some (29, 3, 2, 0, 30, 0, []), none, none, some (1, 1, 1, 0, 0, 0, []), some (2, 1, 0, 0, 0, 0, []), some (7, 3, 1, 2, 18, 0, []), none, none, some (30, 3, 3, 0, 30, 0, []), none, none, some (1, 1, 1, 0, 0, 0, []), some (2, 1, 0, 0, 0, 0, []), some (8, 3, 1, 0, 9, 0, []), none, none, some (15, 1, 0, 0, 0, 0, []), some (30, 3, 3, 0, 30, 0, []), none, none, some (2, 1, 0, 0, 0, 0, []), some (8, 3, 1, 0, 9, 0, []), none, none, some (1, 1, 1, 0, 0, 0, []), some (11, 1, 0, 0, 0, 0, []), some (28, 3, 0, 0, 31, 0, []), none, none, some (5, 1, 0, 0, 0, (-1), []), some (41, 1, 0, 0, 0, 0, [])] -- X1_ruleOf
def zc_18 : List (Option PI) := [some (1, 1, 1, 0, 0, 0, []), some (29, 3, 2, 0, 30, 0, []), none, none, some (1, 1, 1, 0, 0, 0, []), some (2, 1, 0, 0, 0, 0, []), some (7, 3, 1, 2, 18, 0, []), none, none, some (30, 3, 3, 0, 30, 0, []), none, none, some (1, 1, 1, 0, 0, 0, []), some (2, 1, 0, 0, 0, 0, []), some (8, 3, 1, 1, 15, 0, []), none, none, some (15, 1, 0, 0, 0, 0, []), some (30, 3, 3, 0, 30, 0, []), none, none, some (2, 1, 0, 0, 0, 0, []), some (8, 3, 1, 1, 15, 0, []), none, none, some (1, 1, 1, 0, 0, 0, []), some (11, 1, 0, 0, 0, 0, []), some (28, 3, 0, 0, 31, 0, []), none, none, some (5, 1, 0, 0, 0, (-1), []), some (41, 1, 0, 0, 0, 0, [])] -- X1_placeOf
def zc_19 : List (Option PI) := [some (2, 1, 0, 0, 0, 0, []), some (45, 3, 0, 0, 3, 0, []), none, none, some (2, 1, 0, 0, 0, 0, []), some (5, 2, 0, 0, 0, 17, []), none, some (35, 2, 7, 0, 0, 0, []), none, some (10, 3, 2, 0, 9, 0, []), none, none, some (2, 1, 0, 0, 0, 0, []), some (5, 2, 0, 0, 0, 17, []), none, some (35, 2, 7, 0, 0, 0, []), none, some (10, 3, 2, 1, 15, 0, []), none, none, some (2, 1, 0, 0, 0, 0, []), some (5, 2, 0, 0, 0, 17, []), none, some (35, 2, 7, 0, 0, 0, []), none, some (10, 3, 2, 2, 18, 0, []), none, none, some (2, 1, 0, 0, 0, 0, []), some (5, 2, 0, 0, 0, 17, []), none, some (35, 2, 7, 0, 0, 0, []), none, some (10, 3, 2, 3, 21, 0, []), none, none, some (2, 1, 0, 0, 0, 0, []), some (5, 2, 0, 0, 0, 17, []), none, some (35, 2, 7, 0, 0, 0, []), none, some (10, 3, 2, 4, 24, 0, []), none, none, some (2, 1, 0, 0, 0, 0, []), some (8, 3, 2, 0, 9, 0, []), none, none, some (5, 1, 0, 0, 0, (-1), []), some (49, 3, 171, 2, 27, 0, []), none, none, some (44, 1, 0, 0, 0, 0, [])] -- X2_init
def zc_20 : List (Option PI) := [some (2, 1, 0, 0, 0, 0, []), some (8, 3, 2, 0, 9, 0, []), none, none, some (5, 1, 0, 0, 0, (-1), []), some (49, 3, 171, 2, 27, 0, []), none, none, some (44, 1, 0, 0, 0, 0, [])] -- X2_forgetAll
def zc_21 : List (Option PI) := [some (2, 1, 0, 0, 0, 0, []), some (1, 1, 1, 0, 0, 0, []), some (40, 3, 22, 2, 33, 2, []), none, none, some (29, 3, 0, 0, 15, 0, []), none, none, some (2, 1, 0, 0, 0, 0, []), some (8, 3, 2, 0, 9, 0, []), none, none, some (1, 1, 1, 0, 0, 0, []), some (5, 1, 0, 0, 0, (-1), []), some (12, 1, 0, 0, 0, 0, []), some (44, 1, 0, 0, 0, 0, [])] -- X2_forget
def zc_22 : List (Option PI) := [some (1, 1, 1, 0, 0, 0, []), some (29, 3, 2, 0, 14, 0, []), none, none, some (1, 1, 1, 0, 0, 0, []), some (5, 2, 0, 0, 0, 16, []), none, some (30, 3, 4, 0, 14, 0, []), none, none, some (5, 1, 0, 0, 0, 1, []), some (28, 3, 0, 0, 15, 0, []), none, none, some (5, 1, 0, 0, 0, 0, []), some (42, 1, 0, 0, 0, 0, [])] -- X2_isNumber
def zc_23 : List (Option PI) := [some (1, 1, 1, 0, 0, 0, []), some (29, 3, 2, 0, 24, 0, []), none, none, some (1, 1, 1, 0, 0, 0, []), some (5, 2, 0, 0, 0, 16, []), none, some (30, 3, 3, 0, 24, 0, []), none, none, some (2, 1, 0, 0, 0, 0, []), some (8, 3, 2, 0, 9, 0, []), none, none, some (1, 1, 1, 0, 0, 0, []), some (11, 1, 0, 0, 0, 0, []), some (5, 1, 0, 0, 0, (-1), []), some (30, 3, 0, 0, 24, 0, []), none, none, some (5, 1, 0, 0, 0, 1, []), some (28, 3, 0, 0, 25, 0, []), none, none, some (5, 1, 0, 0, 0, 0, []), some (42, 1, 0, 0, 0, 0, [])] -- X2_isInUse
def zc_24 : List (Option PI) := [some (5, 1, 0, 0, 0, 0, []), some (3, 1, 1, 0, 0, 0, []), some (5, 1, 0, 0, 0, 0, []), some (3, 1, 2, 0, 0, 0, []), some (1, 1, 2, 0, 0, 0, []), some (5, 2, 0, 0, 0, 16, []), none, some (30, 3, 3, 0, 29, 0, []), none, none, some (2, 1, 0, 0, 0, 0, []), some (8, 3, 2, 0, 9, 0, []), none, none, some (1, 1, 2, 0, 0, 0, []), some (11, 1, 0, 0, 0, 0, []), some (5, 1, 0, 0, 0, (-1), []), some (30, 3, 1, 0, 23, 0, []), none, none, some (27, 3, 1, 0, 0, 1, []), none, none, some (27, 3, 2, 0, 0, 1, []), none, none, some (28, 3, 0, 0, 4, 0, []), none, none, some (1, 1, 1, 0, 0, 0, []), some (41, 1, 0, 0, 0, 0, [])] -- X2_unused
def zc_25 : List (Option PI) := [some (5, 1, 0, 0, 0, 0, []), some (3, 1, 1, 0, 0, 0, []), some (1, 1, 1, 0, 0, 0, []), some (5, 2, 0, 0, 0, 16, []), none, some (30, 3, 3, 0, 26, 0, []), none, none, some (2, 1, 0, 0, 0, 0, []), some (8, 3, 2, 0, 9, 0, []), none, none, some (1, 1, 1, 0, 0, 0, []), some (11, 1, 0, 0, 0, 0, []), some (5, 1, 0, 0, 0, (-1), []), some (30, 3, 1, 0, 20, 0, []), none, none, some (1, 1, 1, 0, 0, 0, []), some (41, 1, 0, 0, 0, 0, []), some (27, 3, 1, 0, 0, 1, []), none, none, some (28, 3, 0, 0, 2, 0, []), none, none, some (5, 1, 0, 0, 0, (-1), []), some (41, 1, 0, 0, 0, 0, [])] -- X2_leastUnused
def zc_26 : List (Option PI) := [some (2, 1, 0, 0, 0, 0, []), some (1, 1, 1, 0, 0, 0, []), some (40, 3, 22, 2, 33, 2, []), none, none, some (29, 3, 0, 0, 46, 0, []), none, none, some (2, 1, 0, 0, 0, 0, []), some (8, 3, 2, 0, 9, 0, []), none, none, some (1, 1, 1, 0, 0, 0, []), some (1, 1, 2, 0, 0, 0, []), some (12, 1, 0, 0, 0, 0, []), some (2, 1, 0, 0, 0, 0, []), some (8, 3, 2, 1, 15, 0, []), none, none, some (1, 1, 1, 0, 0, 0, []), some (1, 1, 3, 0, 0, 0, []), some (12, 1, 0, 0, 0, 0, []), some (2, 1, 0, 0, 0, 0, []), some (8, 3, 2, 2, 18, 0, []), none, none, some (1, 1, 1, 0, 0, 0, []), some (1, 2, 4, 0, 0, 0, []), none, some (12, 1, 0, 0, 0, 0, []), some (2, 1, 0, 0, 0, 0, []), some (8, 3, 2, 3, 21, 0, []), none, none, some (1, 1, 1, 0, 0, 0, []), some (1, 2, 5, 0, 0, 0, []), none, some (12, 1, 0, 0, 0, 0, []), some (2, 1, 0, 0, 0, 0, []), some (8, 3, 2, 4, 24, 0, []), none, none, some (1, 1, 1, 0, 0, 0, []), some (1, 2, 6, 0, 0, 0, []), none, some (12, 1, 0, 0, 0, 0, []), some (44, 1, 0, 0, 0, 0, [])] -- X2_set
def zc_27 : List (Option PI) := [some (2, 1, 0, 0, 0, 0, []), some (1, 1, 1, 0, 0, 0, []), some (40, 3, 22, 2, 33, 2, []), none, none, some (29, 3, 0, 0, 15, 0, []), none, none, some (2, 1, 0, 0, 0, 0, []), some (8, 3, 2, 2, 18, 0, []), none, none, some (1, 1, 1, 0, 0, 0, []), some (1, 1, 2, 0, 0, 0, []), some (12, 1, 0, 0, 0, 0, []), some (44, 1, 0, 0, 0, 0, [])] -- X2_setMask
def zc_28 : List (Option PI) := [some (2, 1, 0, 0, 0, 0, []), some (1, 1, 1, 0, 0, 0, []), some (40, 3, 22, 2, 33, 2, []), none, none, some (29, 3, 0, 0, 15, 0, []), none, none, some (2, 1, 0, 0, 0, 0, []), some (8, 3, 2, 4, 24, 0, []), none, none, some (1, 1, 1, 0, 0, 0, []), some (1, 1, 2, 0, 0, 0, []), some (12, 1, 0, 0, 0, 0, []), some (44, 1, 0, 0, 0, 0, [])] -- X2_setAct
def zc_29 : List (Option PI) := [some (2, 1, 0, 0, 0, 0, []), some (1, 1, 1, 0, 0, 0, []), some (40, 3, 22, 2, 33, 2, []), none, none, some (29, 3, 0, 0, 17, 0, []), none, none, some (2, 1, 0, 0, 0, 0, []), some (8, 3, 2, 0, 9, 0, []), none, none, some (1, 1, 1, 0, 0, 0, []), some (11, 1, 0, 0, 0, 0, []), some (28, 3, 0, 0, 18, 0, []), none, none, some (5, 1, 0, 0, 0, (-1), []), some (41, 1, 0, 0, 0, 0, [])] -- X2_kindOf
def zc_30 : List (Option PI) := [some (2, 1, 0, 0, 0, 0, []), some (1, 1, 1, 0, 0, 0, []), some (40, 3, 22, 2, 33, 2, []), none, none, some (29, 3, 0, 0, 24, 0, []), none, none, some (2, 1, 0, 0, 0, 0, []), some (8, 3, 2, 1, 15, 0, []), none, none, some (1, 1, 1, 0, 0, 0, []), some (11, 1, 0, 0, 0, 0, []), some (2, 1, 0, 0, 0, 0, []), some (8, 3, 2, 2, 18, 0, []), none, none, some (1, 1, 1, 0, 0, 0, []), some (11, 1, 0, 0, 0, 0, []), some (21, 1, 0, 0, 0, 0, []), some (28, 3, 0, 0, 25, 0, []), none, none, some (5, 1, 0, 0, 0, 0, []), some (41, 1, 0, 0, 0, 0, [])] -- X2_valueOf
def zc_31 : List (Option PI) := [some (2, 1, 0, 0, 0, 0, []), some (1, 1, 1, 0, 0, 0, []), some (40, 3, 22, 2, 33, 2, []), none, none, some (29, 3, 0, 0, 17, 0, []), none, none, some (2, 1, 0, 0, 0, 0, []), some (8, 3, 2, 2, 18, 0, []), none, none, some (1, 1, 1, 0, 0, 0, []), some (11, 1, 0, 0, 0, 0, []), some (28, 3, 0, 0, 18, 0, []), none, none, some (5, 1, 0, 0, 0, 0, []), some (41, 1, 0, 0, 0, 0, [])] -- X2_maskOf
def zc_32 : List (Option PI) := [some (2, 1, 0, 0, 0, 0, []), some (1, 1, 1, 0, 0, 0, []), some (40, 3, 22, 2, 33, 2, []), none, none, some (29, 3, 0, 0, 17, 0, []), none, none, some (2, 1, 0, 0, 0, 0, []), some (8, 3, 2, 3, 21, 0, []), none, none, some (1, 1, 1, 0, 0, 0, []), some (11, 1, 0, 0, 0, 0, []), some (28, 3, 0, 0, 18, 0, []), none, none, some (5, 1, 0, 0, 0, 0, []), some (41, 1, 0, 0, 0, 0, [])] -- X2_rankOf
def zc_33 : List (Option PI) := [some (2, 1, 0, 0, 0, 0, []), some (1, 1, 1, 0, 0, 0, []), some (40, 3, 22, 2, 33, 2, []), none, none, some (29, 3, 0, 0, 17, 0, []), none, none, some (2, 1, 0, 0, 0, 0, []), some (8, 3, 2, 4, 24, 0, []), none, none, some (1, 1, 1, 0, 0, 0, []), some (11, 1, 0, 0, 0, 0, []), some (28, 3, 0, 0, 18, 0, []), none, none, some (5, 1, 0, 0, 0, (-1), []), some (41, 1, 0, 0, 0, 0, [])] -- X2_actOf
def zc_34 : List (Option PI) := [some (2, 1, 0, 0, 0, 0, []), some (1, 1, 1, 0, 0, 0, []), some (40, 3, 22, 2, 33, 2, []), none, none, some (29, 3, 0, 0, 30, 0, []), none, none, some (2, 1, 0, 0, 0, 0, []), some (8, 3, 2, 1, 15, 0, []), none, none, some (1, 1, 1, 0, 0, 0, []), some (11, 1, 0, 0, 0, 0, []), some (1, 1, 2, 0, 0, 0, []), some (23, 1, 0, 0, 0, 0, []), some (2, 1, 0, 0, 0, 0, []), some (8, 3, 2, 2, 18, 0, []), none, none, some (1, 1, 1, 0, 0, 0, []), some (11, 1, 0, 0, 0, 0, []), some (21, 1, 0, 0, 0, 0, []), some (29, 3, 1, 0, 30, 0, []), none, none, some (5, 1, 0, 0, 0, 1, []), some (28, 3, 0, 0, 31, 0, []), none, none, some (5, 1, 0, 0, 0, 0, []), some (42, 1, 0, 0, 0, 0, [])] -- X2_doesFit
def zc_35 : List (Option PI) := [some (2, 1, 0, 0, 0, 0, []), some (1, 1, 1, 0, 0, 0, []), some (40, 3, 22, 2, 33, 2, []), none, none, some (29, 3, 0, 0, 50, 0, []), none, none, some (2, 1, 0, 0, 0, 0, []), some (1, 1, 2, 0, 0, 0, []), some (40, 3, 22, 2, 33, 2, []), none, none, some (29, 3, 0, 0, 50, 0, []), none, none, some (2, 1, 0, 0, 0, 0, []), some (8, 3, 2, 1, 15, 0, []), none, none, some (1, 1, 1, 0, 0, 0, []), some (11, 1, 0, 0, 0, 0, []), some (2, 1, 0, 0, 0, 0, []), some (8, 3, 2, 1, 15, 0, []), none, none, some (1, 1, 2, 0, 0, 0, []), some (11, 1, 0, 0, 0, 0, []), some (23, 1, 0, 0, 0, 0, []), some (2, 1, 0, 0, 0, 0, []), some (8, 3, 2, 2, 18, 0, []), none, none, some (1, 1, 1, 0, 0, 0, []), some (11, 1, 0, 0, 0, 0, []), some (21, 1, 0, 0, 0, 0, []), some (2, 1, 0, 0, 0, 0, []), some (8, 3, 2, 2, 18, 0, []), none, none, some (1, 1, 2, 0, 0, 0, []), some (11, 1, 0, 0, 0, 0, []), some (21, 1, 0, 0, 0, 0, []), some (29, 3, 1, 0, 50, 0, []), none, none, some (5, 1, 0, 0, 0, 1, []), some (28, 3, 0, 0, 51, 0, []), none, none, some (5, 1, 0, 0, 0, 0, []), some (42, 1, 0, 0, 0, 0, [])] -- X2_doOverlap
def zc_36 : List (Option PI) := [some (2, 1, 0, 0, 0, 0, []), some (1, 1, 1, 0, 0, 0, []), some (40, 3, 22, 2, 33, 2, []), none, none, some (29, 3, 0, 0, 16, 0, []), none, none, some (2, 1, 0, 0, 0, 0, []), some (1, 1, 2, 0, 0, 0, []), some (40, 3, 22, 2, 33, 2, []), none, none, some (29, 3, 1, 0, 18, 0, []), none, none, some (5, 1, 0, 0, 0, 0, []), some (42, 1, 0, 0, 0, 0, []), some (2, 1, 0, 0, 0, 0, []), some (8, 3, 2, 3, 21, 0, []), none, none, some (1, 1, 1, 0, 0, 0, []), some (11, 1, 0, 0, 0, 0, []), some (2, 1, 0, 0, 0, 0, []), some (8, 3, 2, 3, 21, 0, []), none, none, some (1, 1, 2, 0, 0, 0, []), some (11, 1, 0, 0, 0, 0, []), some (30, 3, 4, 0, 53, 0, []), none, none, some (2, 1, 0, 0, 0, 0, []), some (8, 3, 2, 3, 21, 0, []), none, none, some (1, 1, 1, 0, 0, 0, []), some (11, 1, 0, 0, 0, 0, []), some (2, 1, 0, 0, 0, 0, []), some (8, 3, 2, 3, 21, 0, []), none, none, some (1, 1, 2, 0, 0, 0, []), some (11, 1, 0, 0, 0, 0, []), some (30, 3, 1, 0, 57, 0, []), none, none, some (1, 1, 1, 0, 0, 0, []), some (1, 1, 2, 0, 0, 0, []), some (30, 3, 3, 0, 57, 0, []), none, none, some (5, 1, 0, 0, 0, 1, []), some (28, 3, 0, 0, 58, 0, []), none, none, some (5, 1, 0, 0, 0, 0, []), some (42, 1, 0, 0, 0, 0, [])] -- X2_isHigher
def zc_37 : List (Option PI) := [some (2, 1, 0, 0, 0, 0, []), some (1, 1, 1, 0, 0, 0, []), some (40, 3, 31, 2, 37, 2, []), none, none, some (2, 1, 0, 0, 0, 0, []), some (1, 1, 2, 0, 0, 0, []), some (40, 3, 31, 2, 37, 2, []), none, none, some (30, 3, 1, 0, 26, 0, []), none, none, some (2, 1, 0, 0, 0, 0, []), some (1, 1, 1, 0, 0, 0, []), some (40, 3, 33, 2, 41, 2, []), none, none, some (2, 1, 0, 0, 0, 0, []), some (1, 1, 2, 0, 0, 0, []), some (40, 3, 33, 2, 41, 2, []), none, none, some (30, 3, 0, 0, 28, 0, []), none, none, some (5, 1, 0, 0, 0, 0, []), some (41, 1, 0, 0, 0, 0, []), some (2, 1, 0, 0, 0, 0, []), some (1, 1, 1, 0, 0, 0, []), some (40, 3, 30, 2, 44, 2, []), none, none, some (2, 1, 0, 0, 0, 0, []), some (1, 1, 2, 0, 0, 0, []), some (40, 3, 30, 2, 44, 2, []), none, none, some (23, 1, 0, 0, 0, 0, []), some (3, 1, 3, 0, 0, 0, []), some (1, 1, 3, 0, 0, 0, []), some (49, 3, 167, 1, 47, 0, []), none, none, some (5, 1, 0, 0, 0, 1, []), some (30, 3, 1, 0, 52, 0, []), none, none, some (1, 1, 3, 0, 0, 0, []), some (28, 3, 0, 0, 53, 0, []), none, none, some (5, 1, 0, 0, 0, 0, []), some (41, 1, 0, 0, 0, 0, [])] -- X2_bitApart
def zc_38 : List (Option PI) := [some (2, 1, 0, 0, 0, 0, []), some (45, 3, 0, 0, 3, 0, []), none, none, some (2, 1, 0, 0, 0, 0, []), some (5, 2, 0, 0, 0, 6, []), none, some (35, 2, 7, 0, 0, 0, []), none, some (10, 3, 3, 1, 9, 0, []), none, none, some (2, 1, 0, 0, 0, 0, []), some (5, 2, 0, 0, 0, 6, []), none, some (35, 2, 7, 0, 0, 0, []), none, some (10, 3, 3, 2, 15, 0, []), none, none, some (2, 1, 0, 0, 0, 0, []), some (5, 2, 0, 0, 0, 6, []), none, some (35, 2, 7, 0, 0, 0, []), none, some (10, 3, 3, 3, 18, 0, []), none, none, some (2, 1, 0, 0, 0, 0, []), some (5, 2, 0, 0, 0, 6, []), none, some (35, 2, 7, 0, 0, 0, []), none, some (10, 3, 3, 4, 21, 0, []), none, none, some (2, 1, 0, 0, 0, 0, []), some (5, 3, 0, 0, 0, 720, []), none, none, some (35, 2, 7, 0, 0, 0, []), none, some (10, 3, 3, 5, 24, 0, []), none, none, some (2, 1, 0, 0, 0, 0, []), some (5, 3, 0, 0, 0, 720, []), none, none, some (35, 2, 7, 0, 0, 0, []), none, some (10, 3, 3, 6, 27, 0, []), none, none, some (2, 1, 0, 0, 0, 0, []), some (5, 3, 0, 0, 0, 243, []), none, none, some (35, 2, 7, 0, 0, 0, []), none, some (10, 3, 3, 7, 30, 0, []), none, none, some (2, 1, 0, 0, 0, 0, []), some (5, 1, 0, 0, 0, 0, []), some (9, 3, 3, 8, 33, 0, []), none, none, some (2, 1, 0, 0, 0, 0, []), some (5, 1, 0, 0, 0, 0, []), some (9, 3, 3, 9, 37, 0, []), none, none, some (2, 1, 0, 0, 0, 0, []), some (5, 1, 0, 0, 0, 0, []), some (9, 3, 3, 10, 40, 0, []), none, none, some (2, 1, 0, 0, 0, 0, []), some (2, 1, 1, 0, 0, 0, []), some (10, 3, 3, 0, 43, 0, []), none, none, some (44, 1, 0, 0, 0, 0, [])] -- X3_init
def zc_39 : List (Option PI) := [some (2, 1, 3, 0, 0, 0, []), some (40, 3, 13, 1, 47, 1, []), none, none, some (2, 1, 0, 0, 0, 0, []), some (2, 1, 1, 0, 0, 0, []), some (1, 1, 2, 0, 0, 0, []), some (40, 3, 40, 3, 52, 3, []), none, none, some (2, 1, 0, 0, 0, 0, []), some (8, 3, 3, 7, 30, 0, []), none, none, some (5, 1, 0, 0, 0, 0, []), some (49, 3, 171, 2, 56, 0, []), none, none, some (2, 1, 0, 0, 0, 0, []), some (5, 1, 0, 0, 0, 0, []), some (9, 3, 3, 8, 33, 0, []), none, none, some (2, 1, 0, 0, 0, 0, []), some (2, 1, 0, 0, 0, 0, []), some (40, 3, 42, 1, 62, 3, []), none, none, some (5, 1, 0, 0, 0, (-1), []), some (40, 3, 44, 3, 66, 3, []), none, none, some (5, 1, 0, 0, 0, 0, []), some (3, 2, 4, 0, 0, 0, []), none, some (1, 2, 4, 0, 0, 0, []), none, some (5, 3, 0, 0, 0, 720, []), none, none, some (30, 3, 3, 0, 112, 0, []), none, none, some (1, 2, 4, 0, 0, 0, []), none, some (2, 1, 0, 0, 0, 0, []), some (7, 3, 3, 8, 33, 0, []), none, none, some (30, 3, 3, 0, 112, 0, []), none, none, some (2, 1, 0, 0, 0, 0, []), some (2, 1, 0, 0, 0, 0, []), some (8, 3, 3, 5, 24, 0, []), none, none, some (1, 2, 4, 0, 0, 0, []), none, some (11, 1, 0, 0, 0, 0, []), some (40, 3, 43, 2, 70, 3, []), none, none, some (2, 1, 0, 0, 0, 0, []), some (2, 1, 0, 0, 0, 0, []), some (7, 3, 3, 9, 37, 0, []), none, none, some (40, 3, 50, 2, 74, 3, []), none, none, some (3, 2, 5, 0, 0, 0, []), none, some (1, 2, 5, 0, 0, 0, []), none, some (5, 1, 0, 0, 0, (-1), []), some (30, 3, 0, 0, 100, 0, []), none, none, some (2, 1, 0, 0, 0, 0, []), some (1, 2, 4, 0, 0, 0, []), none, some (2, 1, 3, 0, 0, 0, []), some (40, 3, 51, 3, 78, 3, []), none, none, some (2, 1, 3, 0, 0, 0, []), some (2, 1, 3, 0, 0, 0, []), some (40, 3, 15, 1, 82, 1, []), none, none, some (5, 1, 0, 0, 0, 1, []), some (17, 1, 0, 0, 0, 0, []), some (1, 1, 2, 0, 0, 0, []), some (1, 2, 5, 0, 0, 0, []), none, some (40, 3, 16, 4, 85, 1, []), none, none, some (44, 1, 0, 0, 0, 0, []), some (2, 1, 0, 0, 0, 0, []), some (1, 2, 4, 0, 0, 0, []), none, some (40, 3, 45, 2, 89, 3, []), none, none, some (27, 3, 4, 0, 0, 1, []), none, none, some (28, 3, 0, 0, 35, 0, []), none, none, some (44, 1, 0, 0, 0, 0, [])] -- X3_find
def zc_40 : List (Option PI) := [some (2, 1, 0, 0, 0, 0, []), some (2, 1, 1, 0, 0, 0, []), some (40, 3, 57, 1, 92, 4, []), none, none, some (5, 2, 0, 0, 0, 6, []), none, some (49, 3, 170, 2, 96, 0, []), none, none, some (9, 3, 3, 10, 40, 0, []), none, none, some (2, 1, 0, 0, 0, 0, []), some (5, 1, 0, 0, 0, 0, []), some (9, 3, 3, 9, 37, 0, []), none, none, some (5, 1, 0, 0, 0, 0, []), some (3, 1, 3, 0, 0, 0, []), some (1, 1, 3, 0, 0, 0, []), some (5, 2, 0, 0, 0, 16, []), none, some (30, 3, 3, 0, 84, 0, []), none, none, some (2, 1, 0, 0, 0, 0, []), some (7, 3, 3, 9, 37, 0, []), none, none, some (5, 1, 0, 0, 0, 5, []), some (30, 3, 3, 0, 84, 0, []), none, none, some (2, 1, 1, 0, 0, 0, []), some (1, 1, 3, 0, 0, 0, []), some (40, 3, 60, 2, 102, 4, []), none, none, some (3, 2, 4, 0, 0, 0, []), none, some (1, 2, 4, 0, 0, 0, []), none, some (5, 1, 0, 0, 0, (-1), []), some (30, 3, 0, 0, 78, 0, []), none, none, some (2, 1, 0, 0, 0, 0, []), some (8, 3, 3, 1, 9, 0, []), none, none, some (2, 1, 0, 0, 0, 0, []), some (7, 3, 3, 9, 37, 0, []), none, none, some (1, 1, 3, 0, 0, 0, []), some (12, 1, 0, 0, 0, 0, []), some (2, 1, 0, 0, 0, 0, []), some (8, 3, 3, 4, 21, 0, []), none, none, some (2, 1, 0, 0, 0, 0, []), some (7, 3, 3, 9, 37, 0, []), none, none, some (1, 2, 4, 0, 0, 0, []), none, some (12, 1, 0, 0, 0, 0, []), some (2, 1, 0, 0, 0, 0, []), some (37, 1, 0, 0, 0, 0, []), some (7, 3, 3, 9, 37, 0, []), none, none, some (5, 1, 0, 0, 0, 1, []), some (16, 1, 0, 0, 0, 0, []), some (9, 3, 3, 9, 37, 0, []), none, none, some (27, 3, 3, 0, 0, 1, []), none, none, some (28, 3, 0, 0, 20, 0, []), none, none, some (2, 1, 0, 0, 0, 0, []), some (7, 3, 3, 9, 37, 0, []), none, none, some (29, 3, 2, 0, 113, 0, []), none, none, some (2, 1, 0, 0, 0, 0, []), some (7, 3, 3, 9, 37, 0, []), none, none, some (2, 1, 0, 0, 0, 0, []), some (8, 3, 3, 1, 9, 0, []), none, none, some (15, 1, 0, 0, 0, 0, []), some (30, 3, 3, 0, 113, 0, []), none, none, some (2, 1, 0, 0, 0, 0, []), some (8, 3, 3, 1, 9, 0, []), none, none, some (2, 1, 0, 0, 0, 0, []), some (7, 3, 3, 9, 37, 0, []), none, none, some (1, 1, 2, 0, 0, 0, []), some (12, 1, 0, 0, 0, 0, []), some (5, 1, 0, 0, 0, 0, []), some (3, 1, 3, 0, 0, 0, []), some (1, 1, 3, 0, 0, 0, []), some (2, 1, 0, 0, 0, 0, []), some (7, 3, 3, 9, 37, 0, []), none, none, some (30, 3, 4, 0, 140, 0, []), none, none, some (1, 1, 3, 0, 0, 0, []), some (5, 2, 0, 0, 0, 6, []), none, some (30, 3, 3, 0, 140, 0, []), none, none, some (2, 1, 0, 0, 0, 0, []), some (1, 1, 3, 0, 0, 0, []), some (40, 3, 41, 2, 105, 3, []), none, none, some (27, 3, 3, 0, 0, 1, []), none, none, some (28, 3, 0, 0, 115, 0, []), none, none, some (44, 1, 0, 0, 0, 0, [])] -- X3_gather
def zc_41 : List (Option PI) := [some (1, 1, 1, 0, 0, 0, []), some (29, 3, 2, 0, 10, 0, []), none, none, some (1, 1, 1, 0, 0, 0, []), some (5, 2, 0, 0, 0, 6, []), none, some (30, 3, 2, 0, 11, 0, []), none, none, some (44, 1, 0, 0, 0, 0, []), some (2, 1, 0, 0, 0, 0, []), some (8, 3, 3, 2, 15, 0, []), none, none, some (1, 1, 1, 0, 0, 0, []), some (5, 1, 0, 0, 0, 0, []), some (12, 1, 0, 0, 0, 0, []), some (2, 1, 0, 0, 0, 0, []), some (8, 3, 3, 3, 18, 0, []), none, none, some (1, 1, 1, 0, 0, 0, []), some (5, 1, 0, 0, 0, 0, []), some (12, 1, 0, 0, 0, 0, []), some (5, 1, 0, 0, 0, 0, []), some (3, 1, 2, 0, 0, 0, []), some (1, 1, 2, 0, 0, 0, []), some (2, 1, 0, 0, 0, 0, []), some (7, 3, 3, 9, 37, 0, []), none, none, some (30, 3, 3, 0, 123, 0, []), none, none, some (1, 1, 2, 0, 0, 0, []), some (5, 2, 0, 0, 0, 6, []), none, some (30, 3, 3, 0, 123, 0, []), none, none, some (1, 1, 2, 0, 0, 0, []), some (1, 1, 1, 0, 0, 0, []), some (30, 3, 0, 0, 117, 0, []), none, none, some (2, 1, 0, 0, 0, 0, []), some (8, 3, 3, 0, 43, 0, []), none, none, some (2, 1, 0, 0, 0, 0, []), some (8, 3, 3, 1, 9, 0, []), none, none, some (1, 1, 1, 0, 0, 0, []), some (11, 1, 0, 0, 0, 0, []), some (2, 1, 0, 0, 0, 0, []), some (8, 3, 3, 1, 9, 0, []), none, none, some (1, 1, 2, 0, 0, 0, []), some (11, 1, 0, 0, 0, 0, []), some (40, 3, 35, 3, 108, 2, []), none, none, some (29, 3, 0, 0, 117, 0, []), none, none, some (2, 1, 0, 0, 0, 0, []), some (8, 3, 3, 0, 43, 0, []), none, none, some (2, 1, 0, 0, 0, 0, []), some (8, 3, 3, 1, 9, 0, []), none, none, some (1, 1, 2, 0, 0, 0, []), some (11, 1, 0, 0, 0, 0, []), some (2, 1, 0, 0, 0, 0, []), some (8, 3, 3, 1, 9, 0, []), none, none, some (1, 1, 1, 0, 0, 0, []), some (11, 1, 0, 0, 0, 0, []), some (40, 3, 36, 3, 114, 2, []), none, none, some (29, 3, 0, 0, 105, 0, []), none, none, some (2, 1, 0, 0, 0, 0, []), some (8, 3, 3, 2, 15, 0, []), none, none, some (1, 1, 1, 0, 0, 0, []), some (38, 1, 0, 0, 0, 0, []), some (11, 1, 0, 0, 0, 0, []), some (5, 1, 0, 0, 0, 1, []), some (1, 1, 2, 0, 0, 0, []), some (24, 1, 0, 0, 0, 0, []), some (22, 1, 0, 0, 0, 0, []), some (12, 1, 0, 0, 0, 0, []), some (28, 3, 0, 0, 117, 0, []), none, none, some (2, 1, 0, 0, 0, 0, []), some (8, 3, 3, 3, 18, 0, []), none, none, some (1, 1, 1, 0, 0, 0, []), some (38, 1, 0, 0, 0, 0, []), some (11, 1, 0, 0, 0, 0, []), some (5, 1, 0, 0, 0, 1, []), some (1, 1, 2, 0, 0, 0, []), some (24, 1, 0, 0, 0, 0, []), some (22, 1, 0, 0, 0, 0, []), some (12, 1, 0, 0, 0, 0, []), some (27, 3, 2, 0, 0, 1, []), none, none, some (28, 3, 0, 0, 27, 0, []), none, none, some (44, 1, 0, 0, 0, 0, [])] -- X3_relate
def zc_42 : List (Option PI) := [some (5, 1, 0, 0, 0, 0, []), some (3, 1, 1, 0, 0, 0, []), some (2, 1, 0, 0, 0, 0, []), some (7, 3, 3, 9, 37, 0, []), none, none, some (5, 2, 0, 0, 0, 6, []), none, some (49, 3, 170, 2, 96, 0, []), none, none, some (5, 1, 0, 0, 0, 1, []), some (17, 1, 0, 0, 0, 0, []), some (3, 1, 2, 0, 0, 0, []), some (1, 1, 2, 0, 0, 0, []), some (29, 3, 2, 0, 36, 0, []), none, none, some (1, 1, 1, 0, 0, 0, []), some (5, 2, 0, 0, 0, 6, []), none, some (18, 1, 0, 0, 0, 0, []), some (2, 1, 0, 0, 0, 0, []), some (8, 3, 3, 4, 21, 0, []), none, none, some (1, 1, 2, 0, 0, 0, []), some (11, 1, 0, 0, 0, 0, []), some (16, 1, 0, 0, 0, 0, []), some (3, 1, 1, 0, 0, 0, []), some (27, 3, 2, 0, 0, (-1), []), none, none, some (28, 3, 0, 0, 14, 0, []), none, none, some (1, 1, 1, 0, 0, 0, []), some (41, 1, 0, 0, 0, 0, [])] -- X3_code
def zc_43 : List (Option PI) := [some (1, 1, 1, 0, 0, 0, []), some (3, 1, 2, 0, 0, 0, []), some (5, 1, 0, 0, 0, 0, []), some (3, 1, 3, 0, 0, 0, []), some (1, 1, 3, 0, 0, 0, []), some (2, 1, 0, 0, 0, 0, []), some (7, 3, 3, 9, 37, 0, []), none, none, some (30, 3, 3, 0, 39, 0, []), none, none, some (1, 1, 3, 0, 0, 0, []), some (5, 2, 0, 0, 0, 6, []), none, some (30, 3, 3, 0, 39, 0, []), none, none, some (2, 1, 0, 0, 0, 0, []), some (8, 3, 3, 4, 21, 0, []), none, none, some (1, 1, 3, 0, 0, 0, []), some (1, 1, 2, 0, 0, 0, []), some (5, 2, 0, 0, 0, 6, []), none, some (20, 1, 0, 0, 0, 0, []), some (12, 1, 0, 0, 0, 0, []), some (1, 1, 2, 0, 0, 0, []), some (5, 2, 0, 0, 0, 6, []), none, some (19, 1, 0, 0, 0, 0, []), some (3, 1, 2, 0, 0, 0, []), some (27, 3, 3, 0, 0, 1, []), none, none, some (28, 3, 0, 0, 4, 0, []), none, none, some (44, 1, 0, 0, 0, 0, [])] -- X3_arrange
def zc_44 : List (Option PI) := [some (1, 1, 1, 0, 0, 0, []), some (5, 2, 0, 0, 0, 32, []), none, some (19, 1, 0, 0, 0, 0, []), some (3, 1, 3, 0, 0, 0, []), some (5, 1, 0, 0, 0, 1, []), some (1, 1, 1, 0, 0, 0, []), some (5, 2, 0, 0, 0, 32, []), none, some (20, 1, 0, 0, 0, 0, []), some (24, 1, 0, 0, 0, 0, []), some (3, 2, 4, 0, 0, 0, []), none, some (1, 1, 3, 0, 0, 0, []), some (29, 3, 2, 0, 36, 0, []), none, none, some (1, 1, 3, 0, 0, 0, []), some (5, 3, 0, 0, 0, 243, []), none, none, some (30, 3, 3, 0, 36, 0, []), none, none, some (2, 1, 0, 0, 0, 0, []), some (8, 3, 3, 7, 30, 0, []), none, none, some (1, 1, 3, 0, 0, 0, []), some (11, 1, 0, 0, 0, 0, []), some (1, 2, 4, 0, 0, 0, []), none, some (21, 1, 0, 0, 0, 0, []), some (29, 3, 0, 0, 40, 0, []), none, none, some (5, 1, 0, 0, 0, 1, []), some (28, 3, 0, 0, 41, 0, []), none, none, some (5, 1, 0, 0, 0, 0, []), some (3, 2, 5, 0, 0, 0, []), none, some (1, 2, 5, 0, 0, 0, []), none, some (29, 3, 1, 0, 106, 0, []), none, none, some (2, 1, 0, 0, 0, 0, []), some (7, 3, 3, 8, 33, 0, []), none, none, some (29, 3, 2, 0, 106, 0, []), none, none, some (2, 1, 0, 0, 0, 0, []), some (7, 3, 3, 8, 33, 0, []), none, none, some (5, 3, 0, 0, 0, 720, []), none, none, some (30, 3, 3, 0, 106, 0, []), none, none, some (2, 1, 0, 0, 0, 0, []), some (8, 3, 3, 7, 30, 0, []), none, none, some (1, 1, 3, 0, 0, 0, []), some (38, 1, 0, 0, 0, 0, []), some (11, 1, 0, 0, 0, 0, []), some (1, 2, 4, 0, 0, 0, []), none, some (22, 1, 0, 0, 0, 0, []), some (12, 1, 0, 0, 0, 0, []), some (2, 1, 0, 0, 0, 0, []), some (8, 3, 3, 5, 24, 0, []), none, none, some (2, 1, 0, 0, 0, 0, []), some (7, 3, 3, 8, 33, 0, []), none, none, some (1, 1, 1, 0, 0, 0, []), some (12, 1, 0, 0, 0, 0, []), some (2, 1, 0, 0, 0, 0, []), some (8, 3, 3, 6, 27, 0, []), none, none, some (2, 1, 0, 0, 0, 0, []), some (7, 3, 3, 8, 33, 0, []), none, none, some (1, 1, 2, 0, 0, 0, []), some (12, 1, 0, 0, 0, 0, []), some (2, 1, 0, 0, 0, 0, []), some (37, 1, 0, 0, 0, 0, []), some (7, 3, 3, 8, 33, 0, []), none, none, some (5, 1, 0, 0, 0, 1, []), some (16, 1, 0, 0, 0, 0, []), some (9, 3, 3, 8, 33, 0, []), none, none, some (44, 1, 0, 0, 0, 0, [])] -- X3_reach
def zc_45 : List (Option PI) := [some (2, 1, 0, 0, 0, 0, []), some (40, 3, 46, 1, 117, 3, []), none, none, some (3, 1, 2, 0, 0, 0, []), some (5, 1, 0, 0, 0, 0, []), some (3, 1, 3, 0, 0, 0, []), some (1, 1, 3, 0, 0, 0, []), some (2, 1, 0, 0, 0, 0, []), some (7, 3, 3, 9, 37, 0, []), none, none, some (30, 3, 3, 0, 103, 0, []), none, none, some (1, 1, 3, 0, 0, 0, []), some (5, 2, 0, 0, 0, 6, []), none, some (30, 3, 3, 0, 103, 0, []), none, none, some (2, 1, 0, 0, 0, 0, []), some (8, 3, 3, 4, 21, 0, []), none, none, some (1, 1, 3, 0, 0, 0, []), some (11, 1, 0, 0, 0, 0, []), some (3, 2, 4, 0, 0, 0, []), none, some (2, 1, 0, 0, 0, 0, []), some (1, 1, 3, 0, 0, 0, []), some (40, 3, 48, 2, 120, 3, []), none, none, some (3, 2, 5, 0, 0, 0, []), none, some (2, 1, 0, 0, 0, 0, []), some (1, 1, 3, 0, 0, 0, []), some (40, 3, 47, 2, 123, 3, []), none, none, some (3, 2, 6, 0, 0, 0, []), none, some (1, 2, 6, 0, 0, 0, []), none, some (1, 2, 5, 0, 0, 0, []), none, some (30, 3, 3, 0, 89, 0, []), none, none, some (1, 2, 6, 0, 0, 0, []), none, some (5, 2, 0, 0, 0, 6, []), none, some (30, 3, 3, 0, 89, 0, []), none, none, some (1, 1, 2, 0, 0, 0, []), some (5, 1, 0, 0, 0, 1, []), some (1, 2, 6, 0, 0, 0, []), none, some (24, 1, 0, 0, 0, 0, []), some (21, 1, 0, 0, 0, 0, []), some (29, 3, 1, 0, 83, 0, []), none, none, some (2, 1, 0, 0, 0, 0, []), some (8, 3, 3, 4, 21, 0, []), none, none, some (1, 1, 3, 0, 0, 0, []), some (1, 2, 6, 0, 0, 0, []), none, some (12, 1, 0, 0, 0, 0, []), some (2, 1, 0, 0, 0, 0, []), some (2, 1, 0, 0, 0, 0, []), some (40, 3, 42, 1, 62, 3, []), none, none, some (1, 1, 1, 0, 0, 0, []), some (40, 3, 44, 3, 66, 3, []), none, none, some (27, 3, 6, 0, 0, 1, []), none, none, some (28, 3, 0, 0, 43, 0, []), none, none, some (2, 1, 0, 0, 0, 0, []), some (8, 3, 3, 4, 21, 0, []), none, none, some (1, 1, 3, 0, 0, 0, []), some (1, 2, 4, 0, 0, 0, []), none, some (12, 1, 0, 0, 0, 0, []), some (27, 3, 3, 0, 0, 1, []), none, none, some (28, 3, 0, 0, 7, 0, []), none, none, some (44, 1, 0, 0, 0, 0, [])] -- X3_widen
def zc_46 : List (Option PI) := [some (5, 1, 0, 0, 0, 0, []), some (3, 1, 1, 0, 0, 0, []), some (5, 1, 0, 0, 0, 0, []), some (3, 1, 2, 0, 0, 0, []), some (1, 1, 2, 0, 0, 0, []), some (2, 1, 0, 0, 0, 0, []), some (7, 3, 3, 9, 37, 0, []), none, none, some (30, 3, 3, 0, 35, 0, []), none, none, some (1, 1, 2, 0, 0, 0, []), some (5, 2, 0, 0, 0, 6, []), none, some (30, 3, 3, 0, 35, 0, []), none, none, some (1, 1, 1, 0, 0, 0, []), some (5, 1, 0, 0, 0, 1, []), some (2, 1, 0, 0, 0, 0, []), some (8, 3, 3, 4, 21, 0, []), none, none, some (1, 1, 2, 0, 0, 0, []), some (11, 1, 0, 0, 0, 0, []), some (24, 1, 0, 0, 0, 0, []), some (22, 1, 0, 0, 0, 0, []), some (3, 1, 1, 0, 0, 0, []), some (27, 3, 2, 0, 0, 1, []), none, none, some (28, 3, 0, 0, 4, 0, []), none, none, some (1, 1, 1, 0, 0, 0, []), some (41, 1, 0, 0, 0, 0, [])] -- X3_placesTaken
def zc_47 : List (Option PI) := [some (5, 1, 0, 0, 0, 0, []), some (3, 1, 2, 0, 0, 0, []), some (5, 1, 0, 0, 0, 0, []), some (3, 1, 3, 0, 0, 0, []), some (1, 1, 3, 0, 0, 0, []), some (2, 1, 0, 0, 0, 0, []), some (7, 3, 3, 9, 37, 0, []), none, none, some (30, 3, 3, 0, 49, 0, []), none, none, some (1, 1, 3, 0, 0, 0, []), some (5, 2, 0, 0, 0, 6, []), none, some (30, 3, 3, 0, 49, 0, []), none, none, some (2, 1, 0, 0, 0, 0, []), some (8, 3, 3, 2, 15, 0, []), none, none, some (1, 1, 1, 0, 0, 0, []), some (1, 1, 3, 0, 0, 0, []), some (49, 3, 49, 3, 126, 0, []), none, none, some (29, 3, 0, 0, 43, 0, []), none, none, some (1, 1, 2, 0, 0, 0, []), some (2, 1, 0, 0, 0, 0, []), some (8, 3, 3, 4, 21, 0, []), none, none, some (1, 1, 3, 0, 0, 0, []), some (11, 1, 0, 0, 0, 0, []), some (5, 1, 0, 0, 0, 1, []), some (16, 1, 0, 0, 0, 0, []), some (49, 3, 169, 2, 130, 0, []), none, none, some (3, 1, 2, 0, 0, 0, []), some (27, 3, 3, 0, 0, 1, []), none, none, some (28, 3, 0, 0, 4, 0, []), none, none, some (1, 1, 2, 0, 0, 0, []), some (41, 1, 0, 0, 0, 0, [])] -- X3_startOfRoom
def zc_48 : List (Option PI) := [some (2, 1, 0, 0, 0, 0, []), some (7, 3, 3, 10, 40, 0, []), none, none, some (3, 1, 2, 0, 0, 0, []), some (5, 1, 0, 0, 0, 0, []), some (3, 1, 3, 0, 0, 0, []), some (1, 1, 3, 0, 0, 0, []), some (2, 1, 0, 0, 0, 0, []), some (7, 3, 3, 9, 37, 0, []), none, none, some (30, 3, 3, 0, 50, 0, []), none, none, some (1, 1, 3, 0, 0, 0, []), some (5, 2, 0, 0, 0, 6, []), none, some (30, 3, 3, 0, 50, 0, []), none, none, some (2, 1, 0, 0, 0, 0, []), some (8, 3, 3, 3, 18, 0, []), none, none, some (1, 1, 1, 0, 0, 0, []), some (1, 1, 3, 0, 0, 0, []), some (49, 3, 49, 3, 126, 0, []), none, none, some (29, 3, 0, 0, 44, 0, []), none, none, some (1, 1, 2, 0, 0, 0, []), some (2, 1, 0, 0, 0, 0, []), some (8, 3, 3, 4, 21, 0, []), none, none, some (1, 1, 3, 0, 0, 0, []), some (11, 1, 0, 0, 0, 0, []), some (49, 3, 170, 2, 96, 0, []), none, none, some (3, 1, 2, 0, 0, 0, []), some (27, 3, 3, 0, 0, 1, []), none, none, some (28, 3, 0, 0, 7, 0, []), none, none, some (1, 1, 2, 0, 0, 0, []), some (41, 1, 0, 0, 0, 0, [])] -- X3_endOfRoom
def zc_49 : List (Option PI) := [some (1, 1, 1, 0, 0, 0, []), some (29, 3, 2, 0, 24, 0, []), none, none, some (1, 1, 1, 0, 0, 0, []), some (2, 1, 0, 0, 0, 0, []), some (15, 1, 0, 0, 0, 0, []), some (30, 3, 3, 0, 24, 0, []), none, none, some (2, 1, 0, 0, 0, 0, []), some (1, 1, 1, 0, 0, 0, []), some (11, 1, 0, 0, 0, 0, []), some (5, 1, 0, 0, 0, 1, []), some (1, 1, 2, 0, 0, 0, []), some (24, 1, 0, 0, 0, 0, []), some (21, 1, 0, 0, 0, 0, []), some (29, 3, 0, 0, 24, 0, []), none, none, some (5, 1, 0, 0, 0, 1, []), some (28, 3, 0, 0, 25, 0, []), none, none, some (5, 1, 0, 0, 0, 0, []), some (42, 1, 0, 0, 0, 0, [])] -- X3_isIn
def zc_50 : List (Option PI) := [some (2, 1, 0, 0, 0, 0, []), some (40, 3, 46, 1, 117, 3, []), none, none, some (3, 1, 2, 0, 0, 0, []), some (2, 1, 0, 0, 0, 0, []), some (1, 1, 1, 0, 0, 0, []), some (40, 3, 48, 2, 120, 3, []), none, none, some (3, 1, 3, 0, 0, 0, []), some (2, 1, 0, 0, 0, 0, []), some (1, 1, 1, 0, 0, 0, []), some (40, 3, 47, 2, 123, 3, []), none, none, some (3, 2, 4, 0, 0, 0, []), none, some (1, 2, 4, 0, 0, 0, []), none, some (1, 1, 3, 0, 0, 0, []), some (30, 3, 3, 0, 49, 0, []), none, none, some (1, 2, 4, 0, 0, 0, []), none, some (5, 2, 0, 0, 0, 6, []), none, some (30, 3, 3, 0, 49, 0, []), none, none, some (1, 1, 2, 0, 0, 0, []), some (5, 1, 0, 0, 0, 1, []), some (1, 2, 4, 0, 0, 0, []), none, some (24, 1, 0, 0, 0, 0, []), some (21, 1, 0, 0, 0, 0, []), some (29, 3, 1, 0, 43, 0, []), none, none, some (1, 2, 4, 0, 0, 0, []), none, some (41, 1, 0, 0, 0, 0, []), some (27, 3, 4, 0, 0, 1, []), none, none, some (28, 3, 0, 0, 18, 0, []), none, none, some (5, 1, 0, 0, 0, (-1), []), some (41, 1, 0, 0, 0, 0, [])] -- X3_leastPlaceFor
def zc_51 : List (Option PI) := [some (5, 1, 0, 0, 0, 0, []), some (3, 1, 3, 0, 0, 0, []), some (2, 1, 0, 0, 0, 0, []), some (1, 1, 1, 0, 0, 0, []), some (40, 3, 52, 2, 133, 3, []), none, none, some (3, 2, 4, 0, 0, 0, []), none, some (1, 2, 4, 0, 0, 0, []), none, some (5, 1, 0, 0, 0, (-1), []), some (30, 3, 0, 0, 35, 0, []), none, none, some (1, 1, 3, 0, 0, 0, []), some (5, 2, 0, 0, 0, 16, []), none, some (30, 3, 3, 0, 35, 0, []), none, none, some (27, 3, 3, 0, 0, 1, []), none, none, some (2, 1, 0, 0, 0, 0, []), some (1, 2, 4, 0, 0, 0, []), none, some (40, 3, 52, 2, 133, 3, []), none, none, some (3, 2, 4, 0, 0, 0, []), none, some (28, 3, 0, 0, 9, 0, []), none, none, some (2, 1, 2, 0, 0, 0, []), some (1, 1, 3, 0, 0, 0, []), some (5, 1, 0, 0, 0, 1, []), some (16, 1, 0, 0, 0, 0, []), some (40, 3, 14, 2, 136, 1, []), none, none, some (1, 1, 1, 0, 0, 0, []), some (3, 2, 4, 0, 0, 0, []), none, some (1, 1, 3, 0, 0, 0, []), some (5, 1, 0, 0, 0, 1, []), some (17, 1, 0, 0, 0, 0, []), some (3, 2, 5, 0, 0, 0, []), none, some (1, 2, 5, 0, 0, 0, []), none, some (29, 3, 2, 0, 92, 0, []), none, none, some (2, 1, 0, 0, 0, 0, []), some (1, 2, 4, 0, 0, 0, []), none, some (40, 3, 52, 2, 133, 3, []), none, none, some (3, 2, 6, 0, 0, 0, []), none, some (2, 1, 0, 0, 0, 0, []), some (2, 1, 0, 0, 0, 0, []), some (1, 2, 6, 0, 0, 0, []), none, some (40, 3, 53, 2, 139, 3, []), none, none, some (2, 1, 0, 0, 0, 0, []), some (1, 2, 4, 0, 0, 0, []), none, some (40, 3, 53, 2, 139, 3, []), none, none, some (1, 2, 5, 0, 0, 0, []), none, some (2, 1, 2, 0, 0, 0, []), some (40, 3, 54, 5, 142, 3, []), none, none, some (1, 2, 6, 0, 0, 0, []), none, some (3, 2, 4, 0, 0, 0, []), none, some (27, 3, 5, 0, 0, (-1), []), none, none, some (28, 3, 0, 0, 50, 0, []), none, none, some (44, 1, 0, 0, 0, 0, [])] -- X3_trace
def zc_52 : List (Option PI) := [some (1, 1, 1, 0, 0, 0, []), some (29, 3, 2, 0, 20, 0, []), none, none, some (1, 1, 1, 0, 0, 0, []), some (5, 3, 0, 0, 0, 720, []), none, none, some (30, 3, 3, 0, 20, 0, []), none, none, some (2, 1, 0, 0, 0, 0, []), some (8, 3, 3, 6, 27, 0, []), none, none, some (1, 1, 1, 0, 0, 0, []), some (11, 1, 0, 0, 0, 0, []), some (28, 3, 0, 0, 21, 0, []), none, none, some (5, 1, 0, 0, 0, (-1), []), some (41, 1, 0, 0, 0, 0, [])] -- X3_cameFromOf
def zc_53 : List (Option PI) := [some (1, 1, 1, 0, 0, 0, []), some (29, 3, 2, 0, 20, 0, []), none, none, some (1, 1, 1, 0, 0, 0, []), some (5, 3, 0, 0, 0, 720, []), none, none, some (30, 3, 3, 0, 20, 0, []), none, none, some (2, 1, 0, 0, 0, 0, []), some (8, 3, 3, 5, 24, 0, []), none, none, some (1, 1, 1, 0, 0, 0, []), some (11, 1, 0, 0, 0, 0, []), some (28, 3, 0, 0, 21, 0, []), none, none, some (5, 1, 0, 0, 0, 0, []), some (41, 1, 0, 0, 0, 0, [])] -- X3_codeOf
def zc_54 : List (Option PI) := [some (1, 1, 1, 0, 0, 0, []), some (3, 2, 5, 0, 0, 0, []), none, some (1, 1, 2, 0, 0, 0, []), some (3, 2, 6, 0, 0, 0, []), none, some (5, 1, 0, 0, 0, 0, []), some (3, 2, 7, 0, 0, 0, []), none, some (1, 2, 7, 0, 0, 0, []), none, some (2, 1, 0, 0, 0, 0, []), some (7, 3, 3, 9, 37, 0, []), none, none, some (30, 3, 3, 0, 76, 0, []), none, none, some (1, 2, 7, 0, 0, 0, []), none, some (5, 2, 0, 0, 0, 6, []), none, some (30, 3, 3, 0, 76, 0, []), none, none, some (1, 2, 5, 0, 0, 0, []), none, some (5, 2, 0, 0, 0, 6, []), none, some (20, 1, 0, 0, 0, 0, []), some (1, 2, 6, 0, 0, 0, []), none, some (5, 2, 0, 0, 0, 6, []), none, some (20, 1, 0, 0, 0, 0, []), some (30, 3, 0, 0, 56, 0, []), none, none, some (2, 2, 4, 0, 0, 0, []), none, some (1, 1, 3, 0, 0, 0, []), some (2, 1, 0, 0, 0, 0, []), some (8, 3, 3, 1, 9, 0, []), none, none, some (1, 2, 7, 0, 0, 0, []), none, some (11, 1, 0, 0, 0, 0, []), some (1, 2, 6, 0, 0, 0, []), none, some (5, 2, 0, 0, 0, 6, []), none, some (20, 1, 0, 0, 0, 0, []), some (40, 3, 16, 4, 85, 1, []), none, none, some (1, 2, 5, 0, 0, 0, []), none, some (5, 2, 0, 0, 0, 6, []), none, some (19, 1, 0, 0, 0, 0, []), some (3, 2, 5, 0, 0, 0, []), none, some (1, 2, 6, 0, 0, 0, []), none, some (5, 2, 0, 0, 0, 6, []), none, some (19, 1, 0, 0, 0, 0, []), some (3, 2, 6, 0, 0, 0, []), none, some (27, 3, 7, 0, 0, 1, []), none, none, some (28, 3, 0, 0, 9, 0, []), none, none, some (44, 1, 0, 0, 0, 0, [])] -- X3_tellMove
def zc_55 : List (Option PI) := [some (2, 1, 0, 0, 0, 0, []), some (45, 3, 0, 0, 3, 0, []), none, none, some (2, 1, 0, 0, 0, 0, []), some (5, 2, 0, 0, 0, 6, []), none, some (35, 2, 7, 0, 0, 0, []), none, some (10, 3, 4, 1, 9, 0, []), none, none, some (2, 1, 0, 0, 0, 0, []), some (5, 2, 0, 0, 0, 6, []), none, some (9, 3, 4, 2, 15, 0, []), none, none, some (2, 1, 0, 0, 0, 0, []), some (2, 1, 1, 0, 0, 0, []), some (10, 3, 4, 0, 19, 0, []), none, none, some (2, 1, 0, 0, 0, 0, []), some (8, 3, 4, 1, 9, 0, []), none, none, some (5, 1, 0, 0, 0, (-1), []), some (49, 3, 171, 2, 23, 0, []), none, none, some (44, 1, 0, 0, 0, 0, [])] -- X4_init
def zc_56 : List (Option PI) := [some (2, 1, 0, 0, 0, 0, []), some (8, 3, 4, 1, 9, 0, []), none, none, some (5, 1, 0, 0, 0, (-1), []), some (49, 3, 171, 2, 23, 0, []), none, none, some (2, 1, 0, 0, 0, 0, []), some (1, 1, 1, 0, 0, 0, []), some (9, 3, 4, 2, 15, 0, []), none, none, some (44, 1, 0, 0, 0, 0, [])] -- X4_empty
def zc_57 : List (Option PI) := [some (2, 1, 0, 0, 0, 0, []), some (7, 3, 4, 2, 15, 0, []), none, none, some (41, 1, 0, 0, 0, 0, [])] -- X4_size
def zc_58 : List (Option PI) := [some (1, 1, 1, 0, 0, 0, []), some (29, 3, 2, 0, 25, 0, []), none, none, some (1, 1, 1, 0, 0, 0, []), some (2, 1, 0, 0, 0, 0, []), some (7, 3, 4, 2, 15, 0, []), none, none, some (30, 3, 3, 0, 25, 0, []), none, none, some (1, 1, 1, 0, 0, 0, []), some (2, 1, 0, 0, 0, 0, []), some (8, 3, 4, 1, 9, 0, []), none, none, some (15, 1, 0, 0, 0, 0, []), some (30, 3, 3, 0, 25, 0, []), none, none, some (5, 1, 0, 0, 0, 1, []), some (28, 3, 0, 0, 26, 0, []), none, none, some (5, 1, 0, 0, 0, 0, []), some (42, 1, 0, 0, 0, 0, [])] -- X4_isPlace
def zc_59 : List (Option PI) := [some (2, 1, 0, 0, 0, 0, []), some (1, 1, 1, 0, 0, 0, []), some (40, 3, 58, 2, 29, 4, []), none, none, some (29, 3, 0, 0, 17, 0, []), none, none, some (2, 1, 0, 0, 0, 0, []), some (8, 3, 4, 1, 9, 0, []), none, none, some (1, 1, 1, 0, 0, 0, []), some (11, 1, 0, 0, 0, 0, []), some (28, 3, 0, 0, 18, 0, []), none, none, some (5, 1, 0, 0, 0, (-1), []), some (41, 1, 0, 0, 0, 0, [])] -- X4_ruleAt
def zc_60 : List (Option PI) := [some (5, 1, 0, 0, 0, 0, []), some (3, 1, 2, 0, 0, 0, []), some (1, 1, 2, 0, 0, 0, []), some (2, 1, 0, 0, 0, 0, []), some (8, 3, 4, 1, 9, 0, []), none, none, some (15, 1, 0, 0, 0, 0, []), some (30, 3, 3, 0, 34, 0, []), none, none, some (1, 1, 1, 0, 0, 0, []), some (5, 1, 0, 0, 0, (-1), []), some (30, 3, 0, 0, 28, 0, []), none, none, some (2, 1, 0, 0, 0, 0, []), some (8, 3, 4, 1, 9, 0, []), none, none, some (1, 1, 2, 0, 0, 0, []), some (11, 1, 0, 0, 0, 0, []), some (1, 1, 1, 0, 0, 0, []), some (30, 3, 1, 0, 28, 0, []), none, none, some (1, 1, 2, 0, 0, 0, []), some (41, 1, 0, 0, 0, 0, []), some (27, 3, 2, 0, 0, 1, []), none, none, some (28, 3, 0, 0, 2, 0, []), none, none, some (5, 1, 0, 0, 0, (-1), []), some (41, 1, 0, 0, 0, 0, [])] -- X4_placeOf
def zc_61 : List (Option PI) := [some (2, 1, 0, 0, 0, 0, []), some (1, 1, 1, 0, 0, 0, []), some (40, 3, 60, 2, 33, 4, []), none, none, some (5, 1, 0, 0, 0, (-1), []), some (30, 3, 0, 0, 13, 0, []), none, none, some (5, 1, 0, 0, 0, 1, []), some (28, 3, 0, 0, 14, 0, []), none, none, some (5, 1, 0, 0, 0, 0, []), some (42, 1, 0, 0, 0, 0, [])] -- X4_hasRule
def zc_62 : List (Option PI) := [some (5, 1, 0, 0, 0, 0, []), some (3, 1, 1, 0, 0, 0, []), some (5, 1, 0, 0, 0, 0, []), some (3, 1, 2, 0, 0, 0, []), some (1, 1, 2, 0, 0, 0, []), some (2, 1, 0, 0, 0, 0, []), some (8, 3, 4, 1, 9, 0, []), none, none, some (15, 1, 0, 0, 0, 0, []), some (30, 3, 3, 0, 32, 0, []), none, none, some (2, 1, 0, 0, 0, 0, []), some (8, 3, 4, 1, 9, 0, []), none, none, some (1, 1, 2, 0, 0, 0, []), some (11, 1, 0, 0, 0, 0, []), some (5, 1, 0, 0, 0, (-1), []), some (30, 3, 0, 0, 26, 0, []), none, none, some (27, 3, 1, 0, 0, 1, []), none, none, some (27, 3, 2, 0, 0, 1, []), none, none, some (28, 3, 0, 0, 4, 0, []), none, none, some (1, 1, 1, 0, 0, 0, []), some (41, 1, 0, 0, 0, 0, [])] -- X4_standing
def zc_63 : List (Option PI) := [some (2, 1, 0, 0, 0, 0, []), some (40, 3, 62, 1, 37, 4, []), none, none, some (2, 1, 0, 0, 0, 0, []), some (7, 3, 4, 2, 15, 0, []), none, none, some (30, 3, 2, 0, 15, 0, []), none, none, some (5, 1, 0, 0, 0, 1, []), some (28, 3, 0, 0, 16, 0, []), none, none, some (5, 1, 0, 0, 0, 0, []), some (42, 1, 0, 0, 0, 0, [])] -- X4_isFull
def zc_64 : List (Option PI) := [some (2, 1, 0, 0, 0, 0, []), some (1, 1, 1, 0, 0, 0, []), some (40, 3, 58, 2, 29, 4, []), none, none, some (29, 3, 0, 0, 15, 0, []), none, none, some (2, 1, 0, 0, 0, 0, []), some (8, 3, 4, 1, 9, 0, []), none, none, some (1, 1, 1, 0, 0, 0, []), some (5, 1, 0, 0, 0, (-1), []), some (12, 1, 0, 0, 0, 0, []), some (44, 1, 0, 0, 0, 0, [])] -- X4_makeFree
def zc_65 : List (Option PI) := [some (2, 1, 0, 0, 0, 0, []), some (1, 1, 2, 0, 0, 0, []), some (40, 3, 58, 2, 29, 4, []), none, none, some (29, 3, 0, 0, 24, 0, []), none, none, some (2, 1, 0, 0, 0, 0, []), some (2, 1, 0, 0, 0, 0, []), some (1, 1, 1, 0, 0, 0, []), some (40, 3, 60, 2, 33, 4, []), none, none, some (40, 3, 64, 2, 41, 4, []), none, none, some (2, 1, 0, 0, 0, 0, []), some (8, 3, 4, 1, 9, 0, []), none, none, some (1, 1, 2, 0, 0, 0, []), some (1, 1, 1, 0, 0, 0, []), some (12, 1, 0, 0, 0, 0, []), some (44, 1, 0, 0, 0, 0, [])] -- X4_lay
def zc_66 : List (Option PI) := [some (5, 1, 0, 0, 0, 0, []), some (3, 1, 2, 0, 0, 0, []), some (1, 1, 2, 0, 0, 0, []), some (5, 2, 0, 0, 0, 16, []), none, some (30, 3, 3, 0, 36, 0, []), none, none, some (1, 1, 2, 0, 0, 0, []), some (2, 1, 1, 0, 0, 0, []), some (40, 3, 15, 1, 45, 1, []), none, none, some (30, 3, 3, 0, 36, 0, []), none, none, some (2, 1, 0, 0, 0, 0, []), some (2, 1, 1, 0, 0, 0, []), some (1, 1, 2, 0, 0, 0, []), some (40, 3, 17, 2, 50, 1, []), none, none, some (2, 1, 1, 0, 0, 0, []), some (1, 1, 2, 0, 0, 0, []), some (40, 3, 18, 2, 53, 1, []), none, none, some (40, 3, 65, 3, 54, 4, []), none, none, some (27, 3, 2, 0, 0, 1, []), none, none, some (28, 3, 0, 0, 2, 0, []), none, none, some (44, 1, 0, 0, 0, 0, [])] -- X4_carryOut
def zc_67 : List (Option PI) := [some (5, 1, 0, 0, 0, 0, []), some (3, 1, 2, 0, 0, 0, []), some (1, 1, 2, 0, 0, 0, []), some (2, 1, 0, 0, 0, 0, []), some (8, 3, 4, 1, 9, 0, []), none, none, some (15, 1, 0, 0, 0, 0, []), some (30, 3, 3, 0, 48, 0, []), none, none, some (2, 1, 0, 0, 0, 0, []), some (8, 3, 4, 0, 19, 0, []), none, none, some (2, 1, 0, 0, 0, 0, []), some (8, 3, 4, 1, 9, 0, []), none, none, some (1, 1, 2, 0, 0, 0, []), some (11, 1, 0, 0, 0, 0, []), some (1, 1, 1, 0, 0, 0, []), some (40, 3, 34, 3, 58, 2, []), none, none, some (29, 3, 0, 0, 42, 0, []), none, none, some (2, 1, 0, 0, 0, 0, []), some (8, 3, 4, 0, 19, 0, []), none, none, some (2, 1, 0, 0, 0, 0, []), some (8, 3, 4, 1, 9, 0, []), none, none, some (1, 1, 2, 0, 0, 0, []), some (11, 1, 0, 0, 0, 0, []), some (40, 3, 33, 2, 64, 2, []), none, none, some (41, 1, 0, 0, 0, 0, []), some (27, 3, 2, 0, 0, 1, []), none, none, some (28, 3, 0, 0, 2, 0, []), none, none, some (5, 1, 0, 0, 0, (-1), []), some (41, 1, 0, 0, 0, 0, [])] -- X4_actFor
def zc_68 : List (Option PI) := [some (5, 1, 0, 0, 0, (-1), []), some (3, 1, 2, 0, 0, 0, []), some (5, 1, 0, 0, 0, 0, []), some (3, 1, 3, 0, 0, 0, []), some (1, 1, 3, 0, 0, 0, []), some (2, 1, 0, 0, 0, 0, []), some (8, 3, 4, 1, 9, 0, []), none, none, some (15, 1, 0, 0, 0, 0, []), some (30, 3, 3, 0, 61, 0, []), none, none, some (2, 1, 0, 0, 0, 0, []), some (8, 3, 4, 1, 9, 0, []), none, none, some (1, 1, 3, 0, 0, 0, []), some (11, 1, 0, 0, 0, 0, []), some (3, 2, 4, 0, 0, 0, []), none, some (2, 1, 0, 0, 0, 0, []), some (8, 3, 4, 0, 19, 0, []), none, none, some (1, 2, 4, 0, 0, 0, []), none, some (1, 1, 1, 0, 0, 0, []), some (40, 3, 34, 3, 58, 2, []), none, none, some (29, 3, 0, 0, 55, 0, []), none, none, some (1, 1, 2, 0, 0, 0, []), some (5, 1, 0, 0, 0, (-1), []), some (30, 3, 0, 0, 52, 0, []), none, none, some (2, 1, 0, 0, 0, 0, []), some (8, 3, 4, 0, 19, 0, []), none, none, some (1, 2, 4, 0, 0, 0, []), none, some (1, 1, 2, 0, 0, 0, []), some (40, 3, 36, 3, 67, 2, []), none, none, some (29, 3, 0, 0, 55, 0, []), none, none, some (1, 2, 4, 0, 0, 0, []), none, some (3, 1, 2, 0, 0, 0, []), some (27, 3, 3, 0, 0, 1, []), none, none, some (28, 3, 0, 0, 4, 0, []), none, none, some (2, 1, 0, 0, 0, 0, []), some (8, 3, 4, 0, 19, 0, []), none, none, some (1, 1, 2, 0, 0, 0, []), some (40, 3, 33, 2, 64, 2, []), none, none, some (41, 1, 0, 0, 0, 0, [])] -- X4_dueActFor
def zc_69 : List (Option PI) := [some (5, 1, 0, 0, 0, 0, []), some (3, 1, 2, 0, 0, 0, []), some (1, 1, 2, 0, 0, 0, []), some (2, 1, 1, 0, 0, 0, []), some (15, 1, 0, 0, 0, 0, []), some (30, 3, 3, 0, 22, 0, []), none, none, some (2, 1, 1, 0, 0, 0, []), some (1, 1, 2, 0, 0, 0, []), some (2, 1, 0, 0, 0, 0, []), some (1, 1, 2, 0, 0, 0, []), some (40, 3, 67, 2, 70, 4, []), none, none, some (12, 1, 0, 0, 0, 0, []), some (27, 3, 2, 0, 0, 1, []), none, none, some (28, 3, 0, 0, 2, 0, []), none, none, some (44, 1, 0, 0, 0, 0, [])] -- X4_noteActs
def zc_70 : List (Option PI) := [some (5, 1, 0, 0, 0, 0, []), some (3, 1, 2, 0, 0, 0, []), some (1, 1, 2, 0, 0, 0, []), some (2, 1, 1, 0, 0, 0, []), some (15, 1, 0, 0, 0, 0, []), some (30, 3, 3, 0, 27, 0, []), none, none, some (2, 1, 1, 0, 0, 0, []), some (1, 1, 2, 0, 0, 0, []), some (11, 1, 0, 0, 0, 0, []), some (2, 1, 0, 0, 0, 0, []), some (1, 1, 2, 0, 0, 0, []), some (40, 3, 67, 2, 70, 4, []), none, none, some (30, 3, 0, 0, 21, 0, []), none, none, some (5, 1, 0, 0, 0, 0, []), some (42, 1, 0, 0, 0, 0, []), some (27, 3, 2, 0, 0, 1, []), none, none, some (28, 3, 0, 0, 2, 0, []), none, none, some (5, 1, 0, 0, 0, 1, []), some (42, 1, 0, 0, 0, 0, [])] -- X4_hasActs
def zc_71 : List (Option PI) := [some (5, 1, 0, 0, 0, 1, []), some (3, 1, 1, 0, 0, 0, []), some (1, 1, 1, 0, 0, 0, []), some (2, 1, 0, 0, 0, 0, []), some (8, 3, 4, 1, 9, 0, []), none, none, some (15, 1, 0, 0, 0, 0, []), some (30, 3, 3, 0, 76, 0, []), none, none, some (5, 1, 0, 0, 0, 0, []), some (3, 1, 2, 0, 0, 0, []), some (1, 1, 2, 0, 0, 0, []), some (1, 1, 1, 0, 0, 0, []), some (30, 3, 3, 0, 70, 0, []), none, none, some (2, 1, 0, 0, 0, 0, []), some (8, 3, 4, 0, 19, 0, []), none, none, some (2, 1, 0, 0, 0, 0, []), some (8, 3, 4, 1, 9, 0, []), none, none, some (1, 1, 2, 0, 0, 0, []), some (11, 1, 0, 0, 0, 0, []), some (2, 1, 0, 0, 0, 0, []), some (8, 3, 4, 1, 9, 0, []), none, none, some (1, 1, 1, 0, 0, 0, []), some (11, 1, 0, 0, 0, 0, []), some (40, 3, 35, 3, 73, 2, []), none, none, some (29, 3, 0, 0, 64, 0, []), none, none, some (2, 1, 0, 0, 0, 0, []), some (8, 3, 4, 0, 19, 0, []), none, none, some (2, 1, 0, 0, 0, 0, []), some (8, 3, 4, 1, 9, 0, []), none, none, some (1, 1, 1, 0, 0, 0, []), some (11, 1, 0, 0, 0, 0, []), some (2, 1, 0, 0, 0, 0, []), some (8, 3, 4, 1, 9, 0, []), none, none, some (1, 1, 2, 0, 0, 0, []), some (11, 1, 0, 0, 0, 0, []), some (40, 3, 36, 3, 67, 2, []), none, none, some (29, 3, 0, 0, 64, 0, []), none, none, some (5, 1, 0, 0, 0, 0, []), some (42, 1, 0, 0, 0, 0, []), some (27, 3, 2, 0, 0, 1, []), none, none, some (28, 3, 0, 0, 13, 0, []), none, none, some (27, 3, 1, 0, 0, 1, []), none, none, some (28, 3, 0, 0, 2, 0, []), none, none, some (5, 1, 0, 0, 0, 1, []), some (42, 1, 0, 0, 0, 0, [])] -- X4_isSafe
def zc_72 : List (Option PI) := [some (5, 1, 0, 0, 0, 0, []), some (3, 1, 2, 0, 0, 0, []), some (1, 1, 2, 0, 0, 0, []), some (5, 2, 0, 0, 0, 32, []), none, some (30, 3, 3, 0, 37, 0, []), none, none, some (2, 1, 0, 0, 0, 0, []), some (8, 3, 4, 0, 19, 0, []), none, none, some (1, 1, 1, 0, 0, 0, []), some (1, 1, 2, 0, 0, 0, []), some (40, 3, 34, 3, 58, 2, []), none, none, some (29, 3, 0, 0, 31, 0, []), none, none, some (2, 1, 0, 0, 0, 0, []), some (1, 1, 2, 0, 0, 0, []), some (1, 1, 1, 0, 0, 0, []), some (40, 3, 73, 3, 76, 4, []), none, none, some (29, 3, 1, 0, 31, 0, []), none, none, some (1, 1, 2, 0, 0, 0, []), some (41, 1, 0, 0, 0, 0, []), some (27, 3, 2, 0, 0, 1, []), none, none, some (28, 3, 0, 0, 2, 0, []), none, none, some (5, 2, 0, 0, 0, (-2), []), none, some (41, 1, 0, 0, 0, 0, [])] -- X4_firstKeyShown
def zc_73 : List (Option PI) := [some (5, 1, 0, 0, 0, 0, []), some (3, 1, 3, 0, 0, 0, []), some (1, 1, 3, 0, 0, 0, []), some (2, 1, 0, 0, 0, 0, []), some (8, 3, 4, 1, 9, 0, []), none, none, some (15, 1, 0, 0, 0, 0, []), some (30, 3, 3, 0, 53, 0, []), none, none, some (2, 1, 0, 0, 0, 0, []), some (8, 3, 4, 0, 19, 0, []), none, none, some (2, 1, 0, 0, 0, 0, []), some (8, 3, 4, 1, 9, 0, []), none, none, some (1, 1, 3, 0, 0, 0, []), some (11, 1, 0, 0, 0, 0, []), some (1, 1, 1, 0, 0, 0, []), some (40, 3, 34, 3, 58, 2, []), none, none, some (29, 3, 0, 0, 47, 0, []), none, none, some (2, 1, 0, 0, 0, 0, []), some (8, 3, 4, 0, 19, 0, []), none, none, some (2, 1, 0, 0, 0, 0, []), some (8, 3, 4, 1, 9, 0, []), none, none, some (1, 1, 3, 0, 0, 0, []), some (11, 1, 0, 0, 0, 0, []), some (1, 1, 2, 0, 0, 0, []), some (40, 3, 36, 3, 67, 2, []), none, none, some (29, 3, 0, 0, 47, 0, []), none, none, some (5, 1, 0, 0, 0, 1, []), some (42, 1, 0, 0, 0, 0, []), some (27, 3, 3, 0, 0, 1, []), none, none, some (28, 3, 0, 0, 2, 0, []), none, none, some (5, 1, 0, 0, 0, 0, []), some (42, 1, 0, 0, 0, 0, [])] -- X4_hasHigherFor
def zc_74 : List (Option PI) := [some (5, 1, 0, 0, 0, (-1), []), some (3, 1, 2, 0, 0, 0, []), some (5, 1, 0, 0, 0, 0, []), some (3, 1, 3, 0, 0, 0, []), some (1, 1, 3, 0, 0, 0, []), some (2, 1, 0, 0, 0, 0, []), some (8, 3, 4, 1, 9, 0, []), none, none, some (15, 1, 0, 0, 0, 0, []), some (30, 3, 3, 0, 84, 0, []), none, none, some (2, 1, 0, 0, 0, 0, []), some (8, 3, 4, 1, 9, 0, []), none, none, some (1, 1, 3, 0, 0, 0, []), some (11, 1, 0, 0, 0, 0, []), some (3, 2, 4, 0, 0, 0, []), none, some (1, 1, 1, 0, 0, 0, []), some (5, 1, 0, 0, 0, (-1), []), some (30, 3, 0, 0, 39, 0, []), none, none, some (2, 1, 0, 0, 0, 0, []), some (8, 3, 4, 0, 19, 0, []), none, none, some (1, 1, 1, 0, 0, 0, []), some (1, 2, 4, 0, 0, 0, []), none, some (40, 3, 36, 3, 67, 2, []), none, none, some (29, 3, 0, 0, 43, 0, []), none, none, some (5, 1, 0, 0, 0, 1, []), some (28, 3, 0, 0, 44, 0, []), none, none, some (5, 1, 0, 0, 0, 0, []), some (3, 2, 5, 0, 0, 0, []), none, some (1, 2, 4, 0, 0, 0, []), none, some (5, 1, 0, 0, 0, (-1), []), some (30, 3, 0, 0, 78, 0, []), none, none, some (1, 2, 5, 0, 0, 0, []), none, some (29, 3, 0, 0, 78, 0, []), none, none, some (1, 1, 2, 0, 0, 0, []), some (5, 1, 0, 0, 0, (-1), []), some (30, 3, 0, 0, 75, 0, []), none, none, some (2, 1, 0, 0, 0, 0, []), some (8, 3, 4, 0, 19, 0, []), none, none, some (1, 2, 4, 0, 0, 0, []), none, some (1, 1, 2, 0, 0, 0, []), some (40, 3, 36, 3, 67, 2, []), none, none, some (29, 3, 0, 0, 78, 0, []), none, none, some (1, 2, 4, 0, 0, 0, []), none, some (3, 1, 2, 0, 0, 0, []), some (27, 3, 3, 0, 0, 1, []), none, none, some (28, 3, 0, 0, 4, 0, []), none, none, some (1, 1, 2, 0, 0, 0, []), some (41, 1, 0, 0, 0, 0, [])] -- X4_highestBelow
def zc_75 : List (Option PI) := [some (5, 1, 0, 0, 0, 0, []), some (3, 1, 1, 0, 0, 0, []), some (2, 1, 0, 0, 0, 0, []), some (8, 3, 4, 1, 9, 0, []), none, none, some (15, 1, 0, 0, 0, 0, []), some (5, 1, 0, 0, 0, 1, []), some (17, 1, 0, 0, 0, 0, []), some (3, 1, 2, 0, 0, 0, []), some (1, 1, 2, 0, 0, 0, []), some (29, 3, 2, 0, 34, 0, []), none, none, some (1, 1, 1, 0, 0, 0, []), some (5, 2, 0, 0, 0, 17, []), none, some (18, 1, 0, 0, 0, 0, []), some (2, 1, 0, 0, 0, 0, []), some (8, 3, 4, 1, 9, 0, []), none, none, some (1, 1, 2, 0, 0, 0, []), some (11, 1, 0, 0, 0, 0, []), some (16, 1, 0, 0, 0, 0, []), some (5, 1, 0, 0, 0, 1, []), some (16, 1, 0, 0, 0, 0, []), some (3, 1, 1, 0, 0, 0, []), some (27, 3, 2, 0, 0, (-1), []), none, none, some (28, 3, 0, 0, 10, 0, []), none, none, some (1, 1, 1, 0, 0, 0, []), some (41, 1, 0, 0, 0, 0, [])] -- X4_packed
def zc_76 : List (Option PI) := [some (1, 1, 1, 0, 0, 0, []), some (3, 1, 2, 0, 0, 0, []), some (5, 1, 0, 0, 0, 0, []), some (3, 1, 3, 0, 0, 0, []), some (1, 1, 3, 0, 0, 0, []), some (2, 1, 0, 0, 0, 0, []), some (8, 3, 4, 1, 9, 0, []), none, none, some (15, 1, 0, 0, 0, 0, []), some (30, 3, 3, 0, 36, 0, []), none, none, some (2, 1, 0, 0, 0, 0, []), some (8, 3, 4, 1, 9, 0, []), none, none, some (1, 1, 3, 0, 0, 0, []), some (1, 1, 2, 0, 0, 0, []), some (5, 2, 0, 0, 0, 17, []), none, some (20, 1, 0, 0, 0, 0, []), some (5, 1, 0, 0, 0, 1, []), some (17, 1, 0, 0, 0, 0, []), some (12, 1, 0, 0, 0, 0, []), some (1, 1, 2, 0, 0, 0, []), some (5, 2, 0, 0, 0, 17, []), none, some (19, 1, 0, 0, 0, 0, []), some (3, 1, 2, 0, 0, 0, []), some (27, 3, 3, 0, 0, 1, []), none, none, some (28, 3, 0, 0, 4, 0, []), none, none, some (44, 1, 0, 0, 0, 0, [])] -- X4_unpack
def zc_77 : List (Option PI) := [some (2, 1, 0, 0, 0, 0, []), some (45, 3, 0, 0, 3, 0, []), none, none, some (2, 1, 0, 0, 0, 0, []), some (36, 3, 2, 5, 9, 0, []), none, none, some (37, 1, 0, 0, 0, 0, []), some (48, 3, 19, 1, 11, 2, []), none, none, some (10, 3, 5, 0, 12, 0, []), none, none, some (2, 1, 0, 0, 0, 0, []), some (36, 3, 4, 3, 16, 0, []), none, none, some (37, 1, 0, 0, 0, 0, []), some (2, 1, 0, 0, 0, 0, []), some (8, 3, 5, 0, 12, 0, []), none, none, some (48, 3, 55, 2, 18, 4, []), none, none, some (10, 3, 5, 1, 21, 0, []), none, none, some (2, 1, 0, 0, 0, 0, []), some (36, 3, 4, 3, 16, 0, []), none, none, some (37, 1, 0, 0, 0, 0, []), some (2, 1, 0, 0, 0, 0, []), some (8, 3, 5, 0, 12, 0, []), none, none, some (48, 3, 55, 2, 18, 4, []), none, none, some (10, 3, 5, 2, 25, 0, []), none, none, some (2, 1, 0, 0, 0, 0, []), some (36, 3, 3, 11, 28, 0, []), none, none, some (37, 1, 0, 0, 0, 0, []), some (2, 1, 0, 0, 0, 0, []), some (8, 3, 5, 0, 12, 0, []), none, none, some (48, 3, 38, 2, 30, 3, []), none, none, some (10, 3, 5, 3, 31, 0, []), none, none, some (2, 1, 0, 0, 0, 0, []), some (36, 3, 0, 7, 35, 0, []), none, none, some (37, 1, 0, 0, 0, 0, []), some (50, 3, 0, 1, 37, 0, []), none, none, some (10, 3, 5, 4, 38, 0, []), none, none, some (2, 1, 0, 0, 0, 0, []), some (36, 3, 1, 3, 42, 0, []), none, none, some (37, 1, 0, 0, 0, 0, []), some (50, 3, 12, 1, 44, 1, []), none, none, some (10, 3, 5, 5, 45, 0, []), none, none, some (2, 1, 0, 0, 0, 0, []), some (36, 3, 1, 3, 42, 0, []), none, none, some (37, 1, 0, 0, 0, 0, []), some (50, 3, 12, 1, 44, 1, []), none, none, some (10, 3, 5, 6, 49, 0, []), none, none, some (2, 1, 0, 0, 0, 0, []), some (5, 2, 0, 0, 0, 32, []), none, some (35, 2, 7, 0, 0, 0, []), none, some (10, 3, 5, 7, 52, 0, []), none, none, some (2, 1, 0, 0, 0, 0, []), some (5, 1, 0, 0, 0, 0, []), some (9, 3, 5, 8, 56, 0, []), none, none, some (44, 1, 0, 0, 0, 0, [])] -- X5_init
def zc_78 : List (Option PI) := [some (1, 1, 1, 0, 0, 0, []), some (5, 1, 0, 0, 0, 2, []), some (30, 3, 2, 0, 11, 0, []), none, none, some (1, 1, 1, 0, 0, 0, []), some (5, 2, 0, 0, 0, 6, []), none, some (30, 3, 5, 0, 13, 0, []), none, none, some (5, 1, 0, 0, 0, (-1), []), some (41, 1, 0, 0, 0, 0, []), some (2, 1, 0, 0, 0, 0, []), some (8, 3, 5, 1, 21, 0, []), none, none, some (40, 3, 57, 1, 60, 4, []), none, none, some (3, 1, 2, 0, 0, 0, []), some (2, 1, 0, 0, 0, 0, []), some (8, 3, 5, 0, 12, 0, []), none, none, some (40, 3, 20, 1, 64, 2, []), none, none, some (2, 1, 0, 0, 0, 0, []), some (8, 3, 5, 1, 21, 0, []), none, none, some (1, 1, 1, 0, 0, 0, []), some (40, 3, 56, 2, 67, 4, []), none, none, some (2, 1, 0, 0, 0, 0, []), some (8, 3, 5, 2, 25, 0, []), none, none, some (1, 1, 1, 0, 0, 0, []), some (40, 3, 56, 2, 67, 4, []), none, none, some (2, 1, 0, 0, 0, 0, []), some (5, 1, 0, 0, 0, 0, []), some (9, 3, 5, 8, 56, 0, []), none, none, some (2, 1, 0, 0, 0, 0, []), some (8, 3, 5, 4, 38, 0, []), none, none, some (40, 3, 1, 1, 71, 0, []), none, none, some (2, 1, 0, 0, 0, 0, []), some (8, 3, 5, 5, 45, 0, []), none, none, some (40, 3, 13, 1, 72, 1, []), none, none, some (1, 1, 2, 0, 0, 0, []), some (41, 1, 0, 0, 0, 0, [])] -- X5_places
def zc_79 : List (Option PI) := [some (1, 1, 1, 0, 0, 0, []), some (49, 3, 103, 1, 73, 0, []), none, none, some (29, 3, 0, 0, 29, 0, []), none, none, some (1, 1, 2, 0, 0, 0, []), some (49, 3, 103, 1, 73, 0, []), none, none, some (29, 3, 0, 0, 29, 0, []), none, none, some (1, 1, 3, 0, 0, 0, []), some (49, 3, 104, 1, 77, 0, []), none, none, some (29, 3, 0, 0, 29, 0, []), none, none, some (1, 2, 4, 0, 0, 0, []), none, some (49, 3, 105, 1, 80, 0, []), none, none, some (29, 3, 1, 0, 31, 0, []), none, none, some (5, 1, 0, 0, 0, (-1), []), some (41, 1, 0, 0, 0, 0, []), some (2, 1, 0, 0, 0, 0, []), some (5, 1, 0, 0, 0, 0, []), some (1, 1, 1, 0, 0, 0, []), some (1, 1, 2, 0, 0, 0, []), some (1, 1, 3, 0, 0, 0, []), some (1, 2, 4, 0, 0, 0, []), none, some (40, 3, 107, 6, 83, 5, []), none, none, some (41, 1, 0, 0, 0, 0, [])] -- X5_rule
def zc_80 : List (Option PI) := [some (1, 1, 1, 0, 0, 0, []), some (49, 3, 105, 1, 80, 0, []), none, none, some (29, 3, 1, 0, 9, 0, []), none, none, some (5, 1, 0, 0, 0, (-1), []), some (41, 1, 0, 0, 0, 0, []), some (2, 1, 0, 0, 0, 0, []), some (5, 1, 0, 0, 0, 2, []), some (5, 1, 0, 0, 0, 0, []), some (5, 1, 0, 0, 0, 0, []), some (5, 1, 0, 0, 0, 0, []), some (1, 1, 1, 0, 0, 0, []), some (40, 3, 107, 6, 83, 5, []), none, none, some (41, 1, 0, 0, 0, 0, [])] -- X5_last
def zc_81 : List (Option PI) := [some (1, 1, 1, 0, 0, 0, []), some (49, 3, 103, 1, 73, 0, []), none, none, some (29, 3, 0, 0, 34, 0, []), none, none, some (1, 1, 2, 0, 0, 0, []), some (49, 3, 103, 1, 73, 0, []), none, none, some (29, 3, 0, 0, 34, 0, []), none, none, some (1, 1, 3, 0, 0, 0, []), some (49, 3, 104, 1, 77, 0, []), none, none, some (29, 3, 0, 0, 34, 0, []), none, none, some (1, 2, 4, 0, 0, 0, []), none, some (49, 3, 105, 1, 80, 0, []), none, none, some (29, 3, 0, 0, 34, 0, []), none, none, some (1, 1, 1, 0, 0, 0, []), some (1, 1, 2, 0, 0, 0, []), some (30, 3, 5, 0, 36, 0, []), none, none, some (5, 1, 0, 0, 0, (-1), []), some (41, 1, 0, 0, 0, 0, []), some (1, 1, 1, 0, 0, 0, []), some (1, 1, 2, 0, 0, 0, []), some (49, 3, 109, 2, 87, 0, []), none, none, some (3, 2, 5, 0, 0, 0, []), none, some (1, 2, 5, 0, 0, 0, []), none, some (2, 1, 0, 0, 0, 0, []), some (8, 3, 5, 0, 12, 0, []), none, none, some (40, 3, 24, 1, 91, 2, []), none, none, some (30, 3, 5, 0, 58, 0, []), none, none, some (5, 2, 0, 0, 0, (-3), []), none, some (41, 1, 0, 0, 0, 0, []), some (1, 1, 1, 0, 0, 0, []), some (3, 2, 6, 0, 0, 0, []), none, some (5, 1, 0, 0, 0, 0, []), some (3, 2, 7, 0, 0, 0, []), none, some (1, 2, 7, 0, 0, 0, []), none, some (1, 2, 5, 0, 0, 0, []), none, some (30, 3, 3, 0, 118, 0, []), none, none, some (1, 2, 6, 0, 0, 0, []), none, some (1, 1, 2, 0, 0, 0, []), some (30, 3, 4, 0, 118, 0, []), none, none, some (1, 2, 6, 0, 0, 0, []), none, some (1, 1, 2, 0, 0, 0, []), some (49, 3, 108, 2, 94, 0, []), none, none, some (3, 2, 8, 0, 0, 0, []), none, some (2, 1, 0, 0, 0, 0, []), some (5, 1, 0, 0, 0, 1, []), some (1, 2, 6, 0, 0, 0, []), none, some (5, 2, 0, 0, 0, 31, []), none, some (1, 2, 8, 0, 0, 0, []), none, some (5, 1, 0, 0, 0, 1, []), some (17, 1, 0, 0, 0, 0, []), some (5, 1, 0, 0, 0, (-1), []), some (23, 1, 0, 0, 0, 0, []), some (21, 1, 0, 0, 0, 0, []), some (1, 1, 3, 0, 0, 0, []), some (1, 2, 4, 0, 0, 0, []), none, some (40, 3, 107, 6, 83, 5, []), none, none, some (39, 1, 0, 0, 0, 0, []), some (1, 2, 6, 0, 0, 0, []), none, some (1, 2, 8, 0, 0, 0, []), none, some (16, 1, 0, 0, 0, 0, []), some (3, 2, 6, 0, 0, 0, []), none, some (27, 3, 7, 0, 0, 1, []), none, none, some (28, 3, 0, 0, 64, 0, []), none, none, some (1, 2, 5, 0, 0, 0, []), none, some (41, 1, 0, 0, 0, 0, [])] -- X5_span
def zc_82 : List (Option PI) := [some (2, 1, 0, 0, 0, 0, []), some (8, 3, 5, 0, 12, 0, []), none, none, some (1, 1, 1, 0, 0, 0, []), some (40, 3, 23, 2, 97, 2, []), none, none, some (29, 3, 1, 0, 14, 0, []), none, none, some (5, 2, 0, 0, 0, (-101), []), none, some (41, 1, 0, 0, 0, 0, []), some (1, 1, 2, 0, 0, 0, []), some (34, 41, 0, 0, 119, 6, [56, 65, 74, 83, 92, 101, 110]), none, none, none, none, none, none, none, none, none, none, none, none, none, none, none, none, none, none, none, none, none, none, none, none, none, none, none, none, none, none, none, none, none, none, none, none, none, none, none, none, some (2, 1, 0, 0, 0, 0, []), some (8, 3, 5, 0, 12, 0, []), none, none, some (1, 1, 1, 0, 0, 0, []), some (40, 3, 29, 2, 100, 2, []), none, none, some (41, 1, 0, 0, 0, 0, []), some (2, 1, 0, 0, 0, 0, []), some (8, 3, 5, 0, 12, 0, []), none, none, some (1, 1, 1, 0, 0, 0, []), some (40, 3, 30, 2, 104, 2, []), none, none, some (41, 1, 0, 0, 0, 0, []), some (2, 1, 0, 0, 0, 0, []), some (8, 3, 5, 0, 12, 0, []), none, none, some (1, 1, 1, 0, 0, 0, []), some (40, 3, 31, 2, 107, 2, []), none, none, some (41, 1, 0, 0, 0, 0, []), some (2, 1, 0, 0, 0, 0, []), some (8, 3, 5, 0, 12, 0, []), none, none, some (1, 1, 1, 0, 0, 0, []), some (40, 3, 32, 2, 110, 2, []), none, none, some (41, 1, 0, 0, 0, 0, []), some (2, 1, 0, 0, 0, 0, []), some (8, 3, 5, 0, 12, 0, []), none, none, some (1, 1, 1, 0, 0, 0, []), some (40, 3, 33, 2, 113, 2, []), none, none, some (41, 1, 0, 0, 0, 0, []), some (2, 1, 0, 0, 0, 0, []), some (8, 3, 5, 1, 21, 0, []), none, none, some (1, 1, 1, 0, 0, 0, []), some (40, 3, 60, 2, 116, 4, []), none, none, some (41, 1, 0, 0, 0, 0, []), some (2, 1, 0, 0, 0, 0, []), some (8, 3, 5, 2, 25, 0, []), none, none, some (1, 1, 1, 0, 0, 0, []), some (40, 3, 60, 2, 116, 4, []), none, none, some (41, 1, 0, 0, 0, 0, []), some (5, 2, 0, 0, 0, (-101), []), none, some (41, 1, 0, 0, 0, 0, [])] -- X5_told
def zc_83 : List (Option PI) := [some (2, 1, 0, 0, 0, 0, []), some (8, 3, 5, 0, 12, 0, []), none, none, some (1, 1, 1, 0, 0, 0, []), some (40, 3, 23, 2, 97, 2, []), none, none, some (29, 3, 1, 0, 13, 0, []), none, none, some (5, 1, 0, 0, 0, (-1), []), some (41, 1, 0, 0, 0, 0, []), some (2, 1, 0, 0, 0, 0, []), some (8, 3, 5, 1, 21, 0, []), none, none, some (1, 1, 1, 0, 0, 0, []), some (40, 3, 61, 2, 119, 4, []), none, none, some (29, 3, 1, 0, 35, 0, []), none, none, some (2, 1, 0, 0, 0, 0, []), some (8, 3, 5, 2, 25, 0, []), none, none, some (1, 1, 1, 0, 0, 0, []), some (40, 3, 61, 2, 119, 4, []), none, none, some (29, 3, 0, 0, 38, 0, []), none, none, some (5, 2, 0, 0, 0, (-2), []), none, some (41, 1, 0, 0, 0, 0, []), some (2, 1, 0, 0, 0, 0, []), some (8, 3, 5, 0, 12, 0, []), none, none, some (1, 1, 1, 0, 0, 0, []), some (40, 3, 21, 2, 122, 2, []), none, none, some (2, 1, 0, 0, 0, 0, []), some (8, 3, 5, 4, 38, 0, []), none, none, some (40, 3, 1, 1, 71, 0, []), none, none, some (5, 1, 0, 0, 0, 1, []), some (41, 1, 0, 0, 0, 0, [])] -- X5_drop
def zc_84 : List (Option PI) := [some (2, 1, 0, 0, 0, 0, []), some (8, 3, 5, 0, 12, 0, []), none, none, some (1, 1, 1, 0, 0, 0, []), some (40, 3, 23, 2, 97, 2, []), none, none, some (29, 3, 0, 0, 18, 0, []), none, none, some (1, 1, 2, 0, 0, 0, []), some (49, 3, 105, 1, 80, 0, []), none, none, some (29, 3, 1, 0, 20, 0, []), none, none, some (5, 1, 0, 0, 0, (-1), []), some (41, 1, 0, 0, 0, 0, []), some (2, 1, 0, 0, 0, 0, []), some (8, 3, 5, 0, 12, 0, []), none, none, some (1, 1, 1, 0, 0, 0, []), some (40, 3, 29, 2, 100, 2, []), none, none, some (5, 1, 0, 0, 0, 2, []), some (30, 3, 1, 0, 35, 0, []), none, none, some (5, 2, 0, 0, 0, (-13), []), none, some (41, 1, 0, 0, 0, 0, []), some (2, 1, 0, 0, 0, 0, []), some (8, 3, 5, 0, 12, 0, []), none, none, some (1, 1, 1, 0, 0, 0, []), some (40, 3, 33, 2, 113, 2, []), none, none, some (3, 1, 3, 0, 0, 0, []), some (2, 1, 0, 0, 0, 0, []), some (8, 3, 5, 0, 12, 0, []), none, none, some (1, 1, 1, 0, 0, 0, []), some (1, 1, 2, 0, 0, 0, []), some (40, 3, 28, 3, 125, 2, []), none, none, some (2, 1, 0, 0, 0, 0, []), some (8, 3, 5, 4, 38, 0, []), none, none, some (40, 3, 1, 1, 71, 0, []), none, none, some (1, 1, 3, 0, 0, 0, []), some (41, 1, 0, 0, 0, 0, [])] -- X5_act
def zc_85 : List (Option PI) := [some (2, 1, 0, 0, 0, 0, []), some (8, 3, 5, 0, 12, 0, []), none, none, some (1, 1, 1, 0, 0, 0, []), some (40, 3, 23, 2, 97, 2, []), none, none, some (29, 3, 0, 0, 22, 0, []), none, none, some (2, 1, 0, 0, 0, 0, []), some (8, 3, 5, 0, 12, 0, []), none, none, some (1, 1, 2, 0, 0, 0, []), some (40, 3, 23, 2, 97, 2, []), none, none, some (29, 3, 1, 0, 24, 0, []), none, none, some (5, 1, 0, 0, 0, (-1), []), some (41, 1, 0, 0, 0, 0, []), some (2, 1, 0, 0, 0, 0, []), some (8, 3, 5, 0, 12, 0, []), none, none, some (1, 1, 1, 0, 0, 0, []), some (1, 1, 2, 0, 0, 0, []), some (40, 3, 35, 3, 129, 2, []), none, none, some (29, 3, 0, 0, 40, 0, []), none, none, some (5, 1, 0, 0, 0, 1, []), some (28, 3, 0, 0, 41, 0, []), none, none, some (5, 1, 0, 0, 0, 0, []), some (41, 1, 0, 0, 0, 0, [])] -- X5_overlap
def zc_86 : List (Option PI) := [some (2, 1, 0, 0, 0, 0, []), some (8, 3, 5, 0, 12, 0, []), none, none, some (1, 1, 1, 0, 0, 0, []), some (40, 3, 23, 2, 97, 2, []), none, none, some (29, 3, 0, 0, 22, 0, []), none, none, some (2, 1, 0, 0, 0, 0, []), some (8, 3, 5, 0, 12, 0, []), none, none, some (1, 1, 2, 0, 0, 0, []), some (40, 3, 23, 2, 97, 2, []), none, none, some (29, 3, 1, 0, 24, 0, []), none, none, some (5, 1, 0, 0, 0, (-1), []), some (41, 1, 0, 0, 0, 0, []), some (1, 1, 1, 0, 0, 0, []), some (1, 1, 2, 0, 0, 0, []), some (30, 3, 1, 0, 31, 0, []), none, none, some (5, 1, 0, 0, 0, 0, []), some (41, 1, 0, 0, 0, 0, []), some (2, 1, 0, 0, 0, 0, []), some (8, 3, 5, 0, 12, 0, []), none, none, some (1, 1, 1, 0, 0, 0, []), some (1, 1, 2, 0, 0, 0, []), some (40, 3, 36, 3, 133, 2, []), none, none, some (29, 3, 0, 0, 47, 0, []), none, none, some (5, 1, 0, 0, 0, 1, []), some (28, 3, 0, 0, 48, 0, []), none, none, some (5, 1, 0, 0, 0, 2, []), some (41, 1, 0, 0, 0, 0, [])] -- X5_higher
def zc_87 : List (Option PI) := [some (2, 1, 0, 0, 0, 0, []), some (1, 1, 1, 0, 0, 0, []), some (40, 3, 106, 2, 136, 5, []), none, none, some (4, 1, 3, 0, 0, 0, []), some (2, 1, 0, 0, 0, 0, []), some (2, 1, 3, 0, 0, 0, []), some (1, 1, 2, 0, 0, 0, []), some (40, 3, 110, 3, 140, 5, []), none, none, some (3, 2, 4, 0, 0, 0, []), none, some (2, 1, 3, 0, 0, 0, []), some (31, 3, 0, 0, 23, 0, []), none, none, some (1, 2, 4, 0, 0, 0, []), none, some (29, 3, 0, 0, 26, 0, []), none, none, some (1, 2, 4, 0, 0, 0, []), none, some (41, 1, 0, 0, 0, 0, []), some (2, 1, 0, 0, 0, 0, []), some (8, 3, 5, 3, 31, 0, []), none, none, some (2, 1, 3, 0, 0, 0, []), some (1, 1, 2, 0, 0, 0, []), some (2, 1, 0, 0, 0, 0, []), some (8, 3, 5, 5, 45, 0, []), none, none, some (40, 3, 39, 4, 144, 3, []), none, none, some (2, 1, 0, 0, 0, 0, []), some (40, 3, 111, 1, 148, 5, []), none, none, some (2, 1, 3, 0, 0, 0, []), some (2, 1, 0, 0, 0, 0, []), some (8, 3, 5, 5, 45, 0, []), none, none, some (40, 3, 66, 2, 151, 4, []), none, none, some (2, 1, 0, 0, 0, 0, []), some (8, 3, 5, 5, 45, 0, []), none, none, some (40, 3, 15, 1, 155, 1, []), none, none, some (41, 1, 0, 0, 0, 0, [])] -- X5_put
def zc_88 : List (Option PI) := [some (2, 1, 0, 0, 0, 0, []), some (1, 1, 1, 0, 0, 0, []), some (40, 3, 106, 2, 136, 5, []), none, none, some (4, 1, 3, 0, 0, 0, []), some (2, 1, 0, 0, 0, 0, []), some (2, 1, 3, 0, 0, 0, []), some (1, 1, 2, 0, 0, 0, []), some (40, 3, 110, 3, 140, 5, []), none, none, some (3, 2, 4, 0, 0, 0, []), none, some (2, 1, 3, 0, 0, 0, []), some (31, 3, 0, 0, 23, 0, []), none, none, some (1, 2, 4, 0, 0, 0, []), none, some (29, 3, 0, 0, 26, 0, []), none, none, some (1, 2, 4, 0, 0, 0, []), none, some (41, 1, 0, 0, 0, 0, []), some (2, 1, 0, 0, 0, 0, []), some (8, 3, 5, 3, 31, 0, []), none, none, some (2, 1, 3, 0, 0, 0, []), some (1, 1, 2, 0, 0, 0, []), some (2, 1, 0, 0, 0, 0, []), some (8, 3, 5, 6, 49, 0, []), none, none, some (40, 3, 39, 4, 144, 3, []), none, none, some (2, 1, 0, 0, 0, 0, []), some (8, 3, 5, 6, 49, 0, []), none, none, some (40, 3, 15, 1, 155, 1, []), none, none, some (41, 1, 0, 0, 0, 0, [])] -- X5_writes
def zc_89 : List (Option PI) := [some (1, 1, 1, 0, 0, 0, []), some (5, 1, 0, 0, 0, (-1), []), some (30, 3, 1, 0, 13, 0, []), none, none, some (2, 1, 0, 0, 0, 0, []), some (8, 3, 5, 5, 45, 0, []), none, none, some (40, 3, 15, 1, 155, 1, []), none, none, some (41, 1, 0, 0, 0, 0, []), some (1, 1, 1, 0, 0, 0, []), some (29, 3, 2, 0, 37, 0, []), none, none, some (1, 1, 1, 0, 0, 0, []), some (2, 1, 0, 0, 0, 0, []), some (8, 3, 5, 5, 45, 0, []), none, none, some (40, 3, 15, 1, 155, 1, []), none, none, some (30, 3, 3, 0, 37, 0, []), none, none, some (1, 1, 2, 0, 0, 0, []), some (29, 3, 2, 0, 37, 0, []), none, none, some (1, 1, 2, 0, 0, 0, []), some (5, 1, 0, 0, 0, 1, []), some (30, 3, 5, 0, 39, 0, []), none, none, some (5, 1, 0, 0, 0, (-1), []), some (41, 1, 0, 0, 0, 0, []), some (1, 1, 2, 0, 0, 0, []), some (29, 3, 1, 0, 54, 0, []), none, none, some (2, 1, 0, 0, 0, 0, []), some (8, 3, 5, 5, 45, 0, []), none, none, some (1, 1, 1, 0, 0, 0, []), some (40, 3, 17, 2, 158, 1, []), none, none, some (28, 3, 0, 0, 62, 0, []), none, none, some (2, 1, 0, 0, 0, 0, []), some (8, 3, 5, 5, 45, 0, []), none, none, some (1, 1, 1, 0, 0, 0, []), some (40, 3, 18, 2, 161, 1, []), none, none, some (41, 1, 0, 0, 0, 0, [])] -- X5_write
def zc_90 : List (Option PI) := [some (2, 1, 0, 0, 0, 0, []), some (1, 1, 1, 0, 0, 0, []), some (40, 3, 106, 2, 136, 5, []), none, none, some (4, 1, 3, 0, 0, 0, []), some (2, 1, 3, 0, 0, 0, []), some (31, 3, 0, 0, 21, 0, []), none, none, some (2, 1, 0, 0, 0, 0, []), some (8, 3, 5, 0, 12, 0, []), none, none, some (1, 1, 2, 0, 0, 0, []), some (40, 3, 23, 2, 97, 2, []), none, none, some (29, 3, 1, 0, 23, 0, []), none, none, some (5, 1, 0, 0, 0, (-1), []), some (41, 1, 0, 0, 0, 0, []), some (2, 1, 3, 0, 0, 0, []), some (1, 1, 2, 0, 0, 0, []), some (40, 3, 60, 2, 116, 4, []), none, none, some (3, 2, 4, 0, 0, 0, []), none, some (1, 2, 4, 0, 0, 0, []), none, some (5, 1, 0, 0, 0, (-1), []), some (30, 3, 1, 0, 39, 0, []), none, none, some (5, 2, 0, 0, 0, (-2), []), none, some (41, 1, 0, 0, 0, 0, []), some (2, 1, 0, 0, 0, 0, []), some (40, 3, 111, 1, 148, 5, []), none, none, some (2, 1, 3, 0, 0, 0, []), some (1, 2, 4, 0, 0, 0, []), none, some (40, 3, 64, 2, 162, 4, []), none, none, some (2, 1, 0, 0, 0, 0, []), some (8, 3, 5, 5, 45, 0, []), none, none, some (40, 3, 13, 1, 72, 1, []), none, none, some (1, 2, 4, 0, 0, 0, []), none, some (41, 1, 0, 0, 0, 0, [])] -- X5_strike
def zc_91 : List (Option PI) := [some (2, 1, 0, 0, 0, 0, []), some (1, 1, 1, 0, 0, 0, []), some (40, 3, 106, 2, 136, 5, []), none, none, some (4, 1, 3, 0, 0, 0, []), some (2, 1, 3, 0, 0, 0, []), some (31, 3, 0, 0, 22, 0, []), none, none, some (1, 1, 2, 0, 0, 0, []), some (29, 3, 2, 0, 22, 0, []), none, none, some (1, 1, 2, 0, 0, 0, []), some (2, 1, 3, 0, 0, 0, []), some (40, 3, 57, 1, 60, 4, []), none, none, some (30, 3, 2, 0, 24, 0, []), none, none, some (5, 1, 0, 0, 0, (-1), []), some (41, 1, 0, 0, 0, 0, []), some (2, 1, 3, 0, 0, 0, []), some (1, 1, 2, 0, 0, 0, []), some (40, 3, 59, 2, 165, 4, []), none, none, some (3, 2, 4, 0, 0, 0, []), none, some (1, 2, 4, 0, 0, 0, []), none, some (5, 1, 0, 0, 0, (-1), []), some (30, 3, 1, 0, 42, 0, []), none, none, some (5, 2, 0, 0, 0, (-2), []), none, some (28, 3, 0, 0, 44, 0, []), none, none, some (1, 2, 4, 0, 0, 0, []), none, some (41, 1, 0, 0, 0, 0, [])] -- X5_at
def zc_92 : List (Option PI) := [some (2, 1, 0, 0, 0, 0, []), some (1, 1, 1, 0, 0, 0, []), some (5, 1, 0, 0, 0, 2, []), some (30, 3, 1, 0, 13, 0, []), none, none, some (2, 1, 0, 0, 0, 0, []), some (7, 3, 5, 8, 56, 0, []), none, none, some (28, 3, 0, 0, 14, 0, []), none, none, some (1, 1, 1, 0, 0, 0, []), some (40, 3, 106, 2, 136, 5, []), none, none, some (4, 1, 3, 0, 0, 0, []), some (2, 1, 3, 0, 0, 0, []), some (31, 3, 0, 0, 29, 0, []), none, none, some (1, 1, 2, 0, 0, 0, []), some (49, 3, 103, 1, 73, 0, []), none, none, some (29, 3, 1, 0, 32, 0, []), none, none, some (5, 2, 0, 0, 0, (-101), []), none, some (41, 1, 0, 0, 0, 0, []), some (2, 1, 3, 0, 0, 0, []), some (1, 1, 2, 0, 0, 0, []), some (40, 3, 67, 2, 168, 4, []), none, none, some (41, 1, 0, 0, 0, 0, [])] -- X5_judged
def zc_93 : List (Option PI) := [some (2, 1, 0, 0, 0, 0, []), some (1, 1, 1, 0, 0, 0, []), some (40, 3, 106, 2, 136, 5, []), none, none, some (4, 1, 2, 0, 0, 0, []), some (2, 1, 2, 0, 0, 0, []), some (32, 3, 0, 0, 12, 0, []), none, none, some (5, 1, 0, 0, 0, (-1), []), some (41, 1, 0, 0, 0, 0, []), some (5, 1, 0, 0, 0, 0, []), some (3, 1, 3, 0, 0, 0, []), some (5, 1, 0, 0, 0, 0, []), some (3, 2, 4, 0, 0, 0, []), none, some (1, 2, 4, 0, 0, 0, []), none, some (5, 2, 0, 0, 0, 32, []), none, some (30, 3, 3, 0, 48, 0, []), none, none, some (2, 1, 2, 0, 0, 0, []), some (1, 2, 4, 0, 0, 0, []), none, some (40, 3, 67, 2, 168, 4, []), none, none, some (2, 1, 2, 0, 0, 0, []), some (1, 2, 4, 0, 0, 0, []), none, some (40, 3, 68, 2, 171, 4, []), none, none, some (30, 3, 1, 0, 42, 0, []), none, none, some (27, 3, 3, 0, 0, 1, []), none, none, some (27, 3, 4, 0, 0, 1, []), none, none, some (28, 3, 0, 0, 17, 0, []), none, none, some (1, 1, 3, 0, 0, 0, []), some (41, 1, 0, 0, 0, 0, [])] -- X5_right
def zc_94 : List (Option PI) := [some (2, 1, 0, 0, 0, 0, []), some (1, 1, 1, 0, 0, 0, []), some (40, 3, 106, 2, 136, 5, []), none, none, some (4, 1, 3, 0, 0, 0, []), some (2, 1, 3, 0, 0, 0, []), some (31, 3, 0, 0, 21, 0, []), none, none, some (2, 1, 0, 0, 0, 0, []), some (8, 3, 5, 0, 12, 0, []), none, none, some (1, 1, 2, 0, 0, 0, []), some (40, 3, 23, 2, 97, 2, []), none, none, some (29, 3, 1, 0, 23, 0, []), none, none, some (5, 1, 0, 0, 0, (-1), []), some (41, 1, 0, 0, 0, 0, []), some (2, 1, 3, 0, 0, 0, []), some (1, 1, 2, 0, 0, 0, []), some (40, 3, 61, 2, 119, 4, []), none, none, some (29, 3, 1, 0, 34, 0, []), none, none, some (5, 2, 0, 0, 0, (-2), []), none, some (41, 1, 0, 0, 0, 0, []), some (2, 1, 3, 0, 0, 0, []), some (1, 1, 2, 0, 0, 0, []), some (40, 3, 72, 2, 174, 4, []), none, none, some (5, 2, 0, 0, 0, (-2), []), none, some (30, 3, 1, 0, 48, 0, []), none, none, some (5, 1, 0, 0, 0, 1, []), some (28, 3, 0, 0, 49, 0, []), none, none, some (5, 1, 0, 0, 0, 0, []), some (41, 1, 0, 0, 0, 0, [])] -- X5_covered
def zc_95 : List (Option PI) := [some (2, 1, 0, 0, 0, 0, []), some (1, 1, 1, 0, 0, 0, []), some (40, 3, 106, 2, 136, 5, []), none, none, some (4, 1, 3, 0, 0, 0, []), some (2, 1, 3, 0, 0, 0, []), some (31, 3, 0, 0, 21, 0, []), none, none, some (2, 1, 0, 0, 0, 0, []), some (8, 3, 5, 0, 12, 0, []), none, none, some (1, 1, 2, 0, 0, 0, []), some (40, 3, 23, 2, 97, 2, []), none, none, some (29, 3, 1, 0, 23, 0, []), none, none, some (5, 1, 0, 0, 0, (-1), []), some (41, 1, 0, 0, 0, 0, []), some (2, 1, 3, 0, 0, 0, []), some (1, 1, 2, 0, 0, 0, []), some (40, 3, 72, 2, 174, 4, []), none, none, some (41, 1, 0, 0, 0, 0, [])] -- X5_shown
def zc_96 : List (Option PI) := [some (2, 1, 0, 0, 0, 0, []), some (1, 1, 1, 0, 0, 0, []), some (40, 3, 106, 2, 136, 5, []), none, none, some (4, 1, 3, 0, 0, 0, []), some (2, 1, 3, 0, 0, 0, []), some (31, 3, 0, 0, 17, 0, []), none, none, some (1, 1, 2, 0, 0, 0, []), some (49, 3, 104, 1, 77, 0, []), none, none, some (29, 3, 1, 0, 19, 0, []), none, none, some (5, 1, 0, 0, 0, (-1), []), some (41, 1, 0, 0, 0, 0, []), some (2, 1, 3, 0, 0, 0, []), some (40, 3, 63, 1, 177, 4, []), none, none, some (29, 3, 0, 0, 29, 0, []), none, none, some (5, 2, 0, 0, 0, (-3), []), none, some (41, 1, 0, 0, 0, 0, []), some (2, 1, 0, 0, 0, 0, []), some (8, 3, 5, 0, 12, 0, []), none, none, some (5, 2, 0, 0, 0, 16, []), none, some (5, 1, 0, 0, 0, 0, []), some (5, 1, 0, 0, 0, 0, []), some (5, 1, 0, 0, 0, 0, []), some (1, 1, 2, 0, 0, 0, []), some (5, 1, 0, 0, 0, 0, []), some (40, 3, 26, 7, 181, 2, []), none, none, some (2, 1, 0, 0, 0, 0, []), some (8, 3, 5, 3, 31, 0, []), none, none, some (2, 1, 3, 0, 0, 0, []), some (5, 2, 0, 0, 0, 16, []), none, some (2, 1, 0, 0, 0, 0, []), some (8, 3, 5, 6, 49, 0, []), none, none, some (40, 3, 39, 4, 144, 3, []), none, none, some (2, 1, 0, 0, 0, 0, []), some (8, 3, 5, 6, 49, 0, []), none, none, some (40, 3, 15, 1, 155, 1, []), none, none, some (41, 1, 0, 0, 0, 0, [])] -- X5_spare
def zc_97 : List (Option PI) := [some (2, 1, 0, 0, 0, 0, []), some (1, 1, 1, 0, 0, 0, []), some (40, 3, 106, 2, 136, 5, []), none, none, some (4, 2, 4, 0, 0, 0, []), none, some (2, 2, 4, 0, 0, 0, []), none, some (31, 3, 0, 0, 33, 0, []), none, none, some (2, 1, 0, 0, 0, 0, []), some (1, 1, 2, 0, 0, 0, []), some (40, 3, 112, 2, 185, 5, []), none, none, some (29, 3, 0, 0, 33, 0, []), none, none, some (2, 1, 0, 0, 0, 0, []), some (1, 1, 3, 0, 0, 0, []), some (40, 3, 112, 2, 185, 5, []), none, none, some (29, 3, 0, 0, 33, 0, []), none, none, some (1, 1, 2, 0, 0, 0, []), some (1, 1, 3, 0, 0, 0, []), some (30, 3, 1, 0, 35, 0, []), none, none, some (5, 1, 0, 0, 0, (-1), []), some (41, 1, 0, 0, 0, 0, []), some (2, 1, 0, 0, 0, 0, []), some (8, 3, 5, 0, 12, 0, []), none, none, some (1, 1, 2, 0, 0, 0, []), some (1, 1, 3, 0, 0, 0, []), some (40, 3, 37, 3, 188, 2, []), none, none, some (3, 2, 5, 0, 0, 0, []), none, some (1, 2, 5, 0, 0, 0, []), none, some (29, 3, 0, 0, 71, 0, []), none, none, some (2, 1, 0, 0, 0, 0, []), some (2, 2, 4, 0, 0, 0, []), none, some (1, 1, 2, 0, 0, 0, []), some (40, 3, 113, 3, 191, 5, []), none, none, some (29, 3, 0, 0, 71, 0, []), none, none, some (2, 1, 0, 0, 0, 0, []), some (2, 2, 4, 0, 0, 0, []), none, some (1, 1, 3, 0, 0, 0, []), some (40, 3, 113, 3, 191, 5, []), none, none, some (29, 3, 1, 0, 74, 0, []), none, none, some (5, 2, 0, 0, 0, (-2), []), none, some (41, 1, 0, 0, 0, 0, []), some (2, 1, 0, 0, 0, 0, []), some (8, 3, 5, 0, 12, 0, []), none, none, some (1, 1, 2, 0, 0, 0, []), some (1, 1, 3, 0, 0, 0, []), some (40, 3, 36, 3, 133, 2, []), none, none, some (29, 3, 0, 0, 90, 0, []), none, none, some (1, 1, 2, 0, 0, 0, []), some (28, 3, 0, 0, 91, 0, []), none, none, some (1, 1, 3, 0, 0, 0, []), some (3, 2, 6, 0, 0, 0, []), none, some (1, 2, 6, 0, 0, 0, []), none, some (1, 1, 2, 0, 0, 0, []), some (30, 3, 1, 0, 103, 0, []), none, none, some (1, 1, 3, 0, 0, 0, []), some (28, 3, 0, 0, 104, 0, []), none, none, some (1, 1, 2, 0, 0, 0, []), some (3, 2, 7, 0, 0, 0, []), none, some (2, 1, 0, 0, 0, 0, []), some (2, 2, 4, 0, 0, 0, []), none, some (1, 2, 6, 0, 0, 0, []), none, some (1, 2, 7, 0, 0, 0, []), none, some (1, 2, 5, 0, 0, 0, []), none, some (40, 3, 114, 5, 195, 5, []), none, none, some (29, 3, 1, 0, 124, 0, []), none, none, some (5, 2, 0, 0, 0, (-2), []), none, some (41, 1, 0, 0, 0, 0, []), some (2, 1, 0, 0, 0, 0, []), some (8, 3, 5, 4, 38, 0, []), none, none, some (2, 1, 0, 0, 0, 0, []), some (8, 3, 5, 1, 21, 0, []), none, none, some (40, 3, 75, 1, 199, 4, []), none, none, some (2, 1, 0, 0, 0, 0, []), some (8, 3, 5, 2, 25, 0, []), none, none, some (40, 3, 75, 1, 199, 4, []), none, none, some (2, 1, 0, 0, 0, 0, []), some (7, 3, 5, 8, 56, 0, []), none, none, some (1, 2, 6, 0, 0, 0, []), none, some (2, 1, 0, 0, 0, 0, []), some (8, 3, 5, 0, 12, 0, []), none, none, some (1, 2, 6, 0, 0, 0, []), none, some (40, 3, 31, 2, 107, 2, []), none, none, some (40, 3, 3, 6, 202, 0, []), none, none, some (2, 2, 4, 0, 0, 0, []), none, some (2, 2, 4, 0, 0, 0, []), none, some (1, 2, 7, 0, 0, 0, []), none, some (40, 3, 60, 2, 116, 4, []), none, none, some (40, 3, 64, 2, 162, 4, []), none, none, some (2, 1, 0, 0, 0, 0, []), some (8, 3, 5, 0, 12, 0, []), none, none, some (1, 2, 6, 0, 0, 0, []), none, some (2, 1, 0, 0, 0, 0, []), some (8, 3, 5, 0, 12, 0, []), none, none, some (1, 2, 6, 0, 0, 0, []), none, some (40, 3, 31, 2, 107, 2, []), none, none, some (1, 2, 5, 0, 0, 0, []), none, some (5, 1, 0, 0, 0, (-1), []), some (23, 1, 0, 0, 0, 0, []), some (21, 1, 0, 0, 0, 0, []), some (40, 3, 27, 3, 206, 2, []), none, none, some (2, 1, 0, 0, 0, 0, []), some (8, 3, 5, 5, 45, 0, []), none, none, some (40, 3, 13, 1, 72, 1, []), none, none, some (1, 2, 6, 0, 0, 0, []), none, some (41, 1, 0, 0, 0, 0, [])] -- X5_melt
def zc_98 : List (Option PI) := [some (2, 1, 0, 0, 0, 0, []), some (40, 3, 111, 1, 148, 5, []), none, none, some (2, 1, 0, 0, 0, 0, []), some (5, 1, 0, 0, 0, 1, []), some (2, 1, 0, 0, 0, 0, []), some (7, 3, 5, 8, 56, 0, []), none, none, some (17, 1, 0, 0, 0, 0, []), some (9, 3, 5, 8, 56, 0, []), none, none, some (2, 1, 0, 0, 0, 0, []), some (7, 3, 5, 8, 56, 0, []), none, none, some (41, 1, 0, 0, 0, 0, [])] -- X5_over
def zc_99 : List (Option PI) := [some (5, 1, 0, 0, 0, 0, []), some (3, 1, 1, 0, 0, 0, []), some (5, 1, 0, 0, 0, 0, []), some (3, 1, 2, 0, 0, 0, []), some (1, 1, 2, 0, 0, 0, []), some (5, 2, 0, 0, 0, 32, []), none, some (30, 3, 3, 0, 38, 0, []), none, none, some (2, 1, 0, 0, 0, 0, []), some (8, 3, 5, 1, 21, 0, []), none, none, some (1, 1, 2, 0, 0, 0, []), some (40, 3, 67, 2, 168, 4, []), none, none, some (2, 1, 0, 0, 0, 0, []), some (8, 3, 5, 2, 25, 0, []), none, none, some (1, 1, 2, 0, 0, 0, []), some (40, 3, 67, 2, 168, 4, []), none, none, some (30, 3, 0, 0, 32, 0, []), none, none, some (27, 3, 1, 0, 0, 1, []), none, none, some (27, 3, 2, 0, 0, 1, []), none, none, some (28, 3, 0, 0, 4, 0, []), none, none, some (1, 1, 1, 0, 0, 0, []), some (41, 1, 0, 0, 0, 0, [])] -- X5_differ
def zc_100 : List (Option PI) := [some (2, 1, 0, 0, 0, 0, []), some (1, 1, 1, 0, 0, 0, []), some (40, 3, 106, 2, 136, 5, []), none, none, some (4, 1, 2, 0, 0, 0, []), some (2, 1, 0, 0, 0, 0, []), some (5, 1, 0, 0, 0, 1, []), some (1, 1, 1, 0, 0, 0, []), some (17, 1, 0, 0, 0, 0, []), some (40, 3, 106, 2, 136, 5, []), none, none, some (4, 1, 3, 0, 0, 0, []), some (2, 1, 2, 0, 0, 0, []), some (31, 3, 0, 0, 22, 0, []), none, none, some (2, 1, 3, 0, 0, 0, []), some (32, 3, 0, 0, 24, 0, []), none, none, some (5, 1, 0, 0, 0, (-1), []), some (41, 1, 0, 0, 0, 0, []), some (2, 1, 3, 0, 0, 0, []), some (40, 3, 62, 1, 209, 4, []), none, none, some (29, 3, 5, 0, 34, 0, []), none, none, some (5, 2, 0, 0, 0, (-2), []), none, some (41, 1, 0, 0, 0, 0, []), some (2, 1, 0, 0, 0, 0, []), some (40, 3, 111, 1, 148, 5, []), none, none, some (5, 1, 0, 0, 0, 0, []), some (3, 2, 4, 0, 0, 0, []), none, some (2, 1, 2, 0, 0, 0, []), some (5, 1, 0, 0, 0, (-1), []), some (40, 3, 74, 2, 212, 4, []), none, none, some (3, 2, 5, 0, 0, 0, []), none, some (5, 1, 0, 0, 0, 0, []), some (3, 2, 6, 0, 0, 0, []), none, some (1, 2, 6, 0, 0, 0, []), none, some (5, 2, 0, 0, 0, 6, []), none, some (30, 3, 3, 0, 112, 0, []), none, none, some (1, 2, 5, 0, 0, 0, []), none, some (5, 1, 0, 0, 0, (-1), []), some (30, 3, 0, 0, 112, 0, []), none, none, some (2, 1, 0, 0, 0, 0, []), some (8, 3, 5, 3, 31, 0, []), none, none, some (2, 1, 3, 0, 0, 0, []), some (1, 2, 5, 0, 0, 0, []), none, some (2, 1, 0, 0, 0, 0, []), some (8, 3, 5, 6, 49, 0, []), none, none, some (40, 3, 39, 4, 144, 3, []), none, none, some (2, 1, 3, 0, 0, 0, []), some (2, 1, 0, 0, 0, 0, []), some (8, 3, 5, 6, 49, 0, []), none, none, some (40, 3, 66, 2, 151, 4, []), none, none, some (1, 2, 4, 0, 0, 0, []), none, some (2, 1, 0, 0, 0, 0, []), some (8, 3, 5, 6, 49, 0, []), none, none, some (40, 3, 15, 1, 155, 1, []), none, none, some (16, 1, 0, 0, 0, 0, []), some (3, 2, 4, 0, 0, 0, []), none, some (2, 1, 2, 0, 0, 0, []), some (1, 2, 5, 0, 0, 0, []), none, some (40, 3, 74, 2, 212, 4, []), none, none, some (3, 2, 5, 0, 0, 0, []), none, some (27, 3, 6, 0, 0, 1, []), none, none, some (28, 3, 0, 0, 51, 0, []), none, none, some (2, 1, 0, 0, 0, 0, []), some (8, 3, 5, 5, 45, 0, []), none, none, some (40, 3, 13, 1, 72, 1, []), none, none, some (1, 2, 4, 0, 0, 0, []), none, some (41, 1, 0, 0, 0, 0, [])] -- X5_build
def zc_101 : List (Option PI) := [some (2, 1, 0, 0, 0, 0, []), some (8, 3, 5, 4, 38, 0, []), none, none, some (40, 3, 2, 1, 215, 0, []), none, none, some (29, 3, 1, 0, 13, 0, []), none, none, some (5, 2, 0, 0, 0, (-2), []), none, some (41, 1, 0, 0, 0, 0, []), some (2, 1, 0, 0, 0, 0, []), some (8, 3, 5, 1, 21, 0, []), none, none, some (2, 1, 0, 0, 0, 0, []), some (8, 3, 5, 4, 38, 0, []), none, none, some (40, 3, 7, 1, 216, 0, []), none, none, some (40, 3, 76, 2, 219, 4, []), none, none, some (2, 1, 0, 0, 0, 0, []), some (8, 3, 5, 2, 25, 0, []), none, none, some (2, 1, 0, 0, 0, 0, []), some (8, 3, 5, 4, 38, 0, []), none, none, some (40, 3, 8, 1, 222, 0, []), none, none, some (40, 3, 76, 2, 219, 4, []), none, none, some (2, 1, 0, 0, 0, 0, []), some (2, 1, 0, 0, 0, 0, []), some (8, 3, 5, 4, 38, 0, []), none, none, some (40, 3, 9, 1, 225, 0, []), none, none, some (9, 3, 5, 8, 56, 0, []), none, none, some (2, 1, 0, 0, 0, 0, []), some (8, 3, 5, 4, 38, 0, []), none, none, some (40, 3, 10, 1, 228, 0, []), none, none, some (5, 1, 0, 0, 0, (-1), []), some (30, 3, 0, 0, 84, 0, []), none, none, some (2, 1, 0, 0, 0, 0, []), some (8, 3, 5, 0, 12, 0, []), none, none, some (2, 1, 0, 0, 0, 0, []), some (8, 3, 5, 4, 38, 0, []), none, none, some (40, 3, 10, 1, 228, 0, []), none, none, some (2, 1, 0, 0, 0, 0, []), some (8, 3, 5, 4, 38, 0, []), none, none, some (40, 3, 11, 1, 231, 0, []), none, none, some (40, 3, 27, 3, 206, 2, []), none, none, some (2, 1, 0, 0, 0, 0, []), some (8, 3, 5, 4, 38, 0, []), none, none, some (40, 3, 4, 1, 234, 0, []), none, none, some (2, 1, 0, 0, 0, 0, []), some (8, 3, 5, 5, 45, 0, []), none, none, some (40, 3, 13, 1, 72, 1, []), none, none, some (2, 1, 0, 0, 0, 0, []), some (8, 3, 5, 4, 38, 0, []), none, none, some (40, 3, 2, 1, 215, 0, []), none, none, some (41, 1, 0, 0, 0, 0, [])] -- X5_undo
def zc_102 : List (Option PI) := [some (1, 1, 1, 0, 0, 0, []), some (34, 39, 0, 0, 88, 5, [40, 51, 59, 67, 75, 80]), none, none, none, none, none, none, none, none, none, none, none, none, none, none, none, none, none, none, none, none, none, none, none, none, none, none, none, none, none, none, none, none, none, none, none, none, none, none, some (5, 2, 0, 0, 0, 16, []), none, some (2, 1, 0, 0, 0, 0, []), some (8, 3, 5, 0, 12, 0, []), none, none, some (40, 3, 24, 1, 91, 2, []), none, none, some (17, 1, 0, 0, 0, 0, []), some (41, 1, 0, 0, 0, 0, []), some (2, 1, 0, 0, 0, 0, []), some (8, 3, 5, 1, 21, 0, []), none, none, some (40, 3, 62, 1, 209, 4, []), none, none, some (41, 1, 0, 0, 0, 0, []), some (2, 1, 0, 0, 0, 0, []), some (8, 3, 5, 2, 25, 0, []), none, none, some (40, 3, 62, 1, 209, 4, []), none, none, some (41, 1, 0, 0, 0, 0, []), some (2, 1, 0, 0, 0, 0, []), some (8, 3, 5, 1, 21, 0, []), none, none, some (40, 3, 57, 1, 60, 4, []), none, none, some (41, 1, 0, 0, 0, 0, []), some (2, 1, 0, 0, 0, 0, []), some (7, 3, 5, 8, 56, 0, []), none, none, some (41, 1, 0, 0, 0, 0, []), some (2, 1, 0, 0, 0, 0, []), some (8, 3, 5, 4, 38, 0, []), none, none, some (40, 3, 2, 1, 215, 0, []), none, none, some (41, 1, 0, 0, 0, 0, []), some (5, 1, 0, 0, 0, (-1), []), some (41, 1, 0, 0, 0, 0, [])] -- X5_count
def zc_103 : List (Option PI) := [some (1, 1, 0, 0, 0, 0, []), some (29, 3, 2, 0, 14, 0, []), none, none, some (1, 1, 0, 0, 0, 0, []), some (5, 2, 0, 0, 0, 32, []), none, some (30, 3, 3, 0, 14, 0, []), none, none, some (5, 1, 0, 0, 0, 1, []), some (28, 3, 0, 0, 15, 0, []), none, none, some (5, 1, 0, 0, 0, 0, []), some (42, 1, 0, 0, 0, 0, [])] -- X5_isKey
def zc_104 : List (Option PI) := [some (1, 1, 0, 0, 0, 0, []), some (29, 3, 2, 0, 14, 0, []), none, none, some (1, 1, 0, 0, 0, 0, []), some (5, 2, 0, 0, 0, 100, []), none, some (30, 3, 3, 0, 14, 0, []), none, none, some (5, 1, 0, 0, 0, 1, []), some (28, 3, 0, 0, 15, 0, []), none, none, some (5, 1, 0, 0, 0, 0, []), some (42, 1, 0, 0, 0, 0, [])] -- X5_isRank
def zc_105 : List (Option PI) := [some (1, 1, 0, 0, 0, 0, []), some (29, 3, 2, 0, 14, 0, []), none, none, some (1, 1, 0, 0, 0, 0, []), some (5, 2, 0, 0, 0, 16, []), none, some (30, 3, 3, 0, 14, 0, []), none, none, some (5, 1, 0, 0, 0, 1, []), some (28, 3, 0, 0, 15, 0, []), none, none, some (5, 1, 0, 0, 0, 0, []), some (42, 1, 0, 0, 0, 0, [])] -- X5_isAct
def zc_106 : List (Option PI) := [some (1, 1, 1, 0, 0, 0, []), some (29, 3, 2, 0, 9, 0, []), none, none, some (1, 1, 1, 0, 0, 0, []), some (5, 1, 0, 0, 0, 2, []), some (30, 3, 2, 0, 11, 0, []), none, none, some (6, 1, 0, 0, 0, 0, []), some (43, 1, 0, 0, 0, 0, []), some (1, 1, 1, 0, 0, 0, []), some (29, 3, 1, 0, 22, 0, []), none, none, some (2, 1, 0, 0, 0, 0, []), some (8, 3, 5, 1, 21, 0, []), none, none, some (28, 3, 0, 0, 26, 0, []), none, none, some (2, 1, 0, 0, 0, 0, []), some (8, 3, 5, 2, 25, 0, []), none, none, some (43, 1, 0, 0, 0, 0, [])] -- X5_tableNumbered
def zc_107 : List (Option PI) := [some (2, 1, 0, 0, 0, 0, []), some (8, 3, 5, 0, 12, 0, []), none, none, some (40, 3, 25, 1, 237, 2, []), none, none, some (3, 2, 6, 0, 0, 0, []), none, some (1, 2, 6, 0, 0, 0, []), none, some (5, 1, 0, 0, 0, (-1), []), some (30, 3, 1, 0, 18, 0, []), none, none, some (5, 2, 0, 0, 0, (-3), []), none, some (41, 1, 0, 0, 0, 0, []), some (2, 1, 0, 0, 0, 0, []), some (8, 3, 5, 0, 12, 0, []), none, none, some (1, 2, 6, 0, 0, 0, []), none, some (1, 1, 1, 0, 0, 0, []), some (1, 1, 2, 0, 0, 0, []), some (1, 1, 3, 0, 0, 0, []), some (1, 2, 4, 0, 0, 0, []), none, some (1, 2, 5, 0, 0, 0, []), none, some (40, 3, 26, 7, 181, 2, []), none, none, some (1, 2, 6, 0, 0, 0, []), none, some (41, 1, 0, 0, 0, 0, [])] -- X5_ruleMade
def zc_108 : List (Option PI) := [some (5, 1, 0, 0, 0, 1, []), some (3, 1, 2, 0, 0, 0, []), some (5, 1, 0, 0, 0, 0, []), some (3, 1, 3, 0, 0, 0, []), some (1, 1, 3, 0, 0, 0, []), some (5, 1, 0, 0, 0, 5, []), some (30, 3, 3, 0, 44, 0, []), none, none, some (1, 1, 2, 0, 0, 0, []), some (5, 1, 0, 0, 0, 2, []), some (18, 1, 0, 0, 0, 0, []), some (3, 2, 4, 0, 0, 0, []), none, some (1, 1, 0, 0, 0, 0, []), some (1, 2, 4, 0, 0, 0, []), none, some (5, 1, 0, 0, 0, 1, []), some (17, 1, 0, 0, 0, 0, []), some (21, 1, 0, 0, 0, 0, []), some (29, 3, 1, 0, 33, 0, []), none, none, some (1, 1, 0, 0, 0, 0, []), some (1, 2, 4, 0, 0, 0, []), none, some (16, 1, 0, 0, 0, 0, []), some (5, 1, 0, 0, 0, 1, []), some (17, 1, 0, 0, 0, 0, []), some (1, 1, 1, 0, 0, 0, []), some (30, 3, 5, 0, 35, 0, []), none, none, some (1, 1, 2, 0, 0, 0, []), some (41, 1, 0, 0, 0, 0, []), some (1, 2, 4, 0, 0, 0, []), none, some (3, 1, 2, 0, 0, 0, []), some (27, 3, 3, 0, 0, 1, []), none, none, some (28, 3, 0, 0, 4, 0, []), none, none, some (1, 1, 2, 0, 0, 0, []), some (41, 1, 0, 0, 0, 0, [])] -- X5_keysOfRow
def zc_109 : List (Option PI) := [some (5, 1, 0, 0, 0, 0, []), some (3, 1, 2, 0, 0, 0, []), some (1, 1, 0, 0, 0, 0, []), some (3, 1, 3, 0, 0, 0, []), some (5, 1, 0, 0, 0, 0, []), some (3, 2, 4, 0, 0, 0, []), none, some (1, 2, 4, 0, 0, 0, []), none, some (5, 2, 0, 0, 0, 32, []), none, some (30, 3, 3, 0, 36, 0, []), none, none, some (1, 1, 3, 0, 0, 0, []), some (1, 1, 1, 0, 0, 0, []), some (30, 3, 4, 0, 36, 0, []), none, none, some (1, 1, 3, 0, 0, 0, []), some (1, 1, 3, 0, 0, 0, []), some (1, 1, 1, 0, 0, 0, []), some (49, 3, 108, 2, 94, 0, []), none, none, some (16, 1, 0, 0, 0, 0, []), some (3, 1, 3, 0, 0, 0, []), some (27, 3, 2, 0, 0, 1, []), none, none, some (27, 3, 4, 0, 0, 1, []), none, none, some (28, 3, 0, 0, 7, 0, []), none, none, some (1, 1, 2, 0, 0, 0, []), some (41, 1, 0, 0, 0, 0, [])] -- X5_rowsOfSpan
def zc_110 : List (Option PI) := [some (2, 1, 1, 0, 0, 0, []), some (31, 3, 0, 0, 15, 0, []), none, none, some (2, 1, 0, 0, 0, 0, []), some (8, 3, 5, 0, 12, 0, []), none, none, some (1, 1, 2, 0, 0, 0, []), some (40, 3, 23, 2, 97, 2, []), none, none, some (29, 3, 1, 0, 17, 0, []), none, none, some (5, 1, 0, 0, 0, (-1), []), some (41, 1, 0, 0, 0, 0, []), some (2, 1, 1, 0, 0, 0, []), some (1, 1, 2, 0, 0, 0, []), some (40, 3, 61, 2, 119, 4, []), none, none, some (29, 3, 0, 0, 28, 0, []), none, none, some (5, 2, 0, 0, 0, (-2), []), none, some (41, 1, 0, 0, 0, 0, []), some (2, 1, 1, 0, 0, 0, []), some (40, 3, 63, 1, 177, 4, []), none, none, some (29, 3, 0, 0, 40, 0, []), none, none, some (5, 2, 0, 0, 0, (-3), []), none, some (28, 3, 0, 0, 41, 0, []), none, none, some (5, 1, 0, 0, 0, 0, []), some (41, 1, 0, 0, 0, 0, [])] -- X5_refusedPut
def zc_111 : List (Option PI) := [some (2, 1, 0, 0, 0, 0, []), some (8, 3, 5, 4, 38, 0, []), none, none, some (2, 1, 0, 0, 0, 0, []), some (8, 3, 5, 1, 21, 0, []), none, none, some (40, 3, 75, 1, 199, 4, []), none, none, some (2, 1, 0, 0, 0, 0, []), some (8, 3, 5, 2, 25, 0, []), none, none, some (40, 3, 75, 1, 199, 4, []), none, none, some (2, 1, 0, 0, 0, 0, []), some (7, 3, 5, 8, 56, 0, []), none, none, some (5, 1, 0, 0, 0, (-1), []), some (5, 1, 0, 0, 0, 0, []), some (40, 3, 3, 6, 202, 0, []), none, none, some (44, 1, 0, 0, 0, 0, [])] -- X5_remember
def zc_112 : List (Option PI) := [some (2, 1, 0, 0, 0, 0, []), some (8, 3, 5, 0, 12, 0, []), none, none, some (1, 1, 1, 0, 0, 0, []), some (40, 3, 23, 2, 97, 2, []), none, none, some (29, 3, 0, 0, 27, 0, []), none, none, some (2, 1, 0, 0, 0, 0, []), some (8, 3, 5, 0, 12, 0, []), none, none, some (1, 1, 1, 0, 0, 0, []), some (40, 3, 29, 2, 100, 2, []), none, none, some (5, 1, 0, 0, 0, 2, []), some (30, 3, 0, 0, 27, 0, []), none, none, some (5, 1, 0, 0, 0, 1, []), some (28, 3, 0, 0, 28, 0, []), none, none, some (5, 1, 0, 0, 0, 0, []), some (42, 1, 0, 0, 0, 0, [])] -- X5_isMeltable
def zc_113 : List (Option PI) := [some (2, 1, 1, 0, 0, 0, []), some (2, 1, 0, 0, 0, 0, []), some (8, 3, 5, 1, 21, 0, []), none, none, some (33, 3, 0, 0, 15, 0, []), none, none, some (2, 1, 0, 0, 0, 0, []), some (8, 3, 5, 2, 25, 0, []), none, none, some (28, 3, 0, 0, 19, 0, []), none, none, some (2, 1, 0, 0, 0, 0, []), some (8, 3, 5, 1, 21, 0, []), none, none, some (4, 1, 3, 0, 0, 0, []), some (2, 1, 1, 0, 0, 0, []), some (1, 1, 2, 0, 0, 0, []), some (40, 3, 61, 2, 119, 4, []), none, none, some (29, 3, 0, 0, 40, 0, []), none, none, some (2, 1, 3, 0, 0, 0, []), some (1, 1, 2, 0, 0, 0, []), some (40, 3, 61, 2, 119, 4, []), none, none, some (29, 3, 1, 0, 40, 0, []), none, none, some (5, 1, 0, 0, 0, 1, []), some (28, 3, 0, 0, 41, 0, []), none, none, some (5, 1, 0, 0, 0, 0, []), some (42, 1, 0, 0, 0, 0, [])] -- X5_standsOnlyIn
def zc_114 : List (Option PI) := [some (2, 1, 1, 0, 0, 0, []), some (1, 1, 3, 0, 0, 0, []), some (40, 3, 60, 2, 116, 4, []), none, none, some (3, 2, 5, 0, 0, 0, []), none, some (2, 1, 0, 0, 0, 0, []), some (8, 3, 5, 0, 12, 0, []), none, none, some (1, 1, 2, 0, 0, 0, []), some (40, 3, 31, 2, 107, 2, []), none, none, some (3, 2, 6, 0, 0, 0, []), none, some (2, 1, 1, 0, 0, 0, []), some (2, 1, 0, 0, 0, 0, []), some (8, 3, 5, 7, 52, 0, []), none, none, some (40, 3, 69, 2, 240, 4, []), none, none, some (2, 1, 1, 0, 0, 0, []), some (1, 2, 5, 0, 0, 0, []), none, some (40, 3, 64, 2, 162, 4, []), none, none, some (2, 1, 0, 0, 0, 0, []), some (8, 3, 5, 0, 12, 0, []), none, none, some (1, 1, 2, 0, 0, 0, []), some (1, 2, 6, 0, 0, 0, []), none, some (1, 2, 4, 0, 0, 0, []), none, some (5, 1, 0, 0, 0, (-1), []), some (23, 1, 0, 0, 0, 0, []), some (21, 1, 0, 0, 0, 0, []), some (40, 3, 27, 3, 206, 2, []), none, none, some (2, 1, 1, 0, 0, 0, []), some (40, 3, 71, 1, 244, 4, []), none, none, some (29, 3, 0, 0, 68, 0, []), none, none, some (2, 1, 1, 0, 0, 0, []), some (2, 1, 0, 0, 0, 0, []), some (8, 3, 5, 7, 52, 0, []), none, none, some (40, 3, 70, 2, 247, 4, []), none, none, some (29, 3, 0, 0, 68, 0, []), none, none, some (5, 1, 0, 0, 0, 1, []), some (28, 3, 0, 0, 69, 0, []), none, none, some (5, 1, 0, 0, 0, 0, []), some (3, 2, 7, 0, 0, 0, []), none, some (2, 1, 0, 0, 0, 0, []), some (8, 3, 5, 0, 12, 0, []), none, none, some (1, 1, 2, 0, 0, 0, []), some (1, 2, 6, 0, 0, 0, []), none, some (40, 3, 27, 3, 206, 2, []), none, none, some (2, 1, 1, 0, 0, 0, []), some (1, 1, 3, 0, 0, 0, []), some (1, 2, 5, 0, 0, 0, []), none, some (40, 3, 65, 3, 251, 4, []), none, none, some (1, 2, 7, 0, 0, 0, []), none, some (42, 1, 0, 0, 0, 0, [])] -- X5_meltHolds
def zc_115 : List (Option PI) := [some (1, 1, 0, 0, 0, 0, []), some (1, 1, 1, 0, 0, 0, []), some (30, 3, 2, 0, 14, 0, []), none, none, some (1, 1, 0, 0, 0, 0, []), some (1, 1, 2, 0, 0, 0, []), some (30, 3, 4, 0, 14, 0, []), none, none, some (5, 1, 0, 0, 0, 1, []), some (28, 3, 0, 0, 15, 0, []), none, none, some (5, 1, 0, 0, 0, 0, []), some (42, 1, 0, 0, 0, 0, [])] -- X6_in
def zc_116 : List (Option PI) := [some (2, 1, 0, 0, 0, 0, []), some (45, 3, 0, 0, 1, 0, []), none, none, some (2, 1, 0, 0, 0, 0, []), some (5, 2, 0, 0, 0, 16, []), none, some (35, 2, 8, 0, 0, 0, []), none, some (10, 3, 6, 0, 7, 0, []), none, none, some (2, 1, 0, 0, 0, 0, []), some (5, 2, 0, 0, 0, 16, []), none, some (35, 2, 7, 0, 0, 0, []), none, some (10, 3, 6, 1, 13, 0, []), none, none, some (2, 1, 0, 0, 0, 0, []), some (5, 2, 0, 0, 0, 17, []), none, some (35, 2, 7, 0, 0, 0, []), none, some (10, 3, 6, 2, 17, 0, []), none, none, some (2, 1, 0, 0, 0, 0, []), some (5, 2, 0, 0, 0, 17, []), none, some (35, 2, 7, 0, 0, 0, []), none, some (10, 3, 6, 3, 20, 0, []), none, none, some (2, 1, 0, 0, 0, 0, []), some (5, 2, 0, 0, 0, 17, []), none, some (35, 2, 7, 0, 0, 0, []), none, some (10, 3, 6, 4, 23, 0, []), none, none, some (2, 1, 0, 0, 0, 0, []), some (5, 2, 0, 0, 0, 16, []), none, some (35, 2, 7, 0, 0, 0, []), none, some (10, 3, 6, 5, 26, 0, []), none, none, some (2, 1, 0, 0, 0, 0, []), some (5, 2, 0, 0, 0, 6, []), none, some (9, 3, 6, 6, 29, 0, []), none, none, some (2, 1, 0, 0, 0, 0, []), some (5, 2, 0, 0, 0, 12, []), none, some (35, 2, 7, 0, 0, 0, []), none, some (10, 3, 6, 8, 33, 0, []), none, none, some (2, 1, 0, 0, 0, 0, []), some (5, 3, 0, 0, 0, 320, []), none, none, some (35, 2, 7, 0, 0, 0, []), none, some (10, 3, 6, 10, 36, 0, []), none, none, some (2, 1, 0, 0, 0, 0, []), some (5, 2, 0, 0, 39, 117649, []), none, some (35, 2, 8, 0, 0, 0, []), none, some (10, 3, 6, 11, 40, 0, []), none, none, some (2, 1, 0, 0, 0, 0, []), some (5, 3, 0, 0, 0, 2000, []), none, none, some (35, 2, 7, 0, 0, 0, []), none, some (10, 3, 6, 12, 43, 0, []), none, none, some (2, 1, 0, 0, 0, 0, []), some (5, 3, 0, 0, 0, 2000, []), none, none, some (35, 2, 7, 0, 0, 0, []), none, some (10, 3, 6, 13, 46, 0, []), none, none, some (2, 1, 0, 0, 0, 0, []), some (5, 3, 0, 0, 0, 2000, []), none, none, some (35, 2, 7, 0, 0, 0, []), none, some (10, 3, 6, 14, 49, 0, []), none, none, some (2, 1, 0, 0, 0, 0, []), some (5, 3, 0, 0, 0, 2000, []), none, none, some (35, 2, 7, 0, 0, 0, []), none, some (10, 3, 6, 15, 52, 0, []), none, none, some (2, 1, 0, 0, 0, 0, []), some (5, 2, 0, 0, 0, 6, []), none, some (35, 2, 7, 0, 0, 0, []), none, some (10, 3, 6, 17, 55, 0, []), none, none, some (2, 1, 0, 0, 0, 0, []), some (5, 2, 0, 0, 0, 6, []), none, some (35, 2, 7, 0, 0, 0, []), none, some (10, 3, 6, 19, 58, 0, []), none, none, some (2, 1, 0, 0, 0, 0, []), some (5, 3, 0, 0, 0, 2000, []), none, none, some (35, 2, 7, 0, 0, 0, []), none, some (10, 3, 6, 22, 61, 0, []), none, none, some (2, 1, 0, 0, 0, 0, []), some (5, 3, 0, 0, 0, 2000, []), none, none, some (35, 2, 7, 0, 0, 0, []), none, some (10, 3, 6, 23, 64, 0, []), none, none, some (2, 1, 0, 0, 0, 0, []), some (5, 2, 0, 0, 0, 32, []), none, some (35, 2, 7, 0, 0, 0, []), none, some (10, 3, 6, 24, 67, 0, []), none, none, some (2, 1, 0, 0, 0, 0, []), some (40, 3, 117, 1, 70, 6, []), none, none, some (44, 1, 0, 0, 0, 0, [])] -- X6_init
def zc_117 : List (Option PI) := [some (5, 1, 0, 0, 0, 0, []), some (3, 1, 1, 0, 0, 0, []), some (1, 1, 1, 0, 0, 0, []), some (5, 2, 0, 0, 0, 12, []), none, some (30, 3, 3, 0, 22, 0, []), none, none, some (2, 1, 0, 0, 0, 0, []), some (8, 3, 6, 8, 33, 0, []), none, none, some (1, 1, 1, 0, 0, 0, []), some (5, 2, 0, 0, 0, (-2), []), none, some (12, 1, 0, 0, 0, 0, []), some (27, 3, 1, 0, 0, 1, []), none, none, some (28, 3, 0, 0, 2, 0, []), none, none, some (44, 1, 0, 0, 0, 0, [])] -- X6_clearTables
def zc_118 : List (Option PI) := [some (1, 1, 1, 0, 0, 0, []), some (5, 1, 0, 0, 0, 0, []), some (5, 2, 0, 0, 0, 15, []), none, some (49, 3, 115, 3, 73, 0, []), none, none, some (29, 3, 0, 0, 23, 0, []), none, none, some (2, 1, 0, 0, 0, 0, []), some (8, 3, 6, 0, 7, 0, []), none, none, some (1, 1, 1, 0, 0, 0, []), some (13, 1, 0, 0, 0, 0, []), some (29, 3, 0, 0, 23, 0, []), none, none, some (5, 1, 0, 0, 0, 1, []), some (28, 3, 0, 0, 24, 0, []), none, none, some (5, 1, 0, 0, 0, 0, []), some (42, 1, 0, 0, 0, 0, [])] -- X6_isRule
def zc_119 : List (Option PI) := [some (1, 1, 0, 0, 0, 0, []), some (5, 1, 0, 0, 0, 0, []), some (5, 1, 0, 0, 0, 1, []), some (49, 3, 115, 3, 73, 0, []), none, none, some (42, 1, 0, 0, 0, 0, [])] -- X6_isTable
def zc_120 : List (Option PI) := [some (1, 1, 2, 0, 0, 0, []), some (2, 1, 0, 0, 0, 0, []), some (8, 3, 6, 3, 20, 0, []), none, none, some (1, 1, 1, 0, 0, 0, []), some (11, 1, 0, 0, 0, 0, []), some (21, 1, 0, 0, 0, 0, []), some (2, 1, 0, 0, 0, 0, []), some (8, 3, 6, 2, 17, 0, []), none, none, some (1, 1, 1, 0, 0, 0, []), some (11, 1, 0, 0, 0, 0, []), some (30, 3, 1, 0, 21, 0, []), none, none, some (5, 1, 0, 0, 0, 1, []), some (28, 3, 0, 0, 22, 0, []), none, none, some (5, 1, 0, 0, 0, 0, []), some (42, 1, 0, 0, 0, 0, [])] -- X6_fits
def zc_121 : List (Option PI) := [some (2, 1, 0, 0, 0, 0, []), some (8, 3, 6, 2, 17, 0, []), none, none, some (1, 1, 1, 0, 0, 0, []), some (11, 1, 0, 0, 0, 0, []), some (2, 1, 0, 0, 0, 0, []), some (8, 3, 6, 2, 17, 0, []), none, none, some (1, 1, 2, 0, 0, 0, []), some (11, 1, 0, 0, 0, 0, []), some (23, 1, 0, 0, 0, 0, []), some (2, 1, 0, 0, 0, 0, []), some (8, 3, 6, 3, 20, 0, []), none, none, some (1, 1, 1, 0, 0, 0, []), some (11, 1, 0, 0, 0, 0, []), some (21, 1, 0, 0, 0, 0, []), some (2, 1, 0, 0, 0, 0, []), some (8, 3, 6, 3, 20, 0, []), none, none, some (1, 1, 2, 0, 0, 0, []), some (11, 1, 0, 0, 0, 0, []), some (21, 1, 0, 0, 0, 0, []), some (29, 3, 1, 0, 34, 0, []), none, none, some (5, 1, 0, 0, 0, 1, []), some (28, 3, 0, 0, 35, 0, []), none, none, some (5, 1, 0, 0, 0, 0, []), some (42, 1, 0, 0, 0, 0, [])] -- X6_doOverlap
def zc_122 : List (Option PI) := [some (2, 1, 0, 0, 0, 0, []), some (8, 3, 6, 4, 23, 0, []), none, none, some (1, 1, 1, 0, 0, 0, []), some (11, 1, 0, 0, 0, 0, []), some (2, 1, 0, 0, 0, 0, []), some (8, 3, 6, 4, 23, 0, []), none, none, some (1, 1, 2, 0, 0, 0, []), some (11, 1, 0, 0, 0, 0, []), some (30, 3, 4, 0, 35, 0, []), none, none, some (2, 1, 0, 0, 0, 0, []), some (8, 3, 6, 4, 23, 0, []), none, none, some (1, 1, 1, 0, 0, 0, []), some (11, 1, 0, 0, 0, 0, []), some (2, 1, 0, 0, 0, 0, []), some (8, 3, 6, 4, 23, 0, []), none, none, some (1, 1, 2, 0, 0, 0, []), some (11, 1, 0, 0, 0, 0, []), some (30, 3, 1, 0, 39, 0, []), none, none, some (1, 1, 1, 0, 0, 0, []), some (1, 1, 2, 0, 0, 0, []), some (30, 3, 3, 0, 39, 0, []), none, none, some (5, 1, 0, 0, 0, 1, []), some (28, 3, 0, 0, 40, 0, []), none, none, some (5, 1, 0, 0, 0, 0, []), some (42, 1, 0, 0, 0, 0, [])] -- X6_isHigher
def zc_123 : List (Option PI) := [some (2, 1, 0, 0, 0, 0, []), some (7, 3, 6, 9, 77, 0, []), none, none, some (5, 2, 0, 0, 0, 20, []), none, some (30, 3, 1, 0, 50, 0, []), none, none, some (5, 2, 0, 0, 0, 16, []), none, some (3, 1, 2, 0, 0, 0, []), some (1, 1, 2, 0, 0, 0, []), some (5, 3, 0, 0, 0, 320, []), none, none, some (30, 3, 3, 0, 40, 0, []), none, none, some (2, 1, 0, 0, 0, 0, []), some (8, 3, 6, 10, 36, 0, []), none, none, some (1, 1, 2, 0, 0, 0, []), some (5, 2, 0, 0, 0, 16, []), none, some (17, 1, 0, 0, 0, 0, []), some (2, 1, 0, 0, 0, 0, []), some (8, 3, 6, 10, 36, 0, []), none, none, some (1, 1, 2, 0, 0, 0, []), some (11, 1, 0, 0, 0, 0, []), some (12, 1, 0, 0, 0, 0, []), some (27, 3, 2, 0, 0, 1, []), none, none, some (28, 3, 0, 0, 12, 0, []), none, none, some (2, 1, 0, 0, 0, 0, []), some (37, 1, 0, 0, 0, 0, []), some (7, 3, 6, 9, 77, 0, []), none, none, some (5, 1, 0, 0, 0, 1, []), some (17, 1, 0, 0, 0, 0, []), some (9, 3, 6, 9, 77, 0, []), none, none, some (5, 2, 0, 0, 0, 16, []), none, some (2, 1, 0, 0, 0, 0, []), some (7, 3, 6, 9, 77, 0, []), none, none, some (18, 1, 0, 0, 0, 0, []), some (3, 1, 2, 0, 0, 0, []), some (5, 1, 0, 0, 0, 0, []), some (3, 1, 3, 0, 0, 0, []), some (1, 1, 3, 0, 0, 0, []), some (5, 2, 0, 0, 0, 12, []), none, some (30, 3, 3, 0, 86, 0, []), none, none, some (2, 1, 0, 0, 0, 0, []), some (8, 3, 6, 10, 36, 0, []), none, none, some (1, 1, 2, 0, 0, 0, []), some (1, 1, 3, 0, 0, 0, []), some (16, 1, 0, 0, 0, 0, []), some (2, 1, 0, 0, 0, 0, []), some (8, 3, 6, 8, 33, 0, []), none, none, some (1, 1, 3, 0, 0, 0, []), some (11, 1, 0, 0, 0, 0, []), some (12, 1, 0, 0, 0, 0, []), some (27, 3, 3, 0, 0, 1, []), none, none, some (28, 3, 0, 0, 60, 0, []), none, none, some (2, 1, 0, 0, 0, 0, []), some (8, 3, 6, 10, 36, 0, []), none, none, some (1, 1, 2, 0, 0, 0, []), some (5, 2, 0, 0, 0, 12, []), none, some (16, 1, 0, 0, 0, 0, []), some (2, 1, 0, 0, 0, 0, []), some (7, 3, 6, 7, 80, 0, []), none, none, some (12, 1, 0, 0, 0, 0, []), some (2, 1, 0, 0, 0, 0, []), some (8, 3, 6, 10, 36, 0, []), none, none, some (1, 1, 2, 0, 0, 0, []), some (5, 2, 0, 0, 0, 13, []), none, some (16, 1, 0, 0, 0, 0, []), some (1, 1, 1, 0, 0, 0, []), some (12, 1, 0, 0, 0, 0, []), some (2, 1, 0, 0, 0, 0, []), some (8, 3, 6, 10, 36, 0, []), none, none, some (1, 1, 2, 0, 0, 0, []), some (5, 2, 0, 0, 0, 14, []), none, some (16, 1, 0, 0, 0, 0, []), some (1, 1, 1, 0, 0, 0, []), some (29, 3, 3, 0, 125, 0, []), none, none, some (5, 1, 0, 0, 0, 0, []), some (28, 3, 0, 0, 131, 0, []), none, none, some (2, 1, 0, 0, 0, 0, []), some (8, 3, 6, 3, 20, 0, []), none, none, some (1, 1, 1, 0, 0, 0, []), some (11, 1, 0, 0, 0, 0, []), some (12, 1, 0, 0, 0, 0, []), some (2, 1, 0, 0, 0, 0, []), some (8, 3, 6, 10, 36, 0, []), none, none, some (1, 1, 2, 0, 0, 0, []), some (5, 2, 0, 0, 0, 15, []), none, some (16, 1, 0, 0, 0, 0, []), some (1, 1, 1, 0, 0, 0, []), some (29, 3, 3, 0, 148, 0, []), none, none, some (5, 1, 0, 0, 0, 0, []), some (28, 3, 0, 0, 154, 0, []), none, none, some (2, 1, 0, 0, 0, 0, []), some (8, 3, 6, 2, 17, 0, []), none, none, some (1, 1, 1, 0, 0, 0, []), some (11, 1, 0, 0, 0, 0, []), some (12, 1, 0, 0, 0, 0, []), some (2, 1, 0, 0, 0, 0, []), some (37, 1, 0, 0, 0, 0, []), some (7, 3, 6, 9, 77, 0, []), none, none, some (5, 1, 0, 0, 0, 1, []), some (16, 1, 0, 0, 0, 0, []), some (9, 3, 6, 9, 77, 0, []), none, none, some (44, 1, 0, 0, 0, 0, [])] -- X6_keep
def zc_124 : List (Option PI) := [some (2, 1, 0, 0, 0, 0, []), some (7, 3, 6, 9, 77, 0, []), none, none, some (29, 3, 1, 0, 10, 0, []), none, none, some (5, 2, 0, 0, 0, (-2), []), none, some (41, 1, 0, 0, 0, 0, []), some (2, 1, 0, 0, 0, 0, []), some (37, 1, 0, 0, 0, 0, []), some (7, 3, 6, 9, 77, 0, []), none, none, some (5, 1, 0, 0, 0, 1, []), some (17, 1, 0, 0, 0, 0, []), some (9, 3, 6, 9, 77, 0, []), none, none, some (5, 2, 0, 0, 0, 16, []), none, some (2, 1, 0, 0, 0, 0, []), some (7, 3, 6, 9, 77, 0, []), none, none, some (18, 1, 0, 0, 0, 0, []), some (3, 1, 1, 0, 0, 0, []), some (5, 1, 0, 0, 0, 0, []), some (3, 1, 2, 0, 0, 0, []), some (1, 1, 2, 0, 0, 0, []), some (5, 2, 0, 0, 0, 12, []), none, some (30, 3, 3, 0, 56, 0, []), none, none, some (2, 1, 0, 0, 0, 0, []), some (8, 3, 6, 8, 33, 0, []), none, none, some (1, 1, 2, 0, 0, 0, []), some (2, 1, 0, 0, 0, 0, []), some (8, 3, 6, 10, 36, 0, []), none, none, some (1, 1, 1, 0, 0, 0, []), some (1, 1, 2, 0, 0, 0, []), some (16, 1, 0, 0, 0, 0, []), some (11, 1, 0, 0, 0, 0, []), some (12, 1, 0, 0, 0, 0, []), some (27, 3, 2, 0, 0, 1, []), none, none, some (28, 3, 0, 0, 30, 0, []), none, none, some (2, 1, 0, 0, 0, 0, []), some (2, 1, 0, 0, 0, 0, []), some (8, 3, 6, 10, 36, 0, []), none, none, some (1, 1, 1, 0, 0, 0, []), some (5, 2, 0, 0, 0, 12, []), none, some (16, 1, 0, 0, 0, 0, []), some (11, 1, 0, 0, 0, 0, []), some (9, 3, 6, 7, 80, 0, []), none, none, some (2, 1, 0, 0, 0, 0, []), some (8, 3, 6, 10, 36, 0, []), none, none, some (1, 1, 1, 0, 0, 0, []), some (5, 2, 0, 0, 0, 13, []), none, some (16, 1, 0, 0, 0, 0, []), some (11, 1, 0, 0, 0, 0, []), some (3, 1, 2, 0, 0, 0, []), some (1, 1, 2, 0, 0, 0, []), some (29, 3, 2, 0, 113, 0, []), none, none, some (2, 1, 0, 0, 0, 0, []), some (8, 3, 6, 3, 20, 0, []), none, none, some (1, 1, 2, 0, 0, 0, []), some (2, 1, 0, 0, 0, 0, []), some (8, 3, 6, 10, 36, 0, []), none, none, some (1, 1, 1, 0, 0, 0, []), some (5, 2, 0, 0, 0, 14, []), none, some (16, 1, 0, 0, 0, 0, []), some (11, 1, 0, 0, 0, 0, []), some (12, 1, 0, 0, 0, 0, []), some (2, 1, 0, 0, 0, 0, []), some (8, 3, 6, 2, 17, 0, []), none, none, some (1, 1, 2, 0, 0, 0, []), some (2, 1, 0, 0, 0, 0, []), some (8, 3, 6, 10, 36, 0, []), none, none, some (1, 1, 1, 0, 0, 0, []), some (5, 2, 0, 0, 0, 15, []), none, some (16, 1, 0, 0, 0, 0, []), some (11, 1, 0, 0, 0, 0, []), some (12, 1, 0, 0, 0, 0, []), some (2, 1, 0, 0, 0, 0, []), some (5, 1, 0, 0, 0, 0, []), some (9, 3, 6, 21, 83, 0, []), none, none, some (2, 1, 0, 0, 0, 0, []), some (7, 3, 6, 9, 77, 0, []), none, none, some (41, 1, 0, 0, 0, 0, [])] -- X6_undo
def zc_125 : List (Option PI) := [some (1, 1, 1, 0, 0, 0, []), some (5, 1, 0, 0, 0, 2, []), some (5, 2, 0, 0, 0, 6, []), none, some (49, 3, 115, 3, 73, 0, []), none, none, some (29, 3, 1, 0, 12, 0, []), none, none, some (5, 1, 0, 0, 0, (-1), []), some (41, 1, 0, 0, 0, 0, []), some (2, 1, 0, 0, 0, 0, []), some (7, 3, 6, 6, 29, 0, []), none, none, some (3, 1, 2, 0, 0, 0, []), some (2, 1, 0, 0, 0, 0, []), some (1, 1, 1, 0, 0, 0, []), some (9, 3, 6, 6, 29, 0, []), none, none, some (2, 1, 0, 0, 0, 0, []), some (5, 1, 0, 0, 0, 0, []), some (9, 3, 6, 7, 80, 0, []), none, none, some (2, 1, 0, 0, 0, 0, []), some (5, 1, 0, 0, 0, 0, []), some (9, 3, 6, 9, 77, 0, []), none, none, some (2, 1, 0, 0, 0, 0, []), some (5, 1, 0, 0, 0, 0, []), some (9, 3, 6, 21, 83, 0, []), none, none, some (2, 1, 0, 0, 0, 0, []), some (40, 3, 117, 1, 70, 6, []), none, none, some (5, 1, 0, 0, 0, 0, []), some (3, 1, 3, 0, 0, 0, []), some (1, 1, 3, 0, 0, 0, []), some (5, 2, 0, 0, 0, 16, []), none, some (30, 3, 3, 0, 62, 0, []), none, none, some (2, 1, 0, 0, 0, 0, []), some (8, 3, 6, 0, 7, 0, []), none, none, some (1, 1, 3, 0, 0, 0, []), some (5, 1, 0, 0, 0, 0, []), some (14, 1, 0, 0, 0, 0, []), some (27, 3, 3, 0, 0, 1, []), none, none, some (28, 3, 0, 0, 43, 0, []), none, none, some (1, 1, 2, 0, 0, 0, []), some (41, 1, 0, 0, 0, 0, [])] -- X6_places
def zc_126 : List (Option PI) := [some (5, 1, 0, 0, 0, 0, []), some (3, 1, 1, 0, 0, 0, []), some (5, 1, 0, 0, 0, 0, []), some (3, 1, 2, 0, 0, 0, []), some (1, 1, 2, 0, 0, 0, []), some (5, 2, 0, 0, 0, 16, []), none, some (30, 3, 3, 0, 33, 0, []), none, none, some (1, 1, 1, 0, 0, 0, []), some (2, 1, 0, 0, 0, 0, []), some (8, 3, 6, 0, 7, 0, []), none, none, some (1, 1, 2, 0, 0, 0, []), some (13, 1, 0, 0, 0, 0, []), some (29, 3, 0, 0, 24, 0, []), none, none, some (5, 1, 0, 0, 0, 0, []), some (28, 3, 0, 0, 25, 0, []), none, none, some (5, 1, 0, 0, 0, 1, []), some (16, 1, 0, 0, 0, 0, []), some (3, 1, 1, 0, 0, 0, []), some (27, 3, 2, 0, 0, 1, []), none, none, some (28, 3, 0, 0, 4, 0, []), none, none, some (1, 1, 1, 0, 0, 0, []), some (41, 1, 0, 0, 0, 0, [])] -- X6_freeRules
def zc_127 : List (Option PI) := [some (5, 1, 0, 0, 0, 0, []), some (3, 2, 6, 0, 0, 0, []), none, some (2, 1, 0, 0, 0, 0, []), some (8, 3, 6, 0, 7, 0, []), none, none, some (1, 2, 6, 0, 0, 0, []), none, some (13, 1, 0, 0, 0, 0, []), some (29, 3, 0, 0, 19, 0, []), none, none, some (27, 3, 6, 0, 0, 1, []), none, none, some (28, 3, 0, 0, 3, 0, []), none, none, some (2, 1, 0, 0, 0, 0, []), some (8, 3, 6, 0, 7, 0, []), none, none, some (1, 2, 6, 0, 0, 0, []), none, some (5, 1, 0, 0, 0, 1, []), some (14, 1, 0, 0, 0, 0, []), some (2, 1, 0, 0, 0, 0, []), some (8, 3, 6, 1, 13, 0, []), none, none, some (1, 2, 6, 0, 0, 0, []), none, some (1, 1, 1, 0, 0, 0, []), some (12, 1, 0, 0, 0, 0, []), some (2, 1, 0, 0, 0, 0, []), some (8, 3, 6, 2, 17, 0, []), none, none, some (1, 2, 6, 0, 0, 0, []), none, some (1, 1, 2, 0, 0, 0, []), some (1, 1, 3, 0, 0, 0, []), some (21, 1, 0, 0, 0, 0, []), some (12, 1, 0, 0, 0, 0, []), some (2, 1, 0, 0, 0, 0, []), some (8, 3, 6, 3, 20, 0, []), none, none, some (1, 2, 6, 0, 0, 0, []), none, some (1, 1, 3, 0, 0, 0, []), some (12, 1, 0, 0, 0, 0, []), some (2, 1, 0, 0, 0, 0, []), some (8, 3, 6, 4, 23, 0, []), none, none, some (1, 2, 6, 0, 0, 0, []), none, some (1, 2, 4, 0, 0, 0, []), none, some (12, 1, 0, 0, 0, 0, []), some (2, 1, 0, 0, 0, 0, []), some (8, 3, 6, 5, 26, 0, []), none, none, some (1, 2, 6, 0, 0, 0, []), none, some (1, 2, 5, 0, 0, 0, []), none, some (12, 1, 0, 0, 0, 0, []), some (1, 2, 6, 0, 0, 0, []), none, some (41, 1, 0, 0, 0, 0, [])] -- X6_add
def zc_128 : List (Option PI) := [some (1, 1, 1, 0, 0, 0, []), some (5, 1, 0, 0, 0, 0, []), some (5, 2, 0, 0, 0, 31, []), none, some (49, 3, 115, 3, 73, 0, []), none, none, some (29, 3, 0, 0, 41, 0, []), none, none, some (1, 1, 2, 0, 0, 0, []), some (5, 1, 0, 0, 0, 0, []), some (5, 2, 0, 0, 0, 31, []), none, some (49, 3, 115, 3, 73, 0, []), none, none, some (29, 3, 0, 0, 41, 0, []), none, none, some (1, 1, 3, 0, 0, 0, []), some (5, 1, 0, 0, 0, 0, []), some (5, 2, 0, 0, 0, 99, []), none, some (49, 3, 115, 3, 73, 0, []), none, none, some (29, 3, 0, 0, 41, 0, []), none, none, some (1, 2, 4, 0, 0, 0, []), none, some (5, 1, 0, 0, 0, 0, []), some (5, 2, 0, 0, 0, 15, []), none, some (49, 3, 115, 3, 73, 0, []), none, none, some (29, 3, 1, 0, 43, 0, []), none, none, some (5, 1, 0, 0, 0, (-1), []), some (41, 1, 0, 0, 0, 0, []), some (2, 1, 0, 0, 0, 0, []), some (40, 3, 126, 1, 86, 6, []), none, none, some (29, 3, 1, 0, 55, 0, []), none, none, some (5, 2, 0, 0, 0, (-3), []), none, some (28, 3, 0, 0, 65, 0, []), none, none, some (2, 1, 0, 0, 0, 0, []), some (5, 1, 0, 0, 0, 0, []), some (1, 1, 1, 0, 0, 0, []), some (1, 1, 2, 0, 0, 0, []), some (1, 1, 3, 0, 0, 0, []), some (1, 2, 4, 0, 0, 0, []), none, some (40, 3, 127, 6, 90, 6, []), none, none, some (41, 1, 0, 0, 0, 0, [])] -- X6_rule
def zc_129 : List (Option PI) := [some (1, 1, 1, 0, 0, 0, []), some (5, 1, 0, 0, 0, 0, []), some (5, 2, 0, 0, 0, 15, []), none, some (49, 3, 115, 3, 73, 0, []), none, none, some (29, 3, 1, 0, 14, 0, []), none, none, some (5, 1, 0, 0, 0, (-1), []), some (28, 3, 0, 0, 35, 0, []), none, none, some (2, 1, 0, 0, 0, 0, []), some (40, 3, 126, 1, 86, 6, []), none, none, some (29, 3, 1, 0, 26, 0, []), none, none, some (5, 2, 0, 0, 0, (-3), []), none, some (28, 3, 0, 0, 35, 0, []), none, none, some (2, 1, 0, 0, 0, 0, []), some (5, 1, 0, 0, 0, 2, []), some (5, 1, 0, 0, 0, 0, []), some (5, 1, 0, 0, 0, 0, []), some (5, 1, 0, 0, 0, 0, []), some (1, 1, 1, 0, 0, 0, []), some (40, 3, 127, 6, 90, 6, []), none, none, some (41, 1, 0, 0, 0, 0, [])] -- X6_last
def zc_130 : List (Option PI) := [some (5, 1, 0, 0, 0, 1, []), some (3, 1, 2, 0, 0, 0, []), some (1, 1, 2, 0, 0, 0, []), some (5, 2, 0, 0, 0, 32, []), none, some (30, 3, 3, 0, 34, 0, []), none, none, some (1, 1, 0, 0, 0, 0, []), some (5, 1, 0, 0, 0, 2, []), some (1, 1, 2, 0, 0, 0, []), some (18, 1, 0, 0, 0, 0, []), some (20, 1, 0, 0, 0, 0, []), some (29, 3, 1, 0, 34, 0, []), none, none, some (1, 1, 0, 0, 0, 0, []), some (5, 1, 0, 0, 0, 2, []), some (1, 1, 2, 0, 0, 0, []), some (18, 1, 0, 0, 0, 0, []), some (16, 1, 0, 0, 0, 0, []), some (5, 1, 0, 0, 0, 1, []), some (17, 1, 0, 0, 0, 0, []), some (1, 1, 1, 0, 0, 0, []), some (30, 3, 4, 0, 34, 0, []), none, none, some (1, 1, 2, 0, 0, 0, []), some (5, 1, 0, 0, 0, 2, []), some (18, 1, 0, 0, 0, 0, []), some (3, 1, 2, 0, 0, 0, []), some (28, 3, 0, 0, 2, 0, []), none, none, some (1, 1, 2, 0, 0, 0, []), some (41, 1, 0, 0, 0, 0, [])] -- X6_sizeOf
def zc_131 : List (Option PI) := [some (1, 1, 1, 0, 0, 0, []), some (5, 1, 0, 0, 0, 0, []), some (5, 2, 0, 0, 0, 31, []), none, some (49, 3, 115, 3, 73, 0, []), none, none, some (29, 3, 0, 0, 41, 0, []), none, none, some (1, 1, 2, 0, 0, 0, []), some (1, 1, 1, 0, 0, 0, []), some (5, 2, 0, 0, 0, 31, []), none, some (49, 3, 115, 3, 73, 0, []), none, none, some (29, 3, 0, 0, 41, 0, []), none, none, some (1, 1, 3, 0, 0, 0, []), some (5, 1, 0, 0, 0, 0, []), some (5, 2, 0, 0, 0, 99, []), none, some (49, 3, 115, 3, 73, 0, []), none, none, some (29, 3, 0, 0, 41, 0, []), none, none, some (1, 2, 4, 0, 0, 0, []), none, some (5, 1, 0, 0, 0, 0, []), some (5, 2, 0, 0, 0, 15, []), none, some (49, 3, 115, 3, 73, 0, []), none, none, some (29, 3, 1, 0, 43, 0, []), none, none, some (5, 1, 0, 0, 0, (-1), []), some (41, 1, 0, 0, 0, 0, []), some (5, 1, 0, 0, 0, 0, []), some (3, 2, 5, 0, 0, 0, []), none, some (1, 1, 1, 0, 0, 0, []), some (3, 2, 6, 0, 0, 0, []), none, some (1, 2, 6, 0, 0, 0, []), none, some (1, 1, 2, 0, 0, 0, []), some (30, 3, 4, 0, 72, 0, []), none, none, some (27, 3, 5, 0, 0, 1, []), none, none, some (1, 2, 6, 0, 0, 0, []), none, some (1, 2, 6, 0, 0, 0, []), none, some (1, 1, 2, 0, 0, 0, []), some (49, 3, 130, 2, 94, 0, []), none, none, some (16, 1, 0, 0, 0, 0, []), some (3, 2, 6, 0, 0, 0, []), none, some (28, 3, 0, 0, 49, 0, []), none, none, some (1, 2, 5, 0, 0, 0, []), none, some (2, 1, 0, 0, 0, 0, []), some (40, 3, 126, 1, 86, 6, []), none, none, some (30, 3, 5, 0, 84, 0, []), none, none, some (5, 2, 0, 0, 0, (-3), []), none, some (41, 1, 0, 0, 0, 0, []), some (1, 1, 1, 0, 0, 0, []), some (3, 2, 6, 0, 0, 0, []), none, some (1, 2, 6, 0, 0, 0, []), none, some (1, 1, 2, 0, 0, 0, []), some (30, 3, 4, 0, 128, 0, []), none, none, some (2, 1, 0, 0, 0, 0, []), some (5, 1, 0, 0, 0, 1, []), some (1, 2, 6, 0, 0, 0, []), none, some (5, 2, 0, 0, 0, 32, []), none, some (1, 2, 6, 0, 0, 0, []), none, some (1, 1, 2, 0, 0, 0, []), some (49, 3, 130, 2, 94, 0, []), none, none, some (17, 1, 0, 0, 0, 0, []), some (1, 1, 3, 0, 0, 0, []), some (1, 2, 4, 0, 0, 0, []), none, some (40, 3, 127, 6, 90, 6, []), none, none, some (3, 2, 7, 0, 0, 0, []), none, some (1, 2, 6, 0, 0, 0, []), none, some (1, 2, 6, 0, 0, 0, []), none, some (1, 1, 2, 0, 0, 0, []), some (49, 3, 130, 2, 94, 0, []), none, none, some (16, 1, 0, 0, 0, 0, []), some (3, 2, 6, 0, 0, 0, []), none, some (28, 3, 0, 0, 87, 0, []), none, none, some (1, 2, 5, 0, 0, 0, []), none, some (41, 1, 0, 0, 0, 0, [])] -- X6_span
def zc_132 : List (Option PI) := [some (5, 1, 0, 0, 0, 0, []), some (3, 1, 3, 0, 0, 0, []), some (1, 1, 3, 0, 0, 0, []), some (2, 1, 0, 0, 0, 0, []), some (7, 3, 6, 6, 29, 0, []), none, none, some (30, 3, 3, 0, 33, 0, []), none, none, some (2, 1, 0, 0, 0, 0, []), some (8, 3, 6, 8, 33, 0, []), none, none, some (5, 2, 0, 0, 0, 6, []), none, some (1, 1, 1, 0, 0, 0, []), some (18, 1, 0, 0, 0, 0, []), some (1, 1, 3, 0, 0, 0, []), some (16, 1, 0, 0, 0, 0, []), some (11, 1, 0, 0, 0, 0, []), some (1, 1, 2, 0, 0, 0, []), some (30, 3, 1, 0, 27, 0, []), none, none, some (1, 1, 3, 0, 0, 0, []), some (41, 1, 0, 0, 0, 0, []), some (27, 3, 3, 0, 0, 1, []), none, none, some (28, 3, 0, 0, 2, 0, []), none, none, some (5, 1, 0, 0, 0, (-1), []), some (41, 1, 0, 0, 0, 0, [])] -- X6_placeOf
def zc_133 : List (Option PI) := [some (2, 1, 0, 0, 0, 0, []), some (1, 1, 1, 0, 0, 0, []), some (40, 3, 118, 2, 98, 6, []), none, none, some (29, 3, 1, 0, 11, 0, []), none, none, some (5, 2, 0, 0, 0, (-101), []), none, some (41, 1, 0, 0, 0, 0, []), some (1, 1, 2, 0, 0, 0, []), some (34, 44, 0, 0, 100, 6, [56, 63, 70, 77, 84, 91, 91]), none, none, none, none, none, none, none, none, none, none, none, none, none, none, none, none, none, none, none, none, none, none, none, none, none, none, none, none, none, none, none, none, none, none, none, none, none, none, none, none, none, none, none, some (2, 1, 0, 0, 0, 0, []), some (8, 3, 6, 1, 13, 0, []), none, none, some (1, 1, 1, 0, 0, 0, []), some (11, 1, 0, 0, 0, 0, []), some (41, 1, 0, 0, 0, 0, []), some (2, 1, 0, 0, 0, 0, []), some (8, 3, 6, 2, 17, 0, []), none, none, some (1, 1, 1, 0, 0, 0, []), some (11, 1, 0, 0, 0, 0, []), some (41, 1, 0, 0, 0, 0, []), some (2, 1, 0, 0, 0, 0, []), some (8, 3, 6, 3, 20, 0, []), none, none, some (1, 1, 1, 0, 0, 0, []), some (11, 1, 0, 0, 0, 0, []), some (41, 1, 0, 0, 0, 0, []), some (2, 1, 0, 0, 0, 0, []), some (8, 3, 6, 4, 23, 0, []), none, none, some (1, 1, 1, 0, 0, 0, []), some (11, 1, 0, 0, 0, 0, []), some (41, 1, 0, 0, 0, 0, []), some (2, 1, 0, 0, 0, 0, []), some (8, 3, 6, 5, 26, 0, []), none, none, some (1, 1, 1, 0, 0, 0, []), some (11, 1, 0, 0, 0, 0, []), some (41, 1, 0, 0, 0, 0, []), some (2, 1, 0, 0, 0, 0, []), some (1, 1, 2, 0, 0, 0, []), some (5, 1, 0, 0, 0, 5, []), some (17, 1, 0, 0, 0, 0, []), some (1, 1, 1, 0, 0, 0, []), some (40, 3, 132, 3, 102, 6, []), none, none, some (41, 1, 0, 0, 0, 0, []), some (5, 2, 0, 0, 0, (-101), []), none, some (41, 1, 0, 0, 0, 0, [])] -- X6_told
def zc_134 : List (Option PI) := [some (2, 1, 0, 0, 0, 0, []), some (1, 1, 1, 0, 0, 0, []), some (40, 3, 118, 2, 98, 6, []), none, none, some (29, 3, 1, 0, 10, 0, []), none, none, some (5, 1, 0, 0, 0, (-1), []), some (41, 1, 0, 0, 0, 0, []), some (2, 1, 0, 0, 0, 0, []), some (5, 1, 0, 0, 0, 0, []), some (1, 1, 1, 0, 0, 0, []), some (40, 3, 132, 3, 102, 6, []), none, none, some (29, 3, 3, 0, 28, 0, []), none, none, some (2, 1, 0, 0, 0, 0, []), some (5, 1, 0, 0, 0, 1, []), some (1, 1, 1, 0, 0, 0, []), some (40, 3, 132, 3, 102, 6, []), none, none, some (29, 3, 2, 0, 31, 0, []), none, none, some (5, 2, 0, 0, 0, (-2), []), none, some (41, 1, 0, 0, 0, 0, []), some (2, 1, 0, 0, 0, 0, []), some (8, 3, 6, 0, 7, 0, []), none, none, some (1, 1, 1, 0, 0, 0, []), some (5, 1, 0, 0, 0, 0, []), some (14, 1, 0, 0, 0, 0, []), some (2, 1, 0, 0, 0, 0, []), some (5, 1, 0, 0, 0, 0, []), some (9, 3, 6, 9, 77, 0, []), none, none, some (5, 1, 0, 0, 0, 1, []), some (41, 1, 0, 0, 0, 0, [])] -- X6_drop
def zc_135 : List (Option PI) := [some (2, 1, 0, 0, 0, 0, []), some (1, 1, 1, 0, 0, 0, []), some (40, 3, 118, 2, 98, 6, []), none, none, some (29, 3, 0, 0, 18, 0, []), none, none, some (1, 1, 2, 0, 0, 0, []), some (5, 1, 0, 0, 0, 0, []), some (5, 2, 0, 0, 0, 15, []), none, some (49, 3, 115, 3, 73, 0, []), none, none, some (29, 3, 1, 0, 20, 0, []), none, none, some (5, 1, 0, 0, 0, (-1), []), some (41, 1, 0, 0, 0, 0, []), some (2, 1, 0, 0, 0, 0, []), some (8, 3, 6, 1, 13, 0, []), none, none, some (1, 1, 1, 0, 0, 0, []), some (11, 1, 0, 0, 0, 0, []), some (5, 1, 0, 0, 0, 2, []), some (30, 3, 1, 0, 33, 0, []), none, none, some (5, 2, 0, 0, 0, (-13), []), none, some (41, 1, 0, 0, 0, 0, []), some (2, 1, 0, 0, 0, 0, []), some (8, 3, 6, 5, 26, 0, []), none, none, some (1, 1, 1, 0, 0, 0, []), some (11, 1, 0, 0, 0, 0, []), some (3, 1, 3, 0, 0, 0, []), some (2, 1, 0, 0, 0, 0, []), some (8, 3, 6, 5, 26, 0, []), none, none, some (1, 1, 1, 0, 0, 0, []), some (1, 1, 2, 0, 0, 0, []), some (12, 1, 0, 0, 0, 0, []), some (2, 1, 0, 0, 0, 0, []), some (5, 1, 0, 0, 0, 0, []), some (9, 3, 6, 9, 77, 0, []), none, none, some (1, 1, 3, 0, 0, 0, []), some (41, 1, 0, 0, 0, 0, [])] -- X6_act
def zc_136 : List (Option PI) := [some (2, 1, 0, 0, 0, 0, []), some (1, 1, 1, 0, 0, 0, []), some (40, 3, 118, 2, 98, 6, []), none, none, some (29, 3, 0, 0, 16, 0, []), none, none, some (2, 1, 0, 0, 0, 0, []), some (1, 1, 2, 0, 0, 0, []), some (40, 3, 118, 2, 98, 6, []), none, none, some (29, 3, 1, 0, 20, 0, []), none, none, some (5, 1, 0, 0, 0, (-1), []), some (28, 3, 0, 0, 34, 0, []), none, none, some (2, 1, 0, 0, 0, 0, []), some (1, 1, 1, 0, 0, 0, []), some (1, 1, 2, 0, 0, 0, []), some (40, 3, 121, 3, 105, 6, []), none, none, some (29, 3, 0, 0, 33, 0, []), none, none, some (5, 1, 0, 0, 0, 1, []), some (28, 3, 0, 0, 34, 0, []), none, none, some (5, 1, 0, 0, 0, 0, []), some (41, 1, 0, 0, 0, 0, [])] -- X6_overlap
def zc_137 : List (Option PI) := [some (2, 1, 0, 0, 0, 0, []), some (1, 1, 1, 0, 0, 0, []), some (40, 3, 118, 2, 98, 6, []), none, none, some (29, 3, 0, 0, 16, 0, []), none, none, some (2, 1, 0, 0, 0, 0, []), some (1, 1, 2, 0, 0, 0, []), some (40, 3, 118, 2, 98, 6, []), none, none, some (29, 3, 1, 0, 20, 0, []), none, none, some (5, 1, 0, 0, 0, (-1), []), some (28, 3, 0, 0, 43, 0, []), none, none, some (1, 1, 1, 0, 0, 0, []), some (1, 1, 2, 0, 0, 0, []), some (30, 3, 1, 0, 29, 0, []), none, none, some (5, 1, 0, 0, 0, 0, []), some (28, 3, 0, 0, 43, 0, []), none, none, some (2, 1, 0, 0, 0, 0, []), some (1, 1, 1, 0, 0, 0, []), some (1, 1, 2, 0, 0, 0, []), some (40, 3, 122, 3, 109, 6, []), none, none, some (29, 3, 0, 0, 42, 0, []), none, none, some (5, 1, 0, 0, 0, 1, []), some (28, 3, 0, 0, 43, 0, []), none, none, some (5, 1, 0, 0, 0, 2, []), some (41, 1, 0, 0, 0, 0, [])] -- X6_higher
def zc_138 : List (Option PI) := [some (5, 1, 0, 0, 0, 0, []), some (3, 1, 1, 0, 0, 0, []), some (2, 1, 0, 0, 0, 0, []), some (7, 3, 6, 6, 29, 0, []), none, none, some (5, 1, 0, 0, 0, 1, []), some (17, 1, 0, 0, 0, 0, []), some (3, 1, 2, 0, 0, 0, []), some (1, 1, 2, 0, 0, 0, []), some (29, 3, 2, 0, 31, 0, []), none, none, some (5, 2, 0, 0, 0, 7, []), none, some (1, 1, 1, 0, 0, 0, []), some (18, 1, 0, 0, 0, 0, []), some (2, 1, 0, 0, 0, 0, []), some (8, 3, 6, 19, 58, 0, []), none, none, some (1, 1, 2, 0, 0, 0, []), some (11, 1, 0, 0, 0, 0, []), some (16, 1, 0, 0, 0, 0, []), some (3, 1, 1, 0, 0, 0, []), some (27, 3, 2, 0, 0, (-1), []), none, none, some (28, 3, 0, 0, 9, 0, []), none, none, some (1, 1, 1, 0, 0, 0, []), some (41, 1, 0, 0, 0, 0, [])] -- X6_codeOf
def zc_139 : List (Option PI) := [some (1, 1, 1, 0, 0, 0, []), some (3, 1, 2, 0, 0, 0, []), some (5, 1, 0, 0, 0, 0, []), some (3, 1, 3, 0, 0, 0, []), some (1, 1, 3, 0, 0, 0, []), some (2, 1, 0, 0, 0, 0, []), some (7, 3, 6, 6, 29, 0, []), none, none, some (30, 3, 3, 0, 33, 0, []), none, none, some (2, 1, 0, 0, 0, 0, []), some (8, 3, 6, 19, 58, 0, []), none, none, some (1, 1, 3, 0, 0, 0, []), some (1, 1, 2, 0, 0, 0, []), some (5, 2, 0, 0, 0, 7, []), none, some (20, 1, 0, 0, 0, 0, []), some (12, 1, 0, 0, 0, 0, []), some (1, 1, 2, 0, 0, 0, []), some (5, 2, 0, 0, 0, 7, []), none, some (19, 1, 0, 0, 0, 0, []), some (3, 1, 2, 0, 0, 0, []), some (27, 3, 3, 0, 0, 1, []), none, none, some (28, 3, 0, 0, 4, 0, []), none, none, some (44, 1, 0, 0, 0, 0, [])] -- X6_setRow
def zc_140 : List (Option PI) := [some (5, 1, 0, 0, 0, 1, []), some (3, 1, 3, 0, 0, 0, []), some (5, 1, 0, 0, 0, 0, []), some (3, 2, 4, 0, 0, 0, []), none, some (1, 2, 4, 0, 0, 0, []), none, some (2, 1, 0, 0, 0, 0, []), some (7, 3, 6, 6, 29, 0, []), none, none, some (30, 3, 3, 0, 101, 0, []), none, none, some (1, 2, 4, 0, 0, 0, []), none, some (1, 1, 2, 0, 0, 0, []), some (30, 3, 0, 0, 95, 0, []), none, none, some (2, 1, 0, 0, 0, 0, []), some (8, 3, 6, 19, 58, 0, []), none, none, some (1, 2, 4, 0, 0, 0, []), none, some (11, 1, 0, 0, 0, 0, []), some (5, 2, 0, 0, 0, 6, []), none, some (30, 3, 3, 0, 95, 0, []), none, none, some (2, 1, 0, 0, 0, 0, []), some (8, 3, 6, 17, 55, 0, []), none, none, some (2, 1, 0, 0, 0, 0, []), some (8, 3, 6, 19, 58, 0, []), none, none, some (1, 2, 4, 0, 0, 0, []), none, some (11, 1, 0, 0, 0, 0, []), some (11, 1, 0, 0, 0, 0, []), some (3, 2, 5, 0, 0, 0, []), none, some (1, 1, 3, 0, 0, 0, []), some (29, 3, 0, 0, 93, 0, []), none, none, some (2, 1, 0, 0, 0, 0, []), some (1, 1, 1, 0, 0, 0, []), some (1, 2, 5, 0, 0, 0, []), none, some (40, 3, 121, 3, 105, 6, []), none, none, some (29, 3, 0, 0, 89, 0, []), none, none, some (1, 2, 4, 0, 0, 0, []), none, some (1, 1, 2, 0, 0, 0, []), some (30, 3, 3, 0, 79, 0, []), none, none, some (2, 1, 0, 0, 0, 0, []), some (1, 2, 5, 0, 0, 0, []), none, some (1, 1, 1, 0, 0, 0, []), some (40, 3, 122, 3, 109, 6, []), none, none, some (29, 3, 0, 0, 93, 0, []), none, none, some (28, 3, 0, 0, 89, 0, []), none, none, some (2, 1, 0, 0, 0, 0, []), some (1, 1, 1, 0, 0, 0, []), some (1, 2, 5, 0, 0, 0, []), none, some (40, 3, 122, 3, 109, 6, []), none, none, some (29, 3, 0, 0, 93, 0, []), none, none, some (5, 1, 0, 0, 0, 1, []), some (28, 3, 0, 0, 94, 0, []), none, none, some (5, 1, 0, 0, 0, 0, []), some (3, 1, 3, 0, 0, 0, []), some (27, 3, 4, 0, 0, 1, []), none, none, some (28, 3, 0, 0, 5, 0, []), none, none, some (1, 1, 3, 0, 0, 0, []), some (42, 1, 0, 0, 0, 0, [])] -- X6_isSafeAt
def zc_141 : List (Option PI) := [some (2, 1, 0, 0, 0, 0, []), some (8, 3, 6, 11, 40, 0, []), none, none, some (1, 1, 1, 0, 0, 0, []), some (13, 1, 0, 0, 0, 0, []), some (29, 3, 1, 0, 67, 0, []), none, none, some (2, 1, 0, 0, 0, 0, []), some (8, 3, 6, 11, 40, 0, []), none, none, some (1, 1, 1, 0, 0, 0, []), some (5, 1, 0, 0, 0, 1, []), some (14, 1, 0, 0, 0, 0, []), some (2, 1, 0, 0, 0, 0, []), some (8, 3, 6, 12, 43, 0, []), none, none, some (2, 1, 0, 0, 0, 0, []), some (7, 3, 6, 16, 112, 0, []), none, none, some (1, 1, 1, 0, 0, 0, []), some (12, 1, 0, 0, 0, 0, []), some (2, 1, 0, 0, 0, 0, []), some (8, 3, 6, 13, 46, 0, []), none, none, some (2, 1, 0, 0, 0, 0, []), some (7, 3, 6, 16, 112, 0, []), none, none, some (1, 1, 2, 0, 0, 0, []), some (12, 1, 0, 0, 0, 0, []), some (2, 1, 0, 0, 0, 0, []), some (8, 3, 6, 14, 49, 0, []), none, none, some (2, 1, 0, 0, 0, 0, []), some (7, 3, 6, 16, 112, 0, []), none, none, some (1, 1, 3, 0, 0, 0, []), some (12, 1, 0, 0, 0, 0, []), some (2, 1, 0, 0, 0, 0, []), some (8, 3, 6, 15, 52, 0, []), none, none, some (2, 1, 0, 0, 0, 0, []), some (7, 3, 6, 16, 112, 0, []), none, none, some (1, 2, 4, 0, 0, 0, []), none, some (12, 1, 0, 0, 0, 0, []), some (2, 1, 0, 0, 0, 0, []), some (37, 1, 0, 0, 0, 0, []), some (7, 3, 6, 16, 112, 0, []), none, none, some (5, 1, 0, 0, 0, 1, []), some (16, 1, 0, 0, 0, 0, []), some (9, 3, 6, 16, 112, 0, []), none, none, some (44, 1, 0, 0, 0, 0, [])] -- X6_meet
def zc_142 : List (Option PI) := [some (5, 1, 0, 0, 0, 0, []), some (3, 1, 2, 0, 0, 0, []), some (1, 1, 2, 0, 0, 0, []), some (2, 1, 0, 0, 0, 0, []), some (7, 3, 6, 16, 112, 0, []), none, none, some (30, 3, 3, 0, 28, 0, []), none, none, some (2, 1, 0, 0, 0, 0, []), some (8, 3, 6, 11, 40, 0, []), none, none, some (2, 1, 0, 0, 0, 0, []), some (8, 3, 6, 12, 43, 0, []), none, none, some (1, 1, 2, 0, 0, 0, []), some (11, 1, 0, 0, 0, 0, []), some (5, 1, 0, 0, 0, 0, []), some (14, 1, 0, 0, 0, 0, []), some (27, 3, 2, 0, 0, 1, []), none, none, some (28, 3, 0, 0, 2, 0, []), none, none, some (2, 1, 0, 0, 0, 0, []), some (5, 1, 0, 0, 0, 0, []), some (9, 3, 6, 16, 112, 0, []), none, none, some (2, 1, 0, 0, 0, 0, []), some (5, 1, 0, 0, 0, 0, []), some (9, 3, 6, 18, 115, 0, []), none, none, some (5, 1, 0, 0, 0, 0, []), some (3, 1, 2, 0, 0, 0, []), some (1, 1, 2, 0, 0, 0, []), some (5, 2, 0, 0, 0, 16, []), none, some (30, 3, 3, 0, 81, 0, []), none, none, some (2, 1, 0, 0, 0, 0, []), some (1, 1, 1, 0, 0, 0, []), some (1, 1, 2, 0, 0, 0, []), some (40, 3, 132, 3, 102, 6, []), none, none, some (29, 3, 2, 0, 75, 0, []), none, none, some (2, 1, 0, 0, 0, 0, []), some (8, 3, 6, 17, 55, 0, []), none, none, some (2, 1, 0, 0, 0, 0, []), some (7, 3, 6, 18, 115, 0, []), none, none, some (1, 1, 2, 0, 0, 0, []), some (12, 1, 0, 0, 0, 0, []), some (2, 1, 0, 0, 0, 0, []), some (37, 1, 0, 0, 0, 0, []), some (7, 3, 6, 18, 115, 0, []), none, none, some (5, 1, 0, 0, 0, 1, []), some (16, 1, 0, 0, 0, 0, []), some (9, 3, 6, 18, 115, 0, []), none, none, some (27, 3, 2, 0, 0, 1, []), none, none, some (28, 3, 0, 0, 40, 0, []), none, none, some (5, 1, 0, 0, 0, 0, []), some (3, 1, 2, 0, 0, 0, []), some (1, 1, 2, 0, 0, 0, []), some (2, 1, 0, 0, 0, 0, []), some (7, 3, 6, 6, 29, 0, []), none, none, some (30, 3, 3, 0, 157, 0, []), none, none, some (2, 1, 0, 0, 0, 0, []), some (8, 3, 6, 19, 58, 0, []), none, none, some (1, 1, 2, 0, 0, 0, []), some (5, 2, 0, 0, 0, 6, []), none, some (12, 1, 0, 0, 0, 0, []), some (5, 1, 0, 0, 0, 0, []), some (3, 1, 3, 0, 0, 0, []), some (1, 1, 3, 0, 0, 0, []), some (2, 1, 0, 0, 0, 0, []), some (7, 3, 6, 18, 115, 0, []), none, none, some (30, 3, 3, 0, 151, 0, []), none, none, some (2, 1, 0, 0, 0, 0, []), some (8, 3, 6, 19, 58, 0, []), none, none, some (1, 1, 2, 0, 0, 0, []), some (2, 1, 0, 0, 0, 0, []), some (8, 3, 6, 8, 33, 0, []), none, none, some (5, 2, 0, 0, 0, 6, []), none, some (1, 1, 1, 0, 0, 0, []), some (18, 1, 0, 0, 0, 0, []), some (1, 1, 2, 0, 0, 0, []), some (16, 1, 0, 0, 0, 0, []), some (11, 1, 0, 0, 0, 0, []), some (2, 1, 0, 0, 0, 0, []), some (8, 3, 6, 17, 55, 0, []), none, none, some (1, 1, 3, 0, 0, 0, []), some (11, 1, 0, 0, 0, 0, []), some (30, 3, 1, 0, 138, 0, []), none, none, some (1, 1, 3, 0, 0, 0, []), some (28, 3, 0, 0, 144, 0, []), none, none, some (2, 1, 0, 0, 0, 0, []), some (8, 3, 6, 19, 58, 0, []), none, none, some (1, 1, 2, 0, 0, 0, []), some (11, 1, 0, 0, 0, 0, []), some (12, 1, 0, 0, 0, 0, []), some (27, 3, 3, 0, 0, 1, []), none, none, some (28, 3, 0, 0, 101, 0, []), none, none, some (27, 3, 2, 0, 0, 1, []), none, none, some (28, 3, 0, 0, 83, 0, []), none, none, some (2, 1, 0, 0, 0, 0, []), some (2, 1, 0, 0, 0, 0, []), some (40, 3, 138, 1, 118, 6, []), none, none, some (5, 1, 0, 0, 0, (-1), []), some (5, 1, 0, 0, 0, 0, []), some (5, 1, 0, 0, 0, 0, []), some (40, 3, 141, 5, 121, 6, []), none, none, some (5, 1, 0, 0, 0, 0, []), some (3, 1, 2, 0, 0, 0, []), some (1, 1, 2, 0, 0, 0, []), some (2, 1, 0, 0, 0, 0, []), some (7, 3, 6, 16, 112, 0, []), none, none, some (30, 3, 3, 0, 340, 0, []), none, none, some (2, 1, 0, 0, 0, 0, []), some (2, 1, 0, 0, 0, 0, []), some (8, 3, 6, 12, 43, 0, []), none, none, some (1, 1, 2, 0, 0, 0, []), some (11, 1, 0, 0, 0, 0, []), some (40, 3, 139, 2, 125, 6, []), none, none, some (5, 1, 0, 0, 0, 0, []), some (3, 1, 3, 0, 0, 0, []), some (1, 1, 3, 0, 0, 0, []), some (2, 1, 0, 0, 0, 0, []), some (7, 3, 6, 18, 115, 0, []), none, none, some (30, 3, 3, 0, 334, 0, []), none, none, some (5, 1, 0, 0, 0, 0, []), some (3, 2, 4, 0, 0, 0, []), none, some (2, 1, 0, 0, 0, 0, []), some (8, 3, 6, 19, 58, 0, []), none, none, some (1, 2, 4, 0, 0, 0, []), none, some (11, 1, 0, 0, 0, 0, []), some (1, 1, 3, 0, 0, 0, []), some (30, 3, 0, 0, 218, 0, []), none, none, some (27, 3, 4, 0, 0, 1, []), none, none, some (28, 3, 0, 0, 201, 0, []), none, none, some (2, 1, 0, 0, 0, 0, []), some (8, 3, 6, 19, 58, 0, []), none, none, some (1, 2, 4, 0, 0, 0, []), none, some (5, 2, 0, 0, 0, 6, []), none, some (12, 1, 0, 0, 0, 0, []), some (5, 1, 0, 0, 0, 0, []), some (3, 2, 5, 0, 0, 0, []), none, some (1, 2, 5, 0, 0, 0, []), none, some (2, 1, 0, 0, 0, 0, []), some (7, 3, 6, 6, 29, 0, []), none, none, some (30, 3, 3, 0, 320, 0, []), none, none, some (1, 2, 5, 0, 0, 0, []), none, some (1, 2, 4, 0, 0, 0, []), none, some (30, 3, 0, 0, 314, 0, []), none, none, some (2, 1, 0, 0, 0, 0, []), some (8, 3, 6, 19, 58, 0, []), none, none, some (1, 2, 5, 0, 0, 0, []), none, some (11, 1, 0, 0, 0, 0, []), some (5, 2, 0, 0, 0, 6, []), none, some (30, 3, 1, 0, 314, 0, []), none, none, some (2, 1, 0, 0, 0, 0, []), some (2, 1, 0, 0, 0, 0, []), some (8, 3, 6, 17, 55, 0, []), none, none, some (1, 1, 3, 0, 0, 0, []), some (11, 1, 0, 0, 0, 0, []), some (1, 2, 5, 0, 0, 0, []), none, some (40, 3, 140, 3, 129, 6, []), none, none, some (29, 3, 0, 0, 314, 0, []), none, none, some (2, 1, 0, 0, 0, 0, []), some (8, 3, 6, 19, 58, 0, []), none, none, some (1, 2, 5, 0, 0, 0, []), none, some (1, 1, 3, 0, 0, 0, []), some (12, 1, 0, 0, 0, 0, []), some (2, 1, 0, 0, 0, 0, []), some (2, 1, 0, 0, 0, 0, []), some (40, 3, 138, 1, 118, 6, []), none, none, some (1, 1, 2, 0, 0, 0, []), some (5, 2, 0, 0, 0, 8, []), none, some (1, 1, 3, 0, 0, 0, []), some (18, 1, 0, 0, 0, 0, []), some (1, 2, 5, 0, 0, 0, []), none, some (16, 1, 0, 0, 0, 0, []), some (2, 1, 0, 0, 0, 0, []), some (8, 3, 6, 15, 52, 0, []), none, none, some (1, 1, 2, 0, 0, 0, []), some (11, 1, 0, 0, 0, 0, []), some (5, 1, 0, 0, 0, 1, []), some (16, 1, 0, 0, 0, 0, []), some (40, 3, 141, 5, 121, 6, []), none, none, some (2, 1, 0, 0, 0, 0, []), some (8, 3, 6, 19, 58, 0, []), none, none, some (1, 2, 5, 0, 0, 0, []), none, some (5, 2, 0, 0, 0, 6, []), none, some (12, 1, 0, 0, 0, 0, []), some (27, 3, 5, 0, 0, 1, []), none, none, some (28, 3, 0, 0, 230, 0, []), none, none, some (2, 1, 0, 0, 0, 0, []), some (8, 3, 6, 19, 58, 0, []), none, none, some (1, 2, 4, 0, 0, 0, []), none, some (1, 1, 3, 0, 0, 0, []), some (12, 1, 0, 0, 0, 0, []), some (27, 3, 3, 0, 0, 1, []), none, none, some (28, 3, 0, 0, 190, 0, []), none, none, some (27, 3, 2, 0, 0, 1, []), none, none, some (28, 3, 0, 0, 170, 0, []), none, none, some (44, 1, 0, 0, 0, 0, [])] -- X6_findStates
def zc_143 : List (Option PI) := [some (5, 1, 0, 0, 0, 0, []), some (3, 1, 2, 0, 0, 0, []), some (5, 1, 0, 0, 0, 0, []), some (3, 1, 3, 0, 0, 0, []), some (1, 1, 3, 0, 0, 0, []), some (2, 1, 0, 0, 0, 0, []), some (7, 3, 6, 6, 29, 0, []), none, none, some (30, 3, 3, 0, 44, 0, []), none, none, some (1, 1, 2, 0, 0, 0, []), some (29, 3, 1, 0, 32, 0, []), none, none, some (2, 1, 0, 0, 0, 0, []), some (8, 3, 6, 8, 33, 0, []), none, none, some (5, 2, 0, 0, 0, 6, []), none, some (1, 1, 1, 0, 0, 0, []), some (18, 1, 0, 0, 0, 0, []), some (1, 1, 3, 0, 0, 0, []), some (16, 1, 0, 0, 0, 0, []), some (11, 1, 0, 0, 0, 0, []), some (5, 2, 0, 0, 0, (-2), []), none, some (30, 3, 1, 0, 36, 0, []), none, none, some (5, 1, 0, 0, 0, 1, []), some (28, 3, 0, 0, 37, 0, []), none, none, some (5, 1, 0, 0, 0, 0, []), some (3, 1, 2, 0, 0, 0, []), some (27, 3, 3, 0, 0, 1, []), none, none, some (28, 3, 0, 0, 4, 0, []), none, none, some (1, 1, 2, 0, 0, 0, []), some (42, 1, 0, 0, 0, 0, [])] -- X6_hasFree
def zc_144 : List (Option PI) := [some (5, 1, 0, 0, 0, 0, []), some (3, 1, 2, 0, 0, 0, []), some (1, 1, 2, 0, 0, 0, []), some (2, 1, 0, 0, 0, 0, []), some (7, 3, 6, 16, 112, 0, []), none, none, some (30, 3, 3, 0, 69, 0, []), none, none, some (2, 1, 0, 0, 0, 0, []), some (2, 1, 0, 0, 0, 0, []), some (8, 3, 6, 12, 43, 0, []), none, none, some (1, 1, 2, 0, 0, 0, []), some (11, 1, 0, 0, 0, 0, []), some (40, 3, 139, 2, 125, 6, []), none, none, some (5, 1, 0, 0, 0, 0, []), some (3, 1, 3, 0, 0, 0, []), some (1, 1, 3, 0, 0, 0, []), some (2, 1, 0, 0, 0, 0, []), some (7, 3, 6, 6, 29, 0, []), none, none, some (30, 3, 3, 0, 63, 0, []), none, none, some (2, 1, 0, 0, 0, 0, []), some (8, 3, 6, 19, 58, 0, []), none, none, some (1, 1, 3, 0, 0, 0, []), some (11, 1, 0, 0, 0, 0, []), some (5, 2, 0, 0, 0, 6, []), none, some (30, 3, 1, 0, 57, 0, []), none, none, some (2, 1, 0, 0, 0, 0, []), some (1, 1, 1, 0, 0, 0, []), some (1, 1, 3, 0, 0, 0, []), some (40, 3, 140, 3, 129, 6, []), none, none, some (29, 3, 0, 0, 57, 0, []), none, none, some (2, 1, 0, 0, 0, 0, []), some (1, 1, 3, 0, 0, 0, []), some (9, 3, 6, 20, 132, 0, []), none, none, some (1, 1, 2, 0, 0, 0, []), some (41, 1, 0, 0, 0, 0, []), some (27, 3, 3, 0, 0, 1, []), none, none, some (28, 3, 0, 0, 22, 0, []), none, none, some (27, 3, 2, 0, 0, 1, []), none, none, some (28, 3, 0, 0, 2, 0, []), none, none, some (5, 1, 0, 0, 0, (-1), []), some (41, 1, 0, 0, 0, 0, [])] -- X6_stateFor
def zc_145 : List (Option PI) := [some (1, 1, 1, 0, 0, 0, []), some (49, 3, 119, 1, 135, 0, []), none, none, some (29, 3, 0, 0, 15, 0, []), none, none, some (2, 1, 0, 0, 0, 0, []), some (1, 1, 2, 0, 0, 0, []), some (40, 3, 118, 2, 98, 6, []), none, none, some (29, 3, 1, 0, 19, 0, []), none, none, some (5, 1, 0, 0, 0, (-1), []), some (28, 3, 0, 0, 47, 0, []), none, none, some (2, 1, 0, 0, 0, 0, []), some (1, 1, 1, 0, 0, 0, []), some (1, 1, 2, 0, 0, 0, []), some (40, 3, 132, 3, 102, 6, []), none, none, some (29, 3, 2, 0, 33, 0, []), none, none, some (5, 2, 0, 0, 0, (-2), []), none, some (28, 3, 0, 0, 47, 0, []), none, none, some (2, 1, 0, 0, 0, 0, []), some (1, 1, 1, 0, 0, 0, []), some (40, 3, 143, 2, 138, 6, []), none, none, some (29, 3, 0, 0, 45, 0, []), none, none, some (5, 1, 0, 0, 0, 0, []), some (28, 3, 0, 0, 47, 0, []), none, none, some (5, 2, 0, 0, 0, (-3), []), none, some (41, 1, 0, 0, 0, 0, [])] -- X6_refusal
def zc_146 : List (Option PI) := [some (2, 1, 0, 0, 0, 0, []), some (1, 1, 1, 0, 0, 0, []), some (1, 1, 2, 0, 0, 0, []), some (40, 3, 145, 3, 141, 6, []), none, none, some (3, 1, 3, 0, 0, 0, []), some (1, 1, 3, 0, 0, 0, []), some (29, 3, 3, 0, 13, 0, []), none, none, some (1, 1, 3, 0, 0, 0, []), some (41, 1, 0, 0, 0, 0, []), some (2, 1, 0, 0, 0, 0, []), some (1, 1, 1, 0, 0, 0, []), some (40, 3, 142, 2, 144, 6, []), none, none, some (2, 1, 0, 0, 0, 0, []), some (1, 1, 2, 0, 0, 0, []), some (40, 3, 144, 2, 147, 6, []), none, none, some (3, 2, 4, 0, 0, 0, []), none, some (1, 2, 4, 0, 0, 0, []), none, some (29, 3, 3, 0, 35, 0, []), none, none, some (5, 2, 0, 0, 0, (-3), []), none, some (28, 3, 0, 0, 44, 0, []), none, none, some (2, 1, 0, 0, 0, 0, []), some (8, 3, 6, 15, 52, 0, []), none, none, some (1, 2, 4, 0, 0, 0, []), none, some (11, 1, 0, 0, 0, 0, []), some (5, 1, 0, 0, 0, 1, []), some (16, 1, 0, 0, 0, 0, []), some (41, 1, 0, 0, 0, 0, [])] -- X6_writes
def zc_147 : List (Option PI) := [some (2, 1, 0, 0, 0, 0, []), some (1, 1, 1, 0, 0, 0, []), some (40, 3, 142, 2, 144, 6, []), none, none, some (2, 1, 0, 0, 0, 0, []), some (1, 1, 2, 0, 0, 0, []), some (40, 3, 144, 2, 147, 6, []), none, none, some (3, 1, 3, 0, 0, 0, []), some (2, 1, 0, 0, 0, 0, []), some (8, 3, 6, 15, 52, 0, []), none, none, some (1, 1, 3, 0, 0, 0, []), some (11, 1, 0, 0, 0, 0, []), some (3, 2, 4, 0, 0, 0, []), none, some (2, 1, 0, 0, 0, 0, []), some (1, 2, 4, 0, 0, 0, []), none, some (5, 1, 0, 0, 0, 1, []), some (16, 1, 0, 0, 0, 0, []), some (9, 3, 6, 21, 83, 0, []), none, none, some (2, 1, 0, 0, 0, 0, []), some (8, 3, 6, 22, 61, 0, []), none, none, some (1, 2, 4, 0, 0, 0, []), none, some (1, 1, 2, 0, 0, 0, []), some (12, 1, 0, 0, 0, 0, []), some (2, 1, 0, 0, 0, 0, []), some (8, 3, 6, 23, 64, 0, []), none, none, some (1, 2, 4, 0, 0, 0, []), none, some (2, 1, 0, 0, 0, 0, []), some (7, 3, 6, 20, 132, 0, []), none, none, some (12, 1, 0, 0, 0, 0, []), some (2, 1, 0, 0, 0, 0, []), some (2, 1, 0, 0, 0, 0, []), some (8, 3, 6, 12, 43, 0, []), none, none, some (1, 1, 3, 0, 0, 0, []), some (11, 1, 0, 0, 0, 0, []), some (40, 3, 139, 2, 125, 6, []), none, none, some (5, 1, 0, 0, 0, 0, []), some (3, 2, 5, 0, 0, 0, []), none, some (1, 2, 5, 0, 0, 0, []), none, some (2, 1, 0, 0, 0, 0, []), some (7, 3, 6, 6, 29, 0, []), none, none, some (30, 3, 3, 0, 115, 0, []), none, none, some (2, 1, 0, 0, 0, 0, []), some (8, 3, 6, 8, 33, 0, []), none, none, some (5, 2, 0, 0, 0, 6, []), none, some (1, 1, 1, 0, 0, 0, []), some (18, 1, 0, 0, 0, 0, []), some (1, 2, 5, 0, 0, 0, []), none, some (16, 1, 0, 0, 0, 0, []), some (2, 1, 0, 0, 0, 0, []), some (8, 3, 6, 19, 58, 0, []), none, none, some (1, 2, 5, 0, 0, 0, []), none, some (11, 1, 0, 0, 0, 0, []), some (5, 2, 0, 0, 0, 6, []), none, some (30, 3, 1, 0, 96, 0, []), none, none, some (5, 2, 0, 0, 0, (-2), []), none, some (28, 3, 0, 0, 108, 0, []), none, none, some (2, 1, 0, 0, 0, 0, []), some (8, 3, 6, 17, 55, 0, []), none, none, some (2, 1, 0, 0, 0, 0, []), some (8, 3, 6, 19, 58, 0, []), none, none, some (1, 2, 5, 0, 0, 0, []), none, some (11, 1, 0, 0, 0, 0, []), some (11, 1, 0, 0, 0, 0, []), some (12, 1, 0, 0, 0, 0, []), some (27, 3, 5, 0, 0, 1, []), none, none, some (28, 3, 0, 0, 59, 0, []), none, none, some (2, 1, 0, 0, 0, 0, []), some (8, 3, 6, 8, 33, 0, []), none, none, some (5, 2, 0, 0, 0, 6, []), none, some (1, 1, 1, 0, 0, 0, []), some (18, 1, 0, 0, 0, 0, []), some (2, 1, 0, 0, 0, 0, []), some (7, 3, 6, 20, 132, 0, []), none, none, some (16, 1, 0, 0, 0, 0, []), some (1, 1, 2, 0, 0, 0, []), some (12, 1, 0, 0, 0, 0, []), some (1, 1, 3, 0, 0, 0, []), some (3, 2, 5, 0, 0, 0, []), none, some (2, 1, 0, 0, 0, 0, []), some (8, 3, 6, 13, 46, 0, []), none, none, some (1, 2, 5, 0, 0, 0, []), none, some (11, 1, 0, 0, 0, 0, []), some (29, 3, 2, 0, 197, 0, []), none, none, some (27, 3, 4, 0, 0, (-1), []), none, none, some (2, 1, 0, 0, 0, 0, []), some (8, 3, 6, 22, 61, 0, []), none, none, some (1, 2, 4, 0, 0, 0, []), none, some (2, 1, 0, 0, 0, 0, []), some (8, 3, 6, 17, 55, 0, []), none, none, some (2, 1, 0, 0, 0, 0, []), some (8, 3, 6, 14, 49, 0, []), none, none, some (1, 2, 5, 0, 0, 0, []), none, some (11, 1, 0, 0, 0, 0, []), some (5, 2, 0, 0, 0, 8, []), none, some (19, 1, 0, 0, 0, 0, []), some (11, 1, 0, 0, 0, 0, []), some (12, 1, 0, 0, 0, 0, []), some (2, 1, 0, 0, 0, 0, []), some (8, 3, 6, 23, 64, 0, []), none, none, some (1, 2, 4, 0, 0, 0, []), none, some (2, 1, 0, 0, 0, 0, []), some (8, 3, 6, 14, 49, 0, []), none, none, some (1, 2, 5, 0, 0, 0, []), none, some (11, 1, 0, 0, 0, 0, []), some (5, 2, 0, 0, 0, 8, []), none, some (20, 1, 0, 0, 0, 0, []), some (12, 1, 0, 0, 0, 0, []), some (2, 1, 0, 0, 0, 0, []), some (8, 3, 6, 13, 46, 0, []), none, none, some (1, 2, 5, 0, 0, 0, []), none, some (11, 1, 0, 0, 0, 0, []), some (3, 2, 5, 0, 0, 0, []), none, some (28, 3, 0, 0, 133, 0, []), none, none, some (2, 1, 0, 0, 0, 0, []), some (7, 3, 6, 21, 83, 0, []), none, none, some (41, 1, 0, 0, 0, 0, [])] -- X6_layIn
def zc_148 : List (Option PI) := [some (2, 1, 0, 0, 0, 0, []), some (1, 1, 1, 0, 0, 0, []), some (1, 1, 2, 0, 0, 0, []), some (40, 3, 146, 3, 151, 6, []), none, none, some (3, 1, 3, 0, 0, 0, []), some (1, 1, 3, 0, 0, 0, []), some (29, 3, 3, 0, 13, 0, []), none, none, some (1, 1, 3, 0, 0, 0, []), some (41, 1, 0, 0, 0, 0, []), some (2, 1, 0, 0, 0, 0, []), some (5, 1, 0, 0, 0, (-1), []), some (40, 3, 123, 2, 154, 6, []), none, none, some (2, 1, 0, 0, 0, 0, []), some (1, 1, 1, 0, 0, 0, []), some (1, 1, 2, 0, 0, 0, []), some (40, 3, 147, 3, 157, 6, []), none, none, some (41, 1, 0, 0, 0, 0, [])] -- X6_put
def zc_149 : List (Option PI) := [some (1, 1, 1, 0, 0, 0, []), some (5, 1, 0, 0, 0, (-1), []), some (30, 3, 1, 0, 10, 0, []), none, none, some (2, 1, 0, 0, 0, 0, []), some (7, 3, 6, 21, 83, 0, []), none, none, some (41, 1, 0, 0, 0, 0, []), some (1, 1, 1, 0, 0, 0, []), some (5, 1, 0, 0, 0, 0, []), some (2, 1, 0, 0, 0, 0, []), some (7, 3, 6, 21, 83, 0, []), none, none, some (5, 1, 0, 0, 0, 1, []), some (17, 1, 0, 0, 0, 0, []), some (49, 3, 115, 3, 73, 0, []), none, none, some (29, 3, 0, 0, 55, 0, []), none, none, some (1, 1, 2, 0, 0, 0, []), some (5, 1, 0, 0, 0, 0, []), some (5, 1, 0, 0, 0, 1, []), some (49, 3, 115, 3, 73, 0, []), none, none, some (29, 3, 0, 0, 55, 0, []), none, none, some (1, 1, 2, 0, 0, 0, []), some (29, 3, 1, 0, 46, 0, []), none, none, some (2, 1, 0, 0, 0, 0, []), some (8, 3, 6, 22, 61, 0, []), none, none, some (1, 1, 1, 0, 0, 0, []), some (11, 1, 0, 0, 0, 0, []), some (28, 3, 0, 0, 56, 0, []), none, none, some (2, 1, 0, 0, 0, 0, []), some (8, 3, 6, 23, 64, 0, []), none, none, some (1, 1, 1, 0, 0, 0, []), some (11, 1, 0, 0, 0, 0, []), some (28, 3, 0, 0, 56, 0, []), none, none, some (5, 1, 0, 0, 0, (-1), []), some (41, 1, 0, 0, 0, 0, [])] -- X6_write
def zc_150 : List (Option PI) := [some (1, 1, 1, 0, 0, 0, []), some (49, 3, 119, 1, 135, 0, []), none, none, some (29, 3, 0, 0, 15, 0, []), none, none, some (2, 1, 0, 0, 0, 0, []), some (1, 1, 2, 0, 0, 0, []), some (40, 3, 118, 2, 98, 6, []), none, none, some (29, 3, 1, 0, 17, 0, []), none, none, some (5, 1, 0, 0, 0, (-1), []), some (41, 1, 0, 0, 0, 0, []), some (2, 1, 0, 0, 0, 0, []), some (1, 1, 1, 0, 0, 0, []), some (1, 1, 2, 0, 0, 0, []), some (40, 3, 132, 3, 102, 6, []), none, none, some (3, 1, 3, 0, 0, 0, []), some (1, 1, 3, 0, 0, 0, []), some (29, 3, 3, 0, 31, 0, []), none, none, some (5, 2, 0, 0, 0, (-2), []), none, some (41, 1, 0, 0, 0, 0, []), some (2, 1, 0, 0, 0, 0, []), some (5, 1, 0, 0, 0, (-1), []), some (40, 3, 123, 2, 154, 6, []), none, none, some (2, 1, 0, 0, 0, 0, []), some (8, 3, 6, 8, 33, 0, []), none, none, some (5, 2, 0, 0, 0, 6, []), none, some (1, 1, 1, 0, 0, 0, []), some (18, 1, 0, 0, 0, 0, []), some (1, 1, 3, 0, 0, 0, []), some (16, 1, 0, 0, 0, 0, []), some (5, 2, 0, 0, 0, (-2), []), none, some (12, 1, 0, 0, 0, 0, []), some (2, 1, 0, 0, 0, 0, []), some (5, 1, 0, 0, 0, 0, []), some (9, 3, 6, 21, 83, 0, []), none, none, some (1, 1, 3, 0, 0, 0, []), some (41, 1, 0, 0, 0, 0, [])] -- X6_strike
def zc_151 : List (Option PI) := [some (1, 1, 1, 0, 0, 0, []), some (49, 3, 119, 1, 135, 0, []), none, none, some (29, 3, 0, 0, 35, 0, []), none, none, some (1, 1, 2, 0, 0, 0, []), some (5, 1, 0, 0, 0, 0, []), some (2, 1, 0, 0, 0, 0, []), some (7, 3, 6, 6, 29, 0, []), none, none, some (5, 1, 0, 0, 0, 1, []), some (17, 1, 0, 0, 0, 0, []), some (49, 3, 115, 3, 73, 0, []), none, none, some (29, 3, 0, 0, 35, 0, []), none, none, some (2, 1, 0, 0, 0, 0, []), some (8, 3, 6, 8, 33, 0, []), none, none, some (5, 2, 0, 0, 0, 6, []), none, some (1, 1, 1, 0, 0, 0, []), some (18, 1, 0, 0, 0, 0, []), some (1, 1, 2, 0, 0, 0, []), some (16, 1, 0, 0, 0, 0, []), some (11, 1, 0, 0, 0, 0, []), some (28, 3, 0, 0, 36, 0, []), none, none, some (5, 1, 0, 0, 0, (-1), []), some (41, 1, 0, 0, 0, 0, [])] -- X6_at
def zc_152 : List (Option PI) := [some (5, 1, 0, 0, 0, 0, []), some (3, 1, 3, 0, 0, 0, []), some (1, 1, 3, 0, 0, 0, []), some (2, 1, 0, 0, 0, 0, []), some (7, 3, 6, 6, 29, 0, []), none, none, some (30, 3, 3, 0, 52, 0, []), none, none, some (2, 1, 0, 0, 0, 0, []), some (8, 3, 6, 8, 33, 0, []), none, none, some (5, 2, 0, 0, 0, 6, []), none, some (1, 1, 1, 0, 0, 0, []), some (18, 1, 0, 0, 0, 0, []), some (1, 1, 3, 0, 0, 0, []), some (16, 1, 0, 0, 0, 0, []), some (11, 1, 0, 0, 0, 0, []), some (3, 2, 4, 0, 0, 0, []), none, some (1, 2, 4, 0, 0, 0, []), none, some (29, 3, 2, 0, 46, 0, []), none, none, some (2, 1, 0, 0, 0, 0, []), some (1, 2, 4, 0, 0, 0, []), none, some (1, 1, 2, 0, 0, 0, []), some (40, 3, 120, 3, 160, 6, []), none, none, some (29, 3, 0, 0, 46, 0, []), none, none, some (2, 1, 0, 0, 0, 0, []), some (8, 3, 6, 5, 26, 0, []), none, none, some (1, 2, 4, 0, 0, 0, []), none, some (11, 1, 0, 0, 0, 0, []), some (41, 1, 0, 0, 0, 0, []), some (27, 3, 3, 0, 0, 1, []), none, none, some (28, 3, 0, 0, 2, 0, []), none, none, some (5, 1, 0, 0, 0, (-1), []), some (41, 1, 0, 0, 0, 0, [])] -- X6_judge
def zc_153 : List (Option PI) := [some (1, 1, 1, 0, 0, 0, []), some (5, 1, 0, 0, 0, 0, []), some (5, 1, 0, 0, 0, 2, []), some (49, 3, 115, 3, 73, 0, []), none, none, some (29, 3, 0, 0, 19, 0, []), none, none, some (1, 1, 2, 0, 0, 0, []), some (5, 1, 0, 0, 0, 0, []), some (5, 2, 0, 0, 0, 31, []), none, some (49, 3, 115, 3, 73, 0, []), none, none, some (29, 3, 1, 0, 24, 0, []), none, none, some (5, 2, 0, 0, 0, (-101), []), none, some (28, 3, 0, 0, 42, 0, []), none, none, some (2, 1, 0, 0, 0, 0, []), some (1, 1, 1, 0, 0, 0, []), some (5, 1, 0, 0, 0, 2, []), some (30, 3, 1, 0, 37, 0, []), none, none, some (2, 1, 0, 0, 0, 0, []), some (7, 3, 6, 7, 80, 0, []), none, none, some (28, 3, 0, 0, 38, 0, []), none, none, some (1, 1, 1, 0, 0, 0, []), some (1, 1, 2, 0, 0, 0, []), some (40, 3, 152, 3, 163, 6, []), none, none, some (41, 1, 0, 0, 0, 0, [])] -- X6_judged
def zc_154 : List (Option PI) := [some (5, 1, 0, 0, 0, (-1), []), some (3, 1, 3, 0, 0, 0, []), some (5, 1, 0, 0, 0, 0, []), some (3, 2, 4, 0, 0, 0, []), none, some (1, 2, 4, 0, 0, 0, []), none, some (5, 2, 0, 0, 0, 16, []), none, some (30, 3, 3, 0, 69, 0, []), none, none, some (2, 1, 0, 0, 0, 0, []), some (8, 3, 6, 0, 7, 0, []), none, none, some (1, 2, 4, 0, 0, 0, []), none, some (13, 1, 0, 0, 0, 0, []), some (29, 3, 0, 0, 63, 0, []), none, none, some (2, 1, 0, 0, 0, 0, []), some (1, 1, 1, 0, 0, 0, []), some (1, 2, 4, 0, 0, 0, []), none, some (40, 3, 132, 3, 102, 6, []), none, none, some (29, 3, 2, 0, 63, 0, []), none, none, some (2, 1, 0, 0, 0, 0, []), some (1, 2, 4, 0, 0, 0, []), none, some (1, 1, 2, 0, 0, 0, []), some (40, 3, 120, 3, 160, 6, []), none, none, some (29, 3, 0, 0, 63, 0, []), none, none, some (1, 1, 3, 0, 0, 0, []), some (29, 3, 2, 0, 56, 0, []), none, none, some (2, 1, 0, 0, 0, 0, []), some (1, 2, 4, 0, 0, 0, []), none, some (1, 1, 3, 0, 0, 0, []), some (40, 3, 122, 3, 109, 6, []), none, none, some (29, 3, 0, 0, 61, 0, []), none, none, some (1, 2, 4, 0, 0, 0, []), none, some (28, 3, 0, 0, 62, 0, []), none, none, some (1, 1, 3, 0, 0, 0, []), some (3, 1, 3, 0, 0, 0, []), some (27, 3, 4, 0, 0, 1, []), none, none, some (28, 3, 0, 0, 5, 0, []), none, none, some (1, 1, 3, 0, 0, 0, []), some (29, 3, 3, 0, 77, 0, []), none, none, some (5, 1, 0, 0, 0, (-1), []), some (28, 3, 0, 0, 83, 0, []), none, none, some (2, 1, 0, 0, 0, 0, []), some (8, 3, 6, 5, 26, 0, []), none, none, some (1, 1, 3, 0, 0, 0, []), some (11, 1, 0, 0, 0, 0, []), some (41, 1, 0, 0, 0, 0, [])] -- X6_due
def zc_155 : List (Option PI) := [some (1, 1, 1, 0, 0, 0, []), some (49, 3, 119, 1, 135, 0, []), none, none, some (29, 3, 1, 0, 9, 0, []), none, none, some (5, 1, 0, 0, 0, (-1), []), some (41, 1, 0, 0, 0, 0, []), some (5, 1, 0, 0, 0, 0, []), some (3, 1, 2, 0, 0, 0, []), some (5, 1, 0, 0, 0, 0, []), some (3, 1, 3, 0, 0, 0, []), some (1, 1, 3, 0, 0, 0, []), some (5, 2, 0, 0, 0, 32, []), none, some (30, 3, 3, 0, 48, 0, []), none, none, some (1, 1, 2, 0, 0, 0, []), some (2, 1, 0, 0, 0, 0, []), some (1, 1, 1, 0, 0, 0, []), some (1, 1, 3, 0, 0, 0, []), some (40, 3, 152, 3, 163, 6, []), none, none, some (2, 1, 0, 0, 0, 0, []), some (1, 1, 1, 0, 0, 0, []), some (1, 1, 3, 0, 0, 0, []), some (40, 3, 154, 3, 166, 6, []), none, none, some (30, 3, 1, 0, 39, 0, []), none, none, some (5, 1, 0, 0, 0, 1, []), some (28, 3, 0, 0, 40, 0, []), none, none, some (5, 1, 0, 0, 0, 0, []), some (16, 1, 0, 0, 0, 0, []), some (3, 1, 2, 0, 0, 0, []), some (27, 3, 3, 0, 0, 1, []), none, none, some (28, 3, 0, 0, 13, 0, []), none, none, some (1, 1, 2, 0, 0, 0, []), some (41, 1, 0, 0, 0, 0, [])] -- X6_right
def zc_156 : List (Option PI) := [some (5, 1, 0, 0, 0, 0, []), some (3, 1, 3, 0, 0, 0, []), some (1, 1, 3, 0, 0, 0, []), some (5, 2, 0, 0, 0, 32, []), none, some (30, 3, 3, 0, 108, 0, []), none, none, some (5, 1, 0, 0, 0, 0, []), some (3, 2, 4, 0, 0, 0, []), none, some (5, 1, 0, 0, 0, 0, []), some (3, 2, 5, 0, 0, 0, []), none, some (1, 2, 5, 0, 0, 0, []), none, some (2, 1, 0, 0, 0, 0, []), some (7, 3, 6, 6, 29, 0, []), none, none, some (30, 3, 3, 0, 86, 0, []), none, none, some (2, 1, 0, 0, 0, 0, []), some (8, 3, 6, 8, 33, 0, []), none, none, some (5, 2, 0, 0, 0, 6, []), none, some (1, 1, 1, 0, 0, 0, []), some (18, 1, 0, 0, 0, 0, []), some (1, 2, 5, 0, 0, 0, []), none, some (16, 1, 0, 0, 0, 0, []), some (11, 1, 0, 0, 0, 0, []), some (3, 2, 6, 0, 0, 0, []), none, some (1, 2, 4, 0, 0, 0, []), none, some (29, 3, 1, 0, 73, 0, []), none, none, some (1, 2, 6, 0, 0, 0, []), none, some (29, 3, 2, 0, 77, 0, []), none, none, some (1, 2, 6, 0, 0, 0, []), none, some (1, 1, 2, 0, 0, 0, []), some (30, 3, 0, 0, 77, 0, []), none, none, some (2, 1, 0, 0, 0, 0, []), some (1, 2, 6, 0, 0, 0, []), none, some (1, 1, 3, 0, 0, 0, []), some (40, 3, 120, 3, 160, 6, []), none, none, some (29, 3, 0, 0, 77, 0, []), none, none, some (2, 1, 0, 0, 0, 0, []), some (1, 2, 6, 0, 0, 0, []), none, some (1, 1, 2, 0, 0, 0, []), some (40, 3, 122, 3, 109, 6, []), none, none, some (29, 3, 0, 0, 77, 0, []), none, none, some (5, 1, 0, 0, 0, 1, []), some (28, 3, 0, 0, 78, 0, []), none, none, some (5, 1, 0, 0, 0, 0, []), some (3, 2, 4, 0, 0, 0, []), none, some (27, 3, 5, 0, 0, 1, []), none, none, some (28, 3, 0, 0, 14, 0, []), none, none, some (2, 1, 0, 0, 0, 0, []), some (1, 1, 2, 0, 0, 0, []), some (1, 1, 3, 0, 0, 0, []), some (40, 3, 120, 3, 160, 6, []), none, none, some (29, 3, 0, 0, 102, 0, []), none, none, some (1, 2, 4, 0, 0, 0, []), none, some (29, 3, 1, 0, 102, 0, []), none, none, some (1, 1, 3, 0, 0, 0, []), some (41, 1, 0, 0, 0, 0, []), some (27, 3, 3, 0, 0, 1, []), none, none, some (28, 3, 0, 0, 2, 0, []), none, none, some (5, 2, 0, 0, 0, (-2), []), none, some (41, 1, 0, 0, 0, 0, [])] -- X6_firstShown
def zc_157 : List (Option PI) := [some (1, 1, 1, 0, 0, 0, []), some (49, 3, 119, 1, 135, 0, []), none, none, some (29, 3, 0, 0, 15, 0, []), none, none, some (2, 1, 0, 0, 0, 0, []), some (1, 1, 2, 0, 0, 0, []), some (40, 3, 118, 2, 98, 6, []), none, none, some (29, 3, 1, 0, 17, 0, []), none, none, some (5, 1, 0, 0, 0, (-1), []), some (41, 1, 0, 0, 0, 0, []), some (2, 1, 0, 0, 0, 0, []), some (1, 1, 1, 0, 0, 0, []), some (1, 1, 2, 0, 0, 0, []), some (40, 3, 132, 3, 102, 6, []), none, none, some (29, 3, 3, 0, 31, 0, []), none, none, some (5, 2, 0, 0, 0, (-2), []), none, some (28, 3, 0, 0, 45, 0, []), none, none, some (2, 1, 0, 0, 0, 0, []), some (1, 1, 1, 0, 0, 0, []), some (1, 1, 2, 0, 0, 0, []), some (40, 3, 156, 3, 169, 6, []), none, none, some (29, 3, 3, 0, 44, 0, []), none, none, some (5, 1, 0, 0, 0, 1, []), some (28, 3, 0, 0, 45, 0, []), none, none, some (5, 1, 0, 0, 0, 0, []), some (41, 1, 0, 0, 0, 0, [])] -- X6_covered
def zc_158 : List (Option PI) := [some (1, 1, 1, 0, 0, 0, []), some (49, 3, 119, 1, 135, 0, []), none, none, some (29, 3, 0, 0, 15, 0, []), none, none, some (2, 1, 0, 0, 0, 0, []), some (1, 1, 2, 0, 0, 0, []), some (40, 3, 118, 2, 98, 6, []), none, none, some (29, 3, 1, 0, 19, 0, []), none, none, some (5, 1, 0, 0, 0, (-1), []), some (28, 3, 0, 0, 25, 0, []), none, none, some (2, 1, 0, 0, 0, 0, []), some (1, 1, 1, 0, 0, 0, []), some (1, 1, 2, 0, 0, 0, []), some (40, 3, 156, 3, 169, 6, []), none, none, some (41, 1, 0, 0, 0, 0, [])] -- X6_shown
def zc_159 : List (Option PI) := [some (1, 1, 1, 0, 0, 0, []), some (49, 3, 119, 1, 135, 0, []), none, none, some (29, 3, 0, 0, 17, 0, []), none, none, some (1, 1, 2, 0, 0, 0, []), some (5, 1, 0, 0, 0, 0, []), some (5, 2, 0, 0, 0, 99, []), none, some (49, 3, 115, 3, 73, 0, []), none, none, some (29, 3, 1, 0, 19, 0, []), none, none, some (5, 1, 0, 0, 0, (-1), []), some (41, 1, 0, 0, 0, 0, []), some (2, 1, 0, 0, 0, 0, []), some (1, 1, 1, 0, 0, 0, []), some (40, 3, 143, 2, 138, 6, []), none, none, some (29, 3, 1, 0, 30, 0, []), none, none, some (5, 2, 0, 0, 0, (-3), []), none, some (41, 1, 0, 0, 0, 0, []), some (2, 1, 0, 0, 0, 0, []), some (1, 1, 1, 0, 0, 0, []), some (40, 3, 142, 2, 144, 6, []), none, none, some (5, 1, 0, 0, 0, 0, []), some (3, 1, 3, 0, 0, 0, []), some (2, 1, 0, 0, 0, 0, []), some (8, 3, 6, 4, 23, 0, []), none, none, some (5, 2, 0, 0, 0, 16, []), none, some (1, 1, 2, 0, 0, 0, []), some (12, 1, 0, 0, 0, 0, []), some (5, 1, 0, 0, 0, 0, []), some (3, 2, 4, 0, 0, 0, []), none, some (1, 2, 4, 0, 0, 0, []), none, some (5, 2, 0, 0, 0, 32, []), none, some (30, 3, 3, 0, 133, 0, []), none, none, some (5, 1, 0, 0, 0, 0, []), some (3, 2, 5, 0, 0, 0, []), none, some (1, 2, 5, 0, 0, 0, []), none, some (5, 2, 0, 0, 0, 32, []), none, some (30, 3, 3, 0, 127, 0, []), none, none, some (1, 2, 5, 0, 0, 0, []), none, some (1, 2, 4, 0, 0, 0, []), none, some (5, 1, 0, 0, 0, (-1), []), some (23, 1, 0, 0, 0, 0, []), some (21, 1, 0, 0, 0, 0, []), some (29, 3, 1, 0, 121, 0, []), none, none, some (2, 1, 0, 0, 0, 0, []), some (8, 3, 6, 3, 20, 0, []), none, none, some (5, 2, 0, 0, 0, 16, []), none, some (1, 2, 4, 0, 0, 0, []), none, some (12, 1, 0, 0, 0, 0, []), some (2, 1, 0, 0, 0, 0, []), some (8, 3, 6, 2, 17, 0, []), none, none, some (5, 2, 0, 0, 0, 16, []), none, some (1, 2, 5, 0, 0, 0, []), none, some (12, 1, 0, 0, 0, 0, []), some (2, 1, 0, 0, 0, 0, []), some (8, 3, 6, 15, 52, 0, []), none, none, some (2, 1, 0, 0, 0, 0, []), some (5, 2, 0, 0, 0, 16, []), none, some (40, 3, 144, 2, 147, 6, []), none, none, some (11, 1, 0, 0, 0, 0, []), some (5, 1, 0, 0, 0, 1, []), some (16, 1, 0, 0, 0, 0, []), some (3, 2, 6, 0, 0, 0, []), none, some (1, 2, 6, 0, 0, 0, []), none, some (1, 1, 3, 0, 0, 0, []), some (30, 3, 5, 0, 119, 0, []), none, none, some (1, 2, 6, 0, 0, 0, []), none, some (28, 3, 0, 0, 120, 0, []), none, none, some (1, 1, 3, 0, 0, 0, []), some (3, 1, 3, 0, 0, 0, []), some (27, 3, 5, 0, 0, 1, []), none, none, some (28, 3, 0, 0, 58, 0, []), none, none, some (27, 3, 4, 0, 0, 1, []), none, none, some (28, 3, 0, 0, 48, 0, []), none, none, some (1, 1, 3, 0, 0, 0, []), some (41, 1, 0, 0, 0, 0, [])] -- X6_spare
def zc_160 : List (Option PI) := [some (5, 1, 0, 0, 0, 0, []), some (3, 1, 1, 0, 0, 0, []), some (5, 1, 0, 0, 0, 0, []), some (3, 1, 2, 0, 0, 0, []), some (1, 1, 2, 0, 0, 0, []), some (5, 1, 0, 0, 0, 5, []), some (30, 3, 3, 0, 23, 0, []), none, none, some (1, 1, 1, 0, 0, 0, []), some (1, 1, 0, 0, 0, 0, []), some (1, 1, 2, 0, 0, 0, []), some (25, 1, 0, 0, 0, 0, []), some (5, 1, 0, 0, 0, 1, []), some (21, 1, 0, 0, 0, 0, []), some (16, 1, 0, 0, 0, 0, []), some (3, 1, 1, 0, 0, 0, []), some (27, 3, 2, 0, 0, 1, []), none, none, some (28, 3, 0, 0, 4, 0, []), none, none, some (1, 1, 1, 0, 0, 0, []), some (41, 1, 0, 0, 0, 0, [])] -- X6_ones
def zc_161 : List (Option PI) := [some (5, 1, 0, 0, 0, 1, []), some (3, 1, 2, 0, 0, 0, []), some (5, 1, 0, 0, 0, 0, []), some (3, 1, 3, 0, 0, 0, []), some (1, 1, 3, 0, 0, 0, []), some (2, 1, 0, 0, 0, 0, []), some (7, 3, 6, 6, 29, 0, []), none, none, some (30, 3, 3, 0, 107, 0, []), none, none, some (1, 1, 3, 0, 0, 0, []), some (5, 1, 0, 0, 0, 1, []), some (16, 1, 0, 0, 0, 0, []), some (3, 2, 4, 0, 0, 0, []), none, some (1, 2, 4, 0, 0, 0, []), none, some (2, 1, 0, 0, 0, 0, []), some (7, 3, 6, 6, 29, 0, []), none, none, some (30, 3, 3, 0, 101, 0, []), none, none, some (2, 1, 0, 0, 0, 0, []), some (8, 3, 6, 8, 33, 0, []), none, none, some (5, 2, 0, 0, 0, 6, []), none, some (1, 1, 1, 0, 0, 0, []), some (18, 1, 0, 0, 0, 0, []), some (1, 1, 3, 0, 0, 0, []), some (16, 1, 0, 0, 0, 0, []), some (11, 1, 0, 0, 0, 0, []), some (3, 2, 5, 0, 0, 0, []), none, some (2, 1, 0, 0, 0, 0, []), some (8, 3, 6, 8, 33, 0, []), none, none, some (5, 2, 0, 0, 0, 6, []), none, some (1, 1, 1, 0, 0, 0, []), some (18, 1, 0, 0, 0, 0, []), some (1, 2, 4, 0, 0, 0, []), none, some (16, 1, 0, 0, 0, 0, []), some (11, 1, 0, 0, 0, 0, []), some (3, 2, 6, 0, 0, 0, []), none, some (1, 1, 2, 0, 0, 0, []), some (29, 3, 0, 0, 93, 0, []), none, none, some (1, 2, 5, 0, 0, 0, []), none, some (29, 3, 2, 0, 89, 0, []), none, none, some (1, 2, 6, 0, 0, 0, []), none, some (29, 3, 2, 0, 89, 0, []), none, none, some (2, 1, 0, 0, 0, 0, []), some (1, 2, 5, 0, 0, 0, []), none, some (1, 2, 6, 0, 0, 0, []), none, some (40, 3, 121, 3, 105, 6, []), none, none, some (29, 3, 0, 0, 89, 0, []), none, none, some (2, 1, 0, 0, 0, 0, []), some (1, 2, 5, 0, 0, 0, []), none, some (1, 2, 6, 0, 0, 0, []), none, some (40, 3, 122, 3, 109, 6, []), none, none, some (29, 3, 0, 0, 93, 0, []), none, none, some (5, 1, 0, 0, 0, 1, []), some (28, 3, 0, 0, 94, 0, []), none, none, some (5, 1, 0, 0, 0, 0, []), some (3, 1, 2, 0, 0, 0, []), some (27, 3, 4, 0, 0, 1, []), none, none, some (28, 3, 0, 0, 17, 0, []), none, none, some (27, 3, 3, 0, 0, 1, []), none, none, some (28, 3, 0, 0, 4, 0, []), none, none, some (1, 1, 2, 0, 0, 0, []), some (42, 1, 0, 0, 0, 0, [])] -- X6_isSafe
def zc_162 : List (Option PI) := [some (1, 1, 1, 0, 0, 0, []), some (49, 3, 119, 1, 135, 0, []), none, none, some (29, 3, 0, 0, 48, 0, []), none, none, some (2, 1, 0, 0, 0, 0, []), some (1, 1, 2, 0, 0, 0, []), some (40, 3, 118, 2, 98, 6, []), none, none, some (29, 3, 0, 0, 48, 0, []), none, none, some (2, 1, 0, 0, 0, 0, []), some (1, 1, 3, 0, 0, 0, []), some (40, 3, 118, 2, 98, 6, []), none, none, some (29, 3, 0, 0, 48, 0, []), none, none, some (1, 1, 2, 0, 0, 0, []), some (1, 1, 3, 0, 0, 0, []), some (30, 3, 0, 0, 48, 0, []), none, none, some (2, 1, 0, 0, 0, 0, []), some (8, 3, 6, 1, 13, 0, []), none, none, some (1, 1, 2, 0, 0, 0, []), some (11, 1, 0, 0, 0, 0, []), some (5, 1, 0, 0, 0, 2, []), some (30, 3, 0, 0, 48, 0, []), none, none, some (2, 1, 0, 0, 0, 0, []), some (8, 3, 6, 1, 13, 0, []), none, none, some (1, 1, 3, 0, 0, 0, []), some (11, 1, 0, 0, 0, 0, []), some (5, 1, 0, 0, 0, 2, []), some (30, 3, 1, 0, 50, 0, []), none, none, some (5, 1, 0, 0, 0, (-1), []), some (41, 1, 0, 0, 0, 0, []), some (2, 1, 0, 0, 0, 0, []), some (1, 1, 1, 0, 0, 0, []), some (1, 1, 2, 0, 0, 0, []), some (40, 3, 132, 3, 102, 6, []), none, none, some (29, 3, 2, 0, 94, 0, []), none, none, some (2, 1, 0, 0, 0, 0, []), some (1, 1, 1, 0, 0, 0, []), some (1, 1, 3, 0, 0, 0, []), some (40, 3, 132, 3, 102, 6, []), none, none, some (29, 3, 2, 0, 94, 0, []), none, none, some (2, 1, 0, 0, 0, 0, []), some (5, 1, 0, 0, 0, 1, []), some (1, 1, 1, 0, 0, 0, []), some (17, 1, 0, 0, 0, 0, []), some (1, 1, 2, 0, 0, 0, []), some (40, 3, 132, 3, 102, 6, []), none, none, some (29, 3, 3, 0, 94, 0, []), none, none, some (2, 1, 0, 0, 0, 0, []), some (5, 1, 0, 0, 0, 1, []), some (1, 1, 1, 0, 0, 0, []), some (17, 1, 0, 0, 0, 0, []), some (1, 1, 3, 0, 0, 0, []), some (40, 3, 132, 3, 102, 6, []), none, none, some (29, 3, 3, 0, 94, 0, []), none, none, some (5, 1, 0, 0, 0, 1, []), some (28, 3, 0, 0, 95, 0, []), none, none, some (5, 1, 0, 0, 0, 0, []), some (3, 2, 4, 0, 0, 0, []), none, some (2, 1, 0, 0, 0, 0, []), some (8, 3, 6, 2, 17, 0, []), none, none, some (1, 1, 2, 0, 0, 0, []), some (11, 1, 0, 0, 0, 0, []), some (2, 1, 0, 0, 0, 0, []), some (8, 3, 6, 2, 17, 0, []), none, none, some (1, 1, 3, 0, 0, 0, []), some (11, 1, 0, 0, 0, 0, []), some (23, 1, 0, 0, 0, 0, []), some (3, 2, 5, 0, 0, 0, []), none, some (1, 2, 4, 0, 0, 0, []), none, some (29, 3, 0, 0, 156, 0, []), none, none, some (2, 1, 0, 0, 0, 0, []), some (8, 3, 6, 3, 20, 0, []), none, none, some (1, 1, 2, 0, 0, 0, []), some (11, 1, 0, 0, 0, 0, []), some (2, 1, 0, 0, 0, 0, []), some (8, 3, 6, 3, 20, 0, []), none, none, some (1, 1, 3, 0, 0, 0, []), some (11, 1, 0, 0, 0, 0, []), some (30, 3, 1, 0, 156, 0, []), none, none, some (2, 1, 0, 0, 0, 0, []), some (8, 3, 6, 5, 26, 0, []), none, none, some (1, 1, 2, 0, 0, 0, []), some (11, 1, 0, 0, 0, 0, []), some (2, 1, 0, 0, 0, 0, []), some (8, 3, 6, 5, 26, 0, []), none, none, some (1, 1, 3, 0, 0, 0, []), some (11, 1, 0, 0, 0, 0, []), some (30, 3, 1, 0, 156, 0, []), none, none, some (1, 2, 5, 0, 0, 0, []), none, some (49, 3, 160, 1, 172, 0, []), none, none, some (5, 1, 0, 0, 0, 1, []), some (30, 3, 0, 0, 159, 0, []), none, none, some (5, 2, 0, 0, 0, (-2), []), none, some (41, 1, 0, 0, 0, 0, []), some (2, 1, 0, 0, 0, 0, []), some (1, 1, 2, 0, 0, 0, []), some (1, 1, 3, 0, 0, 0, []), some (40, 3, 122, 3, 109, 6, []), none, none, some (29, 3, 0, 0, 172, 0, []), none, none, some (1, 1, 2, 0, 0, 0, []), some (28, 3, 0, 0, 173, 0, []), none, none, some (1, 1, 3, 0, 0, 0, []), some (3, 2, 6, 0, 0, 0, []), none, some (1, 2, 6, 0, 0, 0, []), none, some (1, 1, 2, 0, 0, 0, []), some (30, 3, 1, 0, 185, 0, []), none, none, some (1, 1, 3, 0, 0, 0, []), some (28, 3, 0, 0, 186, 0, []), none, none, some (1, 1, 2, 0, 0, 0, []), some (3, 2, 7, 0, 0, 0, []), none, some (5, 1, 0, 0, 0, 0, []), some (3, 2, 8, 0, 0, 0, []), none, some (1, 2, 8, 0, 0, 0, []), none, some (5, 2, 0, 0, 0, 32, []), none, some (30, 3, 3, 0, 218, 0, []), none, none, some (2, 1, 0, 0, 0, 0, []), some (8, 3, 6, 24, 67, 0, []), none, none, some (1, 2, 8, 0, 0, 0, []), none, some (2, 1, 0, 0, 0, 0, []), some (1, 1, 1, 0, 0, 0, []), some (1, 2, 8, 0, 0, 0, []), none, some (40, 3, 152, 3, 163, 6, []), none, none, some (12, 1, 0, 0, 0, 0, []), some (27, 3, 8, 0, 0, 1, []), none, none, some (28, 3, 0, 0, 191, 0, []), none, none, some (5, 2, 0, 0, 0, 6, []), none, some (1, 1, 1, 0, 0, 0, []), some (18, 1, 0, 0, 0, 0, []), some (2, 1, 0, 0, 0, 0, []), some (1, 1, 1, 0, 0, 0, []), some (1, 2, 7, 0, 0, 0, []), none, some (40, 3, 132, 3, 102, 6, []), none, none, some (16, 1, 0, 0, 0, 0, []), some (3, 2, 8, 0, 0, 0, []), none, some (2, 1, 0, 0, 0, 0, []), some (8, 3, 6, 3, 20, 0, []), none, none, some (1, 2, 6, 0, 0, 0, []), none, some (11, 1, 0, 0, 0, 0, []), some (3, 2, 9, 0, 0, 0, []), none, some (2, 1, 0, 0, 0, 0, []), some (8, 3, 6, 2, 17, 0, []), none, none, some (1, 2, 6, 0, 0, 0, []), none, some (11, 1, 0, 0, 0, 0, []), some (3, 2, 10, 0, 0, 0, []), none, some (2, 1, 0, 0, 0, 0, []), some (8, 3, 6, 8, 33, 0, []), none, none, some (1, 2, 8, 0, 0, 0, []), none, some (5, 2, 0, 0, 0, (-2), []), none, some (12, 1, 0, 0, 0, 0, []), some (2, 1, 0, 0, 0, 0, []), some (8, 3, 6, 3, 20, 0, []), none, none, some (1, 2, 6, 0, 0, 0, []), none, some (38, 1, 0, 0, 0, 0, []), some (11, 1, 0, 0, 0, 0, []), some (1, 2, 5, 0, 0, 0, []), none, some (5, 1, 0, 0, 0, (-1), []), some (23, 1, 0, 0, 0, 0, []), some (21, 1, 0, 0, 0, 0, []), some (12, 1, 0, 0, 0, 0, []), some (2, 1, 0, 0, 0, 0, []), some (8, 3, 6, 2, 17, 0, []), none, none, some (1, 2, 6, 0, 0, 0, []), none, some (38, 1, 0, 0, 0, 0, []), some (11, 1, 0, 0, 0, 0, []), some (1, 2, 5, 0, 0, 0, []), none, some (5, 1, 0, 0, 0, (-1), []), some (23, 1, 0, 0, 0, 0, []), some (21, 1, 0, 0, 0, 0, []), some (12, 1, 0, 0, 0, 0, []), some (2, 1, 0, 0, 0, 0, []), some (1, 1, 1, 0, 0, 0, []), some (40, 3, 161, 2, 175, 6, []), none, none, some (3, 2, 11, 0, 0, 0, []), none, some (5, 1, 0, 0, 0, 0, []), some (3, 2, 12, 0, 0, 0, []), none, some (1, 2, 12, 0, 0, 0, []), none, some (5, 2, 0, 0, 0, 32, []), none, some (30, 3, 3, 0, 339, 0, []), none, none, some (1, 2, 11, 0, 0, 0, []), none, some (29, 3, 0, 0, 330, 0, []), none, none, some (2, 1, 0, 0, 0, 0, []), some (1, 1, 1, 0, 0, 0, []), some (1, 2, 12, 0, 0, 0, []), none, some (40, 3, 152, 3, 163, 6, []), none, none, some (2, 1, 0, 0, 0, 0, []), some (8, 3, 6, 24, 67, 0, []), none, none, some (1, 2, 12, 0, 0, 0, []), none, some (11, 1, 0, 0, 0, 0, []), some (30, 3, 1, 0, 330, 0, []), none, none, some (5, 1, 0, 0, 0, 1, []), some (28, 3, 0, 0, 331, 0, []), none, none, some (5, 1, 0, 0, 0, 0, []), some (3, 2, 11, 0, 0, 0, []), none, some (27, 3, 12, 0, 0, 1, []), none, none, some (28, 3, 0, 0, 297, 0, []), none, none, some (2, 1, 0, 0, 0, 0, []), some (8, 3, 6, 8, 33, 0, []), none, none, some (1, 2, 8, 0, 0, 0, []), none, some (1, 2, 7, 0, 0, 0, []), none, some (12, 1, 0, 0, 0, 0, []), some (2, 1, 0, 0, 0, 0, []), some (8, 3, 6, 3, 20, 0, []), none, none, some (1, 2, 6, 0, 0, 0, []), none, some (1, 2, 9, 0, 0, 0, []), none, some (12, 1, 0, 0, 0, 0, []), some (2, 1, 0, 0, 0, 0, []), some (8, 3, 6, 2, 17, 0, []), none, none, some (1, 2, 6, 0, 0, 0, []), none, some (1, 2, 10, 0, 0, 0, []), none, some (12, 1, 0, 0, 0, 0, []), some (1, 2, 11, 0, 0, 0, []), none, some (29, 3, 1, 0, 374, 0, []), none, none, some (5, 2, 0, 0, 0, (-2), []), none, some (41, 1, 0, 0, 0, 0, []), some (2, 1, 0, 0, 0, 0, []), some (1, 2, 6, 0, 0, 0, []), none, some (40, 3, 123, 2, 154, 6, []), none, none, some (2, 1, 0, 0, 0, 0, []), some (8, 3, 6, 8, 33, 0, []), none, none, some (1, 2, 8, 0, 0, 0, []), none, some (5, 2, 0, 0, 0, (-2), []), none, some (12, 1, 0, 0, 0, 0, []), some (2, 1, 0, 0, 0, 0, []), some (8, 3, 6, 3, 20, 0, []), none, none, some (1, 2, 6, 0, 0, 0, []), none, some (38, 1, 0, 0, 0, 0, []), some (11, 1, 0, 0, 0, 0, []), some (1, 2, 5, 0, 0, 0, []), none, some (5, 1, 0, 0, 0, (-1), []), some (23, 1, 0, 0, 0, 0, []), some (21, 1, 0, 0, 0, 0, []), some (12, 1, 0, 0, 0, 0, []), some (2, 1, 0, 0, 0, 0, []), some (8, 3, 6, 2, 17, 0, []), none, none, some (1, 2, 6, 0, 0, 0, []), none, some (38, 1, 0, 0, 0, 0, []), some (11, 1, 0, 0, 0, 0, []), some (1, 2, 5, 0, 0, 0, []), none, some (5, 1, 0, 0, 0, (-1), []), some (23, 1, 0, 0, 0, 0, []), some (21, 1, 0, 0, 0, 0, []), some (12, 1, 0, 0, 0, 0, []), some (2, 1, 0, 0, 0, 0, []), some (5, 1, 0, 0, 0, 0, []), some (9, 3, 6, 21, 83, 0, []), none, none, some (1, 2, 6, 0, 0, 0, []), none, some (41, 1, 0, 0, 0, 0, [])] -- X6_melt
def zc_163 : List (Option PI) := [some (2, 1, 0, 0, 0, 0, []), some (5, 1, 0, 0, 0, (-1), []), some (40, 3, 123, 2, 154, 6, []), none, none, some (2, 1, 0, 0, 0, 0, []), some (5, 1, 0, 0, 0, 1, []), some (2, 1, 0, 0, 0, 0, []), some (7, 3, 6, 7, 80, 0, []), none, none, some (17, 1, 0, 0, 0, 0, []), some (9, 3, 6, 7, 80, 0, []), none, none, some (2, 1, 0, 0, 0, 0, []), some (7, 3, 6, 7, 80, 0, []), none, none, some (41, 1, 0, 0, 0, 0, [])] -- X6_over
def zc_164 : List (Option PI) := [some (5, 1, 0, 0, 0, 0, []), some (3, 1, 1, 0, 0, 0, []), some (5, 1, 0, 0, 0, 0, []), some (3, 1, 2, 0, 0, 0, []), some (1, 1, 2, 0, 0, 0, []), some (5, 2, 0, 0, 0, 32, []), none, some (30, 3, 3, 0, 39, 0, []), none, none, some (1, 1, 1, 0, 0, 0, []), some (2, 1, 0, 0, 0, 0, []), some (5, 1, 0, 0, 0, 0, []), some (1, 1, 2, 0, 0, 0, []), some (40, 3, 152, 3, 163, 6, []), none, none, some (2, 1, 0, 0, 0, 0, []), some (5, 1, 0, 0, 0, 1, []), some (1, 1, 2, 0, 0, 0, []), some (40, 3, 152, 3, 163, 6, []), none, none, some (30, 3, 1, 0, 30, 0, []), none, none, some (5, 1, 0, 0, 0, 0, []), some (28, 3, 0, 0, 31, 0, []), none, none, some (5, 1, 0, 0, 0, 1, []), some (16, 1, 0, 0, 0, 0, []), some (3, 1, 1, 0, 0, 0, []), some (27, 3, 2, 0, 0, 1, []), none, none, some (28, 3, 0, 0, 4, 0, []), none, none, some (1, 1, 1, 0, 0, 0, []), some (41, 1, 0, 0, 0, 0, [])] -- X6_differ
def zc_165 : List (Option PI) := [some (1, 1, 1, 0, 0, 0, []), some (49, 3, 119, 1, 135, 0, []), none, none, some (29, 3, 1, 0, 9, 0, []), none, none, some (5, 1, 0, 0, 0, (-1), []), some (41, 1, 0, 0, 0, 0, []), some (5, 1, 0, 0, 0, 0, []), some (3, 1, 2, 0, 0, 0, []), some (1, 1, 2, 0, 0, 0, []), some (2, 1, 0, 0, 0, 0, []), some (7, 3, 6, 6, 29, 0, []), none, none, some (30, 3, 3, 0, 46, 0, []), none, none, some (2, 1, 0, 0, 0, 0, []), some (8, 3, 6, 8, 33, 0, []), none, none, some (5, 2, 0, 0, 0, 6, []), none, some (5, 1, 0, 0, 0, 1, []), some (1, 1, 1, 0, 0, 0, []), some (17, 1, 0, 0, 0, 0, []), some (18, 1, 0, 0, 0, 0, []), some (1, 1, 2, 0, 0, 0, []), some (16, 1, 0, 0, 0, 0, []), some (11, 1, 0, 0, 0, 0, []), some (5, 2, 0, 0, 0, (-2), []), none, some (30, 3, 0, 0, 40, 0, []), none, none, some (5, 2, 0, 0, 0, (-2), []), none, some (41, 1, 0, 0, 0, 0, []), some (27, 3, 2, 0, 0, 1, []), none, none, some (28, 3, 0, 0, 11, 0, []), none, none, some (2, 1, 0, 0, 0, 0, []), some (5, 1, 0, 0, 0, (-1), []), some (40, 3, 123, 2, 154, 6, []), none, none, some (5, 1, 0, 0, 0, 0, []), some (3, 1, 2, 0, 0, 0, []), some (5, 1, 0, 0, 0, 1, []), some (3, 1, 3, 0, 0, 0, []), some (1, 1, 3, 0, 0, 0, []), some (29, 3, 0, 0, 169, 0, []), none, none, some (5, 1, 0, 0, 0, (-1), []), some (3, 2, 4, 0, 0, 0, []), none, some (5, 1, 0, 0, 0, 0, []), some (3, 2, 5, 0, 0, 0, []), none, some (1, 2, 5, 0, 0, 0, []), none, some (5, 2, 0, 0, 0, 16, []), none, some (30, 3, 3, 0, 135, 0, []), none, none, some (2, 1, 0, 0, 0, 0, []), some (8, 3, 6, 0, 7, 0, []), none, none, some (1, 2, 5, 0, 0, 0, []), none, some (13, 1, 0, 0, 0, 0, []), some (29, 3, 0, 0, 129, 0, []), none, none, some (2, 1, 0, 0, 0, 0, []), some (1, 1, 1, 0, 0, 0, []), some (1, 2, 5, 0, 0, 0, []), none, some (40, 3, 132, 3, 102, 6, []), none, none, some (29, 3, 2, 0, 129, 0, []), none, none, some (2, 1, 0, 0, 0, 0, []), some (5, 1, 0, 0, 0, 1, []), some (1, 1, 1, 0, 0, 0, []), some (17, 1, 0, 0, 0, 0, []), some (1, 2, 5, 0, 0, 0, []), none, some (40, 3, 132, 3, 102, 6, []), none, none, some (29, 3, 3, 0, 129, 0, []), none, none, some (1, 2, 4, 0, 0, 0, []), none, some (29, 3, 2, 0, 120, 0, []), none, none, some (2, 1, 0, 0, 0, 0, []), some (1, 2, 5, 0, 0, 0, []), none, some (1, 2, 4, 0, 0, 0, []), none, some (40, 3, 122, 3, 109, 6, []), none, none, some (29, 3, 0, 0, 125, 0, []), none, none, some (1, 2, 5, 0, 0, 0, []), none, some (28, 3, 0, 0, 127, 0, []), none, none, some (1, 2, 4, 0, 0, 0, []), none, some (3, 2, 4, 0, 0, 0, []), none, some (27, 3, 5, 0, 0, 1, []), none, none, some (28, 3, 0, 0, 65, 0, []), none, none, some (1, 2, 4, 0, 0, 0, []), none, some (29, 3, 2, 0, 144, 0, []), none, none, some (5, 1, 0, 0, 0, 1, []), some (28, 3, 0, 0, 145, 0, []), none, none, some (5, 1, 0, 0, 0, 0, []), some (3, 1, 3, 0, 0, 0, []), some (1, 1, 2, 0, 0, 0, []), some (1, 1, 3, 0, 0, 0, []), some (29, 3, 0, 0, 163, 0, []), none, none, some (2, 1, 0, 0, 0, 0, []), some (5, 1, 0, 0, 0, 1, []), some (1, 1, 1, 0, 0, 0, []), some (17, 1, 0, 0, 0, 0, []), some (1, 2, 4, 0, 0, 0, []), none, some (40, 3, 147, 3, 157, 6, []), none, none, some (28, 3, 0, 0, 164, 0, []), none, none, some (5, 1, 0, 0, 0, 0, []), some (16, 1, 0, 0, 0, 0, []), some (3, 1, 2, 0, 0, 0, []), some (28, 3, 0, 0, 55, 0, []), none, none, some (2, 1, 0, 0, 0, 0, []), some (5, 1, 0, 0, 0, 0, []), some (9, 3, 6, 21, 83, 0, []), none, none, some (1, 1, 2, 0, 0, 0, []), some (41, 1, 0, 0, 0, 0, [])] -- X6_build
def zc_166 : List (Option PI) := [some (5, 1, 0, 0, 0, 0, []), some (3, 1, 2, 0, 0, 0, []), some (1, 1, 1, 0, 0, 0, []), some (34, 37, 0, 0, 105, 5, [40, 48, 48, 90, 95, 100]), none, none, none, none, none, none, none, none, none, none, none, none, none, none, none, none, none, none, none, none, none, none, none, none, none, none, none, none, none, none, none, none, none, none, none, none, some (5, 2, 0, 0, 0, 16, []), none, some (2, 1, 0, 0, 0, 0, []), some (40, 3, 126, 1, 86, 6, []), none, none, some (17, 1, 0, 0, 0, 0, []), some (41, 1, 0, 0, 0, 0, []), some (5, 1, 0, 0, 0, 0, []), some (3, 1, 3, 0, 0, 0, []), some (1, 1, 3, 0, 0, 0, []), some (2, 1, 0, 0, 0, 0, []), some (7, 3, 6, 6, 29, 0, []), none, none, some (30, 3, 3, 0, 88, 0, []), none, none, some (1, 1, 2, 0, 0, 0, []), some (2, 1, 0, 0, 0, 0, []), some (8, 3, 6, 8, 33, 0, []), none, none, some (5, 2, 0, 0, 0, 6, []), none, some (1, 1, 1, 0, 0, 0, []), some (5, 1, 0, 0, 0, 1, []), some (17, 1, 0, 0, 0, 0, []), some (18, 1, 0, 0, 0, 0, []), some (1, 1, 3, 0, 0, 0, []), some (16, 1, 0, 0, 0, 0, []), some (11, 1, 0, 0, 0, 0, []), some (29, 3, 2, 0, 79, 0, []), none, none, some (5, 1, 0, 0, 0, 1, []), some (28, 3, 0, 0, 80, 0, []), none, none, some (5, 1, 0, 0, 0, 0, []), some (16, 1, 0, 0, 0, 0, []), some (3, 1, 2, 0, 0, 0, []), some (27, 3, 3, 0, 0, 1, []), none, none, some (28, 3, 0, 0, 50, 0, []), none, none, some (1, 1, 2, 0, 0, 0, []), some (41, 1, 0, 0, 0, 0, []), some (2, 1, 0, 0, 0, 0, []), some (7, 3, 6, 6, 29, 0, []), none, none, some (41, 1, 0, 0, 0, 0, []), some (2, 1, 0, 0, 0, 0, []), some (7, 3, 6, 7, 80, 0, []), none, none, some (41, 1, 0, 0, 0, 0, []), some (2, 1, 0, 0, 0, 0, []), some (7, 3, 6, 9, 77, 0, []), none, none, some (41, 1, 0, 0, 0, 0, []), some (5, 1, 0, 0, 0, (-1), []), some (41, 1, 0, 0, 0, 0, [])] -- X6_count
def zc_167 : List (Option PI) := [some (1, 1, 0, 0, 0, 0, []), some (1, 1, 0, 0, 0, 0, []), some (5, 1, 0, 0, 0, 1, []), some (26, 1, 0, 0, 0, 0, []), some (5, 3, 0, 0, 265, 1431655765, []), none, none, some (21, 1, 0, 0, 0, 0, []), some (17, 1, 0, 0, 0, 0, []), some (3, 1, 0, 0, 0, 0, []), some (1, 1, 0, 0, 0, 0, []), some (5, 3, 0, 0, 266, 858993459, []), none, none, some (21, 1, 0, 0, 0, 0, []), some (1, 1, 0, 0, 0, 0, []), some (5, 1, 0, 0, 0, 2, []), some (26, 1, 0, 0, 0, 0, []), some (5, 3, 0, 0, 266, 858993459, []), none, none, some (21, 1, 0, 0, 0, 0, []), some (16, 1, 0, 0, 0, 0, []), some (3, 1, 0, 0, 0, 0, []), some (1, 1, 0, 0, 0, 0, []), some (1, 1, 0, 0, 0, 0, []), some (5, 1, 0, 0, 0, 4, []), some (26, 1, 0, 0, 0, 0, []), some (16, 1, 0, 0, 0, 0, []), some (5, 3, 0, 0, 267, 252645135, []), none, none, some (21, 1, 0, 0, 0, 0, []), some (3, 1, 0, 0, 0, 0, []), some (1, 1, 0, 0, 0, 0, []), some (1, 1, 0, 0, 0, 0, []), some (5, 2, 0, 0, 0, 8, []), none, some (26, 1, 0, 0, 0, 0, []), some (16, 1, 0, 0, 0, 0, []), some (3, 1, 0, 0, 0, 0, []), some (1, 1, 0, 0, 0, 0, []), some (1, 1, 0, 0, 0, 0, []), some (5, 2, 0, 0, 0, 16, []), none, some (26, 1, 0, 0, 0, 0, []), some (16, 1, 0, 0, 0, 0, []), some (3, 1, 0, 0, 0, 0, []), some (1, 1, 0, 0, 0, 0, []), some (5, 2, 0, 0, 0, 63, []), none, some (21, 1, 0, 0, 0, 0, []), some (41, 1, 0, 0, 0, 0, [])] -- J6_bitCount_0f7a4
def zc_168 : List (Option PI) := [some (1, 1, 0, 0, 0, 0, []), some (1, 1, 1, 0, 0, 0, []), some (20, 1, 0, 0, 0, 0, []), some (3, 1, 2, 0, 0, 0, []), some (1, 1, 0, 0, 0, 0, []), some (1, 1, 1, 0, 0, 0, []), some (23, 1, 0, 0, 0, 0, []), some (29, 3, 3, 0, 18, 0, []), none, none, some (1, 1, 2, 0, 0, 0, []), some (29, 3, 0, 0, 18, 0, []), none, none, some (1, 1, 2, 0, 0, 0, []), some (1, 1, 1, 0, 0, 0, []), some (16, 1, 0, 0, 0, 0, []), some (41, 1, 0, 0, 0, 0, []), some (1, 1, 2, 0, 0, 0, []), some (41, 1, 0, 0, 0, 0, [])] -- J9_floorMod_7cf53
def zc_169 : List (Option PI) := [some (1, 1, 0, 0, 0, 0, []), some (1, 1, 1, 0, 0, 0, []), some (30, 3, 2, 0, 9, 0, []), none, none, some (1, 1, 0, 0, 0, 0, []), some (28, 3, 0, 0, 10, 0, []), none, none, some (1, 1, 1, 0, 0, 0, []), some (41, 1, 0, 0, 0, 0, [])] -- J9_max_7cf53
def zc_170 : List (Option PI) := [some (1, 1, 0, 0, 0, 0, []), some (1, 1, 1, 0, 0, 0, []), some (30, 3, 4, 0, 9, 0, []), none, none, some (1, 1, 0, 0, 0, 0, []), some (28, 3, 0, 0, 10, 0, []), none, none, some (1, 1, 1, 0, 0, 0, []), some (41, 1, 0, 0, 0, 0, [])] -- J9_min_7cf53
def zc_171 : List (Option PI) := [some (5, 1, 0, 0, 0, 0, []), some (3, 1, 2, 0, 0, 0, []), some (2, 1, 0, 0, 0, 0, []), some (15, 1, 0, 0, 0, 0, []), some (3, 1, 3, 0, 0, 0, []), some (1, 1, 2, 0, 0, 0, []), some (1, 1, 3, 0, 0, 0, []), some (30, 3, 3, 0, 20, 0, []), none, none, some (2, 1, 0, 0, 0, 0, []), some (1, 1, 2, 0, 0, 0, []), some (1, 1, 1, 0, 0, 0, []), some (12, 1, 0, 0, 0, 0, []), some (27, 3, 2, 0, 0, 1, []), none, none, some (28, 3, 0, 0, 5, 0, []), none, none, some (44, 1, 0, 0, 0, 0, [])] -- J7_fill_53178
def zc_172 : List (Option PI) := [some (36, 3, 5, 9, 7, 0, []), none, none, some (37, 1, 0, 0, 0, 0, []), some (48, 3, 77, 1, 9, 5, []), none, none, some (4, 1, 1, 0, 0, 0, []), some (36, 3, 6, 25, 10, 0, []), none, none, some (37, 1, 0, 0, 0, 0, []), some (48, 3, 116, 1, 12, 6, []), none, none, some (4, 1, 2, 0, 0, 0, []), some (5, 1, 0, 0, 0, 0, []), some (3, 1, 3, 0, 0, 0, []), some (1, 1, 3, 0, 0, 0, []), some (2, 1, 0, 0, 0, 0, []), some (46, 1, 0, 0, 0, 0, []), some (5, 1, 0, 0, 0, 5, []), some (17, 1, 0, 0, 0, 0, []), some (30, 3, 4, 0, 909, 0, []), none, none, some (2, 1, 0, 0, 0, 0, []), some (1, 1, 3, 0, 0, 0, []), some (47, 1, 0, 0, 0, 0, []), some (5, 2, 0, 0, 0, 31, []), none, some (21, 1, 0, 0, 0, 0, []), some (34, 116, 0, 0, 903, 24, [148, 171, 224, 247, 300, 333, 356, 389, 422, 455, 488, 521, 554, 587, 620, 653, 676, 709, 742, 775, 818, 831, 844, 867, 880]), none, none, none, none, none, none, none, none, none, none, none, none, none, none, none, none, none, none, none, none, none, none, none, none, none, none, none, none, none, none, none, none, none, none, none, none, none, none, none, none, none, none, none, none, none, none, none, none, none, none, none, none, none, none, none, none, none, none, none, none, none, none, none, none, none, none, none, none, none, none, none, none, none, none, none, none, none, none, none, none, none, none, none, none, none, none, none, none, none, none, none, none, none, none, none, none, none, none, none, none, none, none, none, none, none, none, none, none, none, none, none, none, none, none, none, some (2, 1, 1, 0, 0, 0, []), some (2, 1, 0, 0, 0, 0, []), some (1, 1, 3, 0, 0, 0, []), some (5, 1, 0, 0, 0, 1, []), some (16, 1, 0, 0, 0, 0, []), some (47, 1, 0, 0, 0, 0, []), some (40, 3, 78, 2, 13, 5, []), none, none, some (2, 1, 2, 0, 0, 0, []), some (2, 1, 0, 0, 0, 0, []), some (1, 1, 3, 0, 0, 0, []), some (5, 1, 0, 0, 0, 1, []), some (16, 1, 0, 0, 0, 0, []), some (47, 1, 0, 0, 0, 0, []), some (40, 3, 125, 2, 17, 6, []), none, none, some (30, 3, 0, 0, 903, 0, []), none, none, some (5, 1, 0, 0, 0, 0, []), some (42, 1, 0, 0, 0, 0, []), some (2, 1, 1, 0, 0, 0, []), some (2, 1, 0, 0, 0, 0, []), some (1, 1, 3, 0, 0, 0, []), some (5, 1, 0, 0, 0, 1, []), some (16, 1, 0, 0, 0, 0, []), some (47, 1, 0, 0, 0, 0, []), some (2, 1, 0, 0, 0, 0, []), some (1, 1, 3, 0, 0, 0, []), some (5, 1, 0, 0, 0, 2, []), some (16, 1, 0, 0, 0, 0, []), some (47, 1, 0, 0, 0, 0, []), some (2, 1, 0, 0, 0, 0, []), some (1, 1, 3, 0, 0, 0, []), some (5, 1, 0, 0, 0, 3, []), some (16, 1, 0, 0, 0, 0, []), some (47, 1, 0, 0, 0, 0, []), some (2, 1, 0, 0, 0, 0, []), some (1, 1, 3, 0, 0, 0, []), some (5, 1, 0, 0, 0, 4, []), some (16, 1, 0, 0, 0, 0, []), some (47, 1, 0, 0, 0, 0, []), some (40, 3, 79, 5, 18, 5, []), none, none, some (2, 1, 2, 0, 0, 0, []), some (2, 1, 0, 0, 0, 0, []), some (1, 1, 3, 0, 0, 0, []), some (5, 1, 0, 0, 0, 1, []), some (16, 1, 0, 0, 0, 0, []), some (47, 1, 0, 0, 0, 0, []), some (2, 1, 0, 0, 0, 0, []), some (1, 1, 3, 0, 0, 0, []), some (5, 1, 0, 0, 0, 2, []), some (16, 1, 0, 0, 0, 0, []), some (47, 1, 0, 0, 0, 0, []), some (2, 1, 0, 0, 0, 0, []), some (1, 1, 3, 0, 0, 0, []), some (5, 1, 0, 0, 0, 3, []), some (16, 1, 0, 0, 0, 0, []), some (47, 1, 0, 0, 0, 0, []), some (2, 1, 0, 0, 0, 0, []), some (1, 1, 3, 0, 0, 0, []), some (5, 1, 0, 0, 0, 4, []), some (16, 1, 0, 0, 0, 0, []), some (47, 1, 0, 0, 0, 0, []), some (40, 3, 128, 5, 22, 6, []), none, none, some (30, 3, 0, 0, 903, 0, []), none, none, some (5, 1, 0, 0, 0, 0, []), some (42, 1, 0, 0, 0, 0, []), some (2, 1, 1, 0, 0, 0, []), some (2, 1, 0, 0, 0, 0, []), some (1, 1, 3, 0, 0, 0, []), some (5, 1, 0, 0, 0, 1, []), some (16, 1, 0, 0, 0, 0, []), some (47, 1, 0, 0, 0, 0, []), some (40, 3, 80, 2, 23, 5, []), none, none, some (2, 1, 2, 0, 0, 0, []), some (2, 1, 0, 0, 0, 0, []), some (1, 1, 3, 0, 0, 0, []), some (5, 1, 0, 0, 0, 1, []), some (16, 1, 0, 0, 0, 0, []), some (47, 1, 0, 0, 0, 0, []), some (40, 3, 129, 2, 26, 6, []), none, none, some (30, 3, 0, 0, 903, 0, []), none, none, some (5, 1, 0, 0, 0, 0, []), some (42, 1, 0, 0, 0, 0, []), some (2, 1, 1, 0, 0, 0, []), some (2, 1, 0, 0, 0, 0, []), some (1, 1, 3, 0, 0, 0, []), some (5, 1, 0, 0, 0, 1, []), some (16, 1, 0, 0, 0, 0, []), some (47, 1, 0, 0, 0, 0, []), some (2, 1, 0, 0, 0, 0, []), some (1, 1, 3, 0, 0, 0, []), some (5, 1, 0, 0, 0, 2, []), some (16, 1, 0, 0, 0, 0, []), some (47, 1, 0, 0, 0, 0, []), some (2, 1, 0, 0, 0, 0, []), some (1, 1, 3, 0, 0, 0, []), some (5, 1, 0, 0, 0, 3, []), some (16, 1, 0, 0, 0, 0, []), some (47, 1, 0, 0, 0, 0, []), some (2, 1, 0, 0, 0, 0, []), some (1, 1, 3, 0, 0, 0, []), some (5, 1, 0, 0, 0, 4, []), some (16, 1, 0, 0, 0, 0, []), some (47, 1, 0, 0, 0, 0, []), some (40, 3, 81, 5, 27, 5, []), none, none, some (2, 1, 2, 0, 0, 0, []), some (2, 1, 0, 0, 0, 0, []), some (1, 1, 3, 0, 0, 0, []), some (5, 1, 0, 0, 0, 1, []), some (16, 1, 0, 0, 0, 0, []), some (47, 1, 0, 0, 0, 0, []), some (2, 1, 0, 0, 0, 0, []), some (1, 1, 3, 0, 0, 0, []), some (5, 1, 0, 0, 0, 2, []), some (16, 1, 0, 0, 0, 0, []), some (47, 1, 0, 0, 0, 0, []), some (2, 1, 0, 0, 0, 0, []), some (1, 1, 3, 0, 0, 0, []), some (5, 1, 0, 0, 0, 3, []), some (16, 1, 0, 0, 0, 0, []), some (47, 1, 0, 0, 0, 0, []), some (2, 1, 0, 0, 0, 0, []), some (1, 1, 3, 0, 0, 0, []), some (5, 1, 0, 0, 0, 4, []), some (16, 1, 0, 0, 0, 0, []), some (47, 1, 0, 0, 0, 0, []), some (40, 3, 131, 5, 30, 6, []), none, none, some (30, 3, 0, 0, 903, 0, []), none, none, some (5, 1, 0, 0, 0, 0, []), some (42, 1, 0, 0, 0, 0, []), some (2, 1, 1, 0, 0, 0, []), some (2, 1, 0, 0, 0, 0, []), some (1, 1, 3, 0, 0, 0, []), some (5, 1, 0, 0, 0, 1, []), some (16, 1, 0, 0, 0, 0, []), some (47, 1, 0, 0, 0, 0, []), some (2, 1, 0, 0, 0, 0, []), some (1, 1, 3, 0, 0, 0, []), some (5, 1, 0, 0, 0, 2, []), some (16, 1, 0, 0, 0, 0, []), some (47, 1, 0, 0, 0, 0, []), some (40, 3, 82, 3, 31, 5, []), none, none, some (2, 1, 2, 0, 0, 0, []), some (2, 1, 0, 0, 0, 0, []), some (1, 1, 3, 0, 0, 0, []), some (5, 1, 0, 0, 0, 1, []), some (16, 1, 0, 0, 0, 0, []), some (47, 1, 0, 0, 0, 0, []), some (2, 1, 0, 0, 0, 0, []), some (1, 1, 3, 0, 0, 0, []), some (5, 1, 0, 0, 0, 2, []), some (16, 1, 0, 0, 0, 0, []), some (47, 1, 0, 0, 0, 0, []), some (40, 3, 133, 3, 35, 6, []), none, none, some (30, 3, 0, 0, 903, 0, []), none, none, some (5, 1, 0, 0, 0, 0, []), some (42, 1, 0, 0, 0, 0, []), some (2, 1, 1, 0, 0, 0, []), some (2, 1, 0, 0, 0, 0, []), some (1, 1, 3, 0, 0, 0, []), some (5, 1, 0, 0, 0, 1, []), some (16, 1, 0, 0, 0, 0, []), some (47, 1, 0, 0, 0, 0, []), some (40, 3, 83, 2, 36, 5, []), none, none, some (2, 1, 2, 0, 0, 0, []), some (2, 1, 0, 0, 0, 0, []), some (1, 1, 3, 0, 0, 0, []), some (5, 1, 0, 0, 0, 1, []), some (16, 1, 0, 0, 0, 0, []), some (47, 1, 0, 0, 0, 0, []), some (40, 3, 134, 2, 39, 6, []), none, none, some (30, 3, 0, 0, 903, 0, []), none, none, some (5, 1, 0, 0, 0, 0, []), some (42, 1, 0, 0, 0, 0, []), some (2, 1, 1, 0, 0, 0, []), some (2, 1, 0, 0, 0, 0, []), some (1, 1, 3, 0, 0, 0, []), some (5, 1, 0, 0, 0, 1, []), some (16, 1, 0, 0, 0, 0, []), some (47, 1, 0, 0, 0, 0, []), some (2, 1, 0, 0, 0, 0, []), some (1, 1, 3, 0, 0, 0, []), some (5, 1, 0, 0, 0, 2, []), some (16, 1, 0, 0, 0, 0, []), some (47, 1, 0, 0, 0, 0, []), some (40, 3, 84, 3, 40, 5, []), none, none, some (2, 1, 2, 0, 0, 0, []), some (2, 1, 0, 0, 0, 0, []), some (1, 1, 3, 0, 0, 0, []), some (5, 1, 0, 0, 0, 1, []), some (16, 1, 0, 0, 0, 0, []), some (47, 1, 0, 0, 0, 0, []), some (2, 1, 0, 0, 0, 0, []), some (1, 1, 3, 0, 0, 0, []), some (5, 1, 0, 0, 0, 2, []), some (16, 1, 0, 0, 0, 0, []), some (47, 1, 0, 0, 0, 0, []), some (40, 3, 135, 3, 43, 6, []), none, none, some (30, 3, 0, 0, 903, 0, []), none, none, some (5, 1, 0, 0, 0, 0, []), some (42, 1, 0, 0, 0, 0, []), some (2, 1, 1, 0, 0, 0, []), some (2, 1, 0, 0, 0, 0, []), some (1, 1, 3, 0, 0, 0, []), some (5, 1, 0, 0, 0, 1, []), some (16, 1, 0, 0, 0, 0, []), some (47, 1, 0, 0, 0, 0, []), some (2, 1, 0, 0, 0, 0, []), some (1, 1, 3, 0, 0, 0, []), some (5, 1, 0, 0, 0, 2, []), some (16, 1, 0, 0, 0, 0, []), some (47, 1, 0, 0, 0, 0, []), some (40, 3, 85, 3, 44, 5, []), none, none, some (2, 1, 2, 0, 0, 0, []), some (2, 1, 0, 0, 0, 0, []), some (1, 1, 3, 0, 0, 0, []), some (5, 1, 0, 0, 0, 1, []), some (16, 1, 0, 0, 0, 0, []), some (47, 1, 0, 0, 0, 0, []), some (2, 1, 0, 0, 0, 0, []), some (1, 1, 3, 0, 0, 0, []), some (5, 1, 0, 0, 0, 2, []), some (16, 1, 0, 0, 0, 0, []), some (47, 1, 0, 0, 0, 0, []), some (40, 3, 136, 3, 47, 6, []), none, none, some (30, 3, 0, 0, 903, 0, []), none, none, some (5, 1, 0, 0, 0, 0, []), some (42, 1, 0, 0, 0, 0, []), some (2, 1, 1, 0, 0, 0, []), some (2, 1, 0, 0, 0, 0, []), some (1, 1, 3, 0, 0, 0, []), some (5, 1, 0, 0, 0, 1, []), some (16, 1, 0, 0, 0, 0, []), some (47, 1, 0, 0, 0, 0, []), some (2, 1, 0, 0, 0, 0, []), some (1, 1, 3, 0, 0, 0, []), some (5, 1, 0, 0, 0, 2, []), some (16, 1, 0, 0, 0, 0, []), some (47, 1, 0, 0, 0, 0, []), some (40, 3, 86, 3, 48, 5, []), none, none, some (2, 1, 2, 0, 0, 0, []), some (2, 1, 0, 0, 0, 0, []), some (1, 1, 3, 0, 0, 0, []), some (5, 1, 0, 0, 0, 1, []), some (16, 1, 0, 0, 0, 0, []), some (47, 1, 0, 0, 0, 0, []), some (2, 1, 0, 0, 0, 0, []), some (1, 1, 3, 0, 0, 0, []), some (5, 1, 0, 0, 0, 2, []), some (16, 1, 0, 0, 0, 0, []), some (47, 1, 0, 0, 0, 0, []), some (40, 3, 137, 3, 51, 6, []), none, none, some (30, 3, 0, 0, 903, 0, []), none, none, some (5, 1, 0, 0, 0, 0, []), some (42, 1, 0, 0, 0, 0, []), some (2, 1, 1, 0, 0, 0, []), some (2, 1, 0, 0, 0, 0, []), some (1, 1, 3, 0, 0, 0, []), some (5, 1, 0, 0, 0, 1, []), some (16, 1, 0, 0, 0, 0, []), some (47, 1, 0, 0, 0, 0, []), some (2, 1, 0, 0, 0, 0, []), some (1, 1, 3, 0, 0, 0, []), some (5, 1, 0, 0, 0, 2, []), some (16, 1, 0, 0, 0, 0, []), some (47, 1, 0, 0, 0, 0, []), some (40, 3, 87, 3, 52, 5, []), none, none, some (2, 1, 2, 0, 0, 0, []), some (2, 1, 0, 0, 0, 0, []), some (1, 1, 3, 0, 0, 0, []), some (5, 1, 0, 0, 0, 1, []), some (16, 1, 0, 0, 0, 0, []), some (47, 1, 0, 0, 0, 0, []), some (2, 1, 0, 0, 0, 0, []), some (1, 1, 3, 0, 0, 0, []), some (5, 1, 0, 0, 0, 2, []), some (16, 1, 0, 0, 0, 0, []), some (47, 1, 0, 0, 0, 0, []), some (40, 3, 148, 3, 55, 6, []), none, none, some (30, 3, 0, 0, 903, 0, []), none, none, some (5, 1, 0, 0, 0, 0, []), some (42, 1, 0, 0, 0, 0, []), some (2, 1, 1, 0, 0, 0, []), some (2, 1, 0, 0, 0, 0, []), some (1, 1, 3, 0, 0, 0, []), some (5, 1, 0, 0, 0, 1, []), some (16, 1, 0, 0, 0, 0, []), some (47, 1, 0, 0, 0, 0, []), some (2, 1, 0, 0, 0, 0, []), some (1, 1, 3, 0, 0, 0, []), some (5, 1, 0, 0, 0, 2, []), some (16, 1, 0, 0, 0, 0, []), some (47, 1, 0, 0, 0, 0, []), some (40, 3, 88, 3, 56, 5, []), none, none, some (2, 1, 2, 0, 0, 0, []), some (2, 1, 0, 0, 0, 0, []), some (1, 1, 3, 0, 0, 0, []), some (5, 1, 0, 0, 0, 1, []), some (16, 1, 0, 0, 0, 0, []), some (47, 1, 0, 0, 0, 0, []), some (2, 1, 0, 0, 0, 0, []), some (1, 1, 3, 0, 0, 0, []), some (5, 1, 0, 0, 0, 2, []), some (16, 1, 0, 0, 0, 0, []), some (47, 1, 0, 0, 0, 0, []), some (40, 3, 146, 3, 59, 6, []), none, none, some (30, 3, 0, 0, 903, 0, []), none, none, some (5, 1, 0, 0, 0, 0, []), some (42, 1, 0, 0, 0, 0, []), some (2, 1, 1, 0, 0, 0, []), some (2, 1, 0, 0, 0, 0, []), some (1, 1, 3, 0, 0, 0, []), some (5, 1, 0, 0, 0, 1, []), some (16, 1, 0, 0, 0, 0, []), some (47, 1, 0, 0, 0, 0, []), some (2, 1, 0, 0, 0, 0, []), some (1, 1, 3, 0, 0, 0, []), some (5, 1, 0, 0, 0, 2, []), some (16, 1, 0, 0, 0, 0, []), some (47, 1, 0, 0, 0, 0, []), some (40, 3, 89, 3, 60, 5, []), none, none, some (2, 1, 2, 0, 0, 0, []), some (2, 1, 0, 0, 0, 0, []), some (1, 1, 3, 0, 0, 0, []), some (5, 1, 0, 0, 0, 1, []), some (16, 1, 0, 0, 0, 0, []), some (47, 1, 0, 0, 0, 0, []), some (2, 1, 0, 0, 0, 0, []), some (1, 1, 3, 0, 0, 0, []), some (5, 1, 0, 0, 0, 2, []), some (16, 1, 0, 0, 0, 0, []), some (47, 1, 0, 0, 0, 0, []), some (40, 3, 149, 3, 63, 6, []), none, none, some (30, 3, 0, 0, 903, 0, []), none, none, some (5, 1, 0, 0, 0, 0, []), some (42, 1, 0, 0, 0, 0, []), some (2, 1, 1, 0, 0, 0, []), some (2, 1, 0, 0, 0, 0, []), some (1, 1, 3, 0, 0, 0, []), some (5, 1, 0, 0, 0, 1, []), some (16, 1, 0, 0, 0, 0, []), some (47, 1, 0, 0, 0, 0, []), some (2, 1, 0, 0, 0, 0, []), some (1, 1, 3, 0, 0, 0, []), some (5, 1, 0, 0, 0, 2, []), some (16, 1, 0, 0, 0, 0, []), some (47, 1, 0, 0, 0, 0, []), some (40, 3, 90, 3, 64, 5, []), none, none, some (2, 1, 2, 0, 0, 0, []), some (2, 1, 0, 0, 0, 0, []), some (1, 1, 3, 0, 0, 0, []), some (5, 1, 0, 0, 0, 1, []), some (16, 1, 0, 0, 0, 0, []), some (47, 1, 0, 0, 0, 0, []), some (2, 1, 0, 0, 0, 0, []), some (1, 1, 3, 0, 0, 0, []), some (5, 1, 0, 0, 0, 2, []), some (16, 1, 0, 0, 0, 0, []), some (47, 1, 0, 0, 0, 0, []), some (40, 3, 150, 3, 67, 6, []), none, none, some (30, 3, 0, 0, 903, 0, []), none, none, some (5, 1, 0, 0, 0, 0, []), some (42, 1, 0, 0, 0, 0, []), some (2, 1, 1, 0, 0, 0, []), some (2, 1, 0, 0, 0, 0, []), some (1, 1, 3, 0, 0, 0, []), some (5, 1, 0, 0, 0, 1, []), some (16, 1, 0, 0, 0, 0, []), some (47, 1, 0, 0, 0, 0, []), some (2, 1, 0, 0, 0, 0, []), some (1, 1, 3, 0, 0, 0, []), some (5, 1, 0, 0, 0, 2, []), some (16, 1, 0, 0, 0, 0, []), some (47, 1, 0, 0, 0, 0, []), some (40, 3, 91, 3, 68, 5, []), none, none, some (2, 1, 2, 0, 0, 0, []), some (2, 1, 0, 0, 0, 0, []), some (1, 1, 3, 0, 0, 0, []), some (5, 1, 0, 0, 0, 1, []), some (16, 1, 0, 0, 0, 0, []), some (47, 1, 0, 0, 0, 0, []), some (2, 1, 0, 0, 0, 0, []), some (1, 1, 3, 0, 0, 0, []), some (5, 1, 0, 0, 0, 2, []), some (16, 1, 0, 0, 0, 0, []), some (47, 1, 0, 0, 0, 0, []), some (40, 3, 151, 3, 71, 6, []), none, none, some (30, 3, 0, 0, 903, 0, []), none, none, some (5, 1, 0, 0, 0, 0, []), some (42, 1, 0, 0, 0, 0, []), some (2, 1, 1, 0, 0, 0, []), some (2, 1, 0, 0, 0, 0, []), some (1, 1, 3, 0, 0, 0, []), some (5, 1, 0, 0, 0, 1, []), some (16, 1, 0, 0, 0, 0, []), some (47, 1, 0, 0, 0, 0, []), some (2, 1, 0, 0, 0, 0, []), some (1, 1, 3, 0, 0, 0, []), some (5, 1, 0, 0, 0, 2, []), some (16, 1, 0, 0, 0, 0, []), some (47, 1, 0, 0, 0, 0, []), some (40, 3, 92, 3, 72, 5, []), none, none, some (2, 1, 2, 0, 0, 0, []), some (2, 1, 0, 0, 0, 0, []), some (1, 1, 3, 0, 0, 0, []), some (5, 1, 0, 0, 0, 1, []), some (16, 1, 0, 0, 0, 0, []), some (47, 1, 0, 0, 0, 0, []), some (2, 1, 0, 0, 0, 0, []), some (1, 1, 3, 0, 0, 0, []), some (5, 1, 0, 0, 0, 2, []), some (16, 1, 0, 0, 0, 0, []), some (47, 1, 0, 0, 0, 0, []), some (40, 3, 153, 3, 75, 6, []), none, none, some (30, 3, 0, 0, 903, 0, []), none, none, some (5, 1, 0, 0, 0, 0, []), some (42, 1, 0, 0, 0, 0, []), some (2, 1, 1, 0, 0, 0, []), some (2, 1, 0, 0, 0, 0, []), some (1, 1, 3, 0, 0, 0, []), some (5, 1, 0, 0, 0, 1, []), some (16, 1, 0, 0, 0, 0, []), some (47, 1, 0, 0, 0, 0, []), some (40, 3, 93, 2, 76, 5, []), none, none, some (2, 1, 2, 0, 0, 0, []), some (2, 1, 0, 0, 0, 0, []), some (1, 1, 3, 0, 0, 0, []), some (5, 1, 0, 0, 0, 1, []), some (16, 1, 0, 0, 0, 0, []), some (47, 1, 0, 0, 0, 0, []), some (40, 3, 155, 2, 79, 6, []), none, none, some (30, 3, 0, 0, 903, 0, []), none, none, some (5, 1, 0, 0, 0, 0, []), some (42, 1, 0, 0, 0, 0, []), some (2, 1, 1, 0, 0, 0, []), some (2, 1, 0, 0, 0, 0, []), some (1, 1, 3, 0, 0, 0, []), some (5, 1, 0, 0, 0, 1, []), some (16, 1, 0, 0, 0, 0, []), some (47, 1, 0, 0, 0, 0, []), some (2, 1, 0, 0, 0, 0, []), some (1, 1, 3, 0, 0, 0, []), some (5, 1, 0, 0, 0, 2, []), some (16, 1, 0, 0, 0, 0, []), some (47, 1, 0, 0, 0, 0, []), some (40, 3, 94, 3, 80, 5, []), none, none, some (2, 1, 2, 0, 0, 0, []), some (2, 1, 0, 0, 0, 0, []), some (1, 1, 3, 0, 0, 0, []), some (5, 1, 0, 0, 0, 1, []), some (16, 1, 0, 0, 0, 0, []), some (47, 1, 0, 0, 0, 0, []), some (2, 1, 0, 0, 0, 0, []), some (1, 1, 3, 0, 0, 0, []), some (5, 1, 0, 0, 0, 2, []), some (16, 1, 0, 0, 0, 0, []), some (47, 1, 0, 0, 0, 0, []), some (40, 3, 157, 3, 83, 6, []), none, none, some (30, 3, 0, 0, 903, 0, []), none, none, some (5, 1, 0, 0, 0, 0, []), some (42, 1, 0, 0, 0, 0, []), some (2, 1, 1, 0, 0, 0, []), some (2, 1, 0, 0, 0, 0, []), some (1, 1, 3, 0, 0, 0, []), some (5, 1, 0, 0, 0, 1, []), some (16, 1, 0, 0, 0, 0, []), some (47, 1, 0, 0, 0, 0, []), some (2, 1, 0, 0, 0, 0, []), some (1, 1, 3, 0, 0, 0, []), some (5, 1, 0, 0, 0, 2, []), some (16, 1, 0, 0, 0, 0, []), some (47, 1, 0, 0, 0, 0, []), some (40, 3, 95, 3, 84, 5, []), none, none, some (2, 1, 2, 0, 0, 0, []), some (2, 1, 0, 0, 0, 0, []), some (1, 1, 3, 0, 0, 0, []), some (5, 1, 0, 0, 0, 1, []), some (16, 1, 0, 0, 0, 0, []), some (47, 1, 0, 0, 0, 0, []), some (2, 1, 0, 0, 0, 0, []), some (1, 1, 3, 0, 0, 0, []), some (5, 1, 0, 0, 0, 2, []), some (16, 1, 0, 0, 0, 0, []), some (47, 1, 0, 0, 0, 0, []), some (40, 3, 158, 3, 87, 6, []), none, none, some (30, 3, 0, 0, 903, 0, []), none, none, some (5, 1, 0, 0, 0, 0, []), some (42, 1, 0, 0, 0, 0, []), some (2, 1, 1, 0, 0, 0, []), some (2, 1, 0, 0, 0, 0, []), some (1, 1, 3, 0, 0, 0, []), some (5, 1, 0, 0, 0, 1, []), some (16, 1, 0, 0, 0, 0, []), some (47, 1, 0, 0, 0, 0, []), some (2, 1, 0, 0, 0, 0, []), some (1, 1, 3, 0, 0, 0, []), some (5, 1, 0, 0, 0, 2, []), some (16, 1, 0, 0, 0, 0, []), some (47, 1, 0, 0, 0, 0, []), some (40, 3, 96, 3, 88, 5, []), none, none, some (2, 1, 2, 0, 0, 0, []), some (2, 1, 0, 0, 0, 0, []), some (1, 1, 3, 0, 0, 0, []), some (5, 1, 0, 0, 0, 1, []), some (16, 1, 0, 0, 0, 0, []), some (47, 1, 0, 0, 0, 0, []), some (2, 1, 0, 0, 0, 0, []), some (1, 1, 3, 0, 0, 0, []), some (5, 1, 0, 0, 0, 2, []), some (16, 1, 0, 0, 0, 0, []), some (47, 1, 0, 0, 0, 0, []), some (40, 3, 159, 3, 91, 6, []), none, none, some (30, 3, 0, 0, 903, 0, []), none, none, some (5, 1, 0, 0, 0, 0, []), some (42, 1, 0, 0, 0, 0, []), some (2, 1, 1, 0, 0, 0, []), some (2, 1, 0, 0, 0, 0, []), some (1, 1, 3, 0, 0, 0, []), some (5, 1, 0, 0, 0, 1, []), some (16, 1, 0, 0, 0, 0, []), some (47, 1, 0, 0, 0, 0, []), some (2, 1, 0, 0, 0, 0, []), some (1, 1, 3, 0, 0, 0, []), some (5, 1, 0, 0, 0, 2, []), some (16, 1, 0, 0, 0, 0, []), some (47, 1, 0, 0, 0, 0, []), some (2, 1, 0, 0, 0, 0, []), some (1, 1, 3, 0, 0, 0, []), some (5, 1, 0, 0, 0, 3, []), some (16, 1, 0, 0, 0, 0, []), some (47, 1, 0, 0, 0, 0, []), some (40, 3, 97, 4, 92, 5, []), none, none, some (2, 1, 2, 0, 0, 0, []), some (2, 1, 0, 0, 0, 0, []), some (1, 1, 3, 0, 0, 0, []), some (5, 1, 0, 0, 0, 1, []), some (16, 1, 0, 0, 0, 0, []), some (47, 1, 0, 0, 0, 0, []), some (2, 1, 0, 0, 0, 0, []), some (1, 1, 3, 0, 0, 0, []), some (5, 1, 0, 0, 0, 2, []), some (16, 1, 0, 0, 0, 0, []), some (47, 1, 0, 0, 0, 0, []), some (2, 1, 0, 0, 0, 0, []), some (1, 1, 3, 0, 0, 0, []), some (5, 1, 0, 0, 0, 3, []), some (16, 1, 0, 0, 0, 0, []), some (47, 1, 0, 0, 0, 0, []), some (40, 3, 162, 4, 96, 6, []), none, none, some (30, 3, 0, 0, 903, 0, []), none, none, some (5, 1, 0, 0, 0, 0, []), some (42, 1, 0, 0, 0, 0, []), some (2, 1, 1, 0, 0, 0, []), some (40, 3, 98, 1, 97, 5, []), none, none, some (2, 1, 2, 0, 0, 0, []), some (40, 3, 163, 1, 101, 6, []), none, none, some (30, 3, 0, 0, 903, 0, []), none, none, some (5, 1, 0, 0, 0, 0, []), some (42, 1, 0, 0, 0, 0, []), some (2, 1, 1, 0, 0, 0, []), some (40, 3, 99, 1, 102, 5, []), none, none, some (2, 1, 2, 0, 0, 0, []), some (40, 3, 164, 1, 105, 6, []), none, none, some (30, 3, 0, 0, 903, 0, []), none, none, some (5, 1, 0, 0, 0, 0, []), some (42, 1, 0, 0, 0, 0, []), some (2, 1, 1, 0, 0, 0, []), some (2, 1, 0, 0, 0, 0, []), some (1, 1, 3, 0, 0, 0, []), some (5, 1, 0, 0, 0, 1, []), some (16, 1, 0, 0, 0, 0, []), some (47, 1, 0, 0, 0, 0, []), some (40, 3, 100, 2, 106, 5, []), none, none, some (2, 1, 2, 0, 0, 0, []), some (2, 1, 0, 0, 0, 0, []), some (1, 1, 3, 0, 0, 0, []), some (5, 1, 0, 0, 0, 1, []), some (16, 1, 0, 0, 0, 0, []), some (47, 1, 0, 0, 0, 0, []), some (40, 3, 165, 2, 109, 6, []), none, none, some (30, 3, 0, 0, 903, 0, []), none, none, some (5, 1, 0, 0, 0, 0, []), some (42, 1, 0, 0, 0, 0, []), some (2, 1, 1, 0, 0, 0, []), some (40, 3, 101, 1, 110, 5, []), none, none, some (2, 1, 2, 0, 0, 0, []), some (40, 3, 124, 1, 113, 6, []), none, none, some (30, 3, 0, 0, 903, 0, []), none, none, some (5, 1, 0, 0, 0, 0, []), some (42, 1, 0, 0, 0, 0, []), some (2, 1, 1, 0, 0, 0, []), some (2, 1, 0, 0, 0, 0, []), some (1, 1, 3, 0, 0, 0, []), some (5, 1, 0, 0, 0, 1, []), some (16, 1, 0, 0, 0, 0, []), some (47, 1, 0, 0, 0, 0, []), some (40, 3, 102, 2, 114, 5, []), none, none, some (2, 1, 2, 0, 0, 0, []), some (2, 1, 0, 0, 0, 0, []), some (1, 1, 3, 0, 0, 0, []), some (5, 1, 0, 0, 0, 1, []), some (16, 1, 0, 0, 0, 0, []), some (47, 1, 0, 0, 0, 0, []), some (40, 3, 166, 2, 117, 6, []), none, none, some (30, 3, 0, 0, 903, 0, []), none, none, some (5, 1, 0, 0, 0, 0, []), some (42, 1, 0, 0, 0, 0, []), some (27, 3, 3, 0, 0, 5, []), none, none, some (28, 3, 0, 0, 18, 0, []), none, none, some (5, 1, 0, 0, 0, 1, []), some (42, 1, 0, 0, 0, 0, [])] -- L_law
def pcodes : List (List (Option PI)) := [zc_0, zc_1, zc_2, zc_3, zc_4, zc_5, zc_6, zc_7, zc_8, zc_9, zc_10, zc_11, zc_12, zc_13, zc_14, zc_15, zc_16, zc_17, zc_18, zc_19, zc_20, zc_21, zc_22, zc_23, zc_24, zc_25, zc_26, zc_27, zc_28, zc_29, zc_30, zc_31, zc_32, zc_33, zc_34, zc_35, zc_36, zc_37, zc_38, zc_39, zc_40, zc_41, zc_42, zc_43, zc_44, zc_45, zc_46, zc_47, zc_48, zc_49, zc_50, zc_51, zc_52, zc_53, zc_54, zc_55, zc_56, zc_57, zc_58, zc_59, zc_60, zc_61, zc_62, zc_63, zc_64, zc_65, zc_66, zc_67, zc_68, zc_69, zc_70, zc_71, zc_72, zc_73, zc_74, zc_75, zc_76, zc_77, zc_78, zc_79, zc_80, zc_81, zc_82, zc_83, zc_84, zc_85, zc_86, zc_87, zc_88, zc_89, zc_90, zc_91, zc_92, zc_93, zc_94, zc_95, zc_96, zc_97, zc_98, zc_99, zc_100, zc_101, zc_102, zc_103, zc_104, zc_105, zc_106, zc_107, zc_108, zc_109, zc_110, zc_111, zc_112, zc_113, zc_114, zc_115, zc_116, zc_117, zc_118, zc_119, zc_120, zc_121, zc_122, zc_123, zc_124, zc_125, zc_126, zc_127, zc_128, zc_129, zc_130, zc_131, zc_132, zc_133, zc_134, zc_135, zc_136, zc_137, zc_138, zc_139, zc_140, zc_141, zc_142, zc_143, zc_144, zc_145, zc_146, zc_147, zc_148, zc_149, zc_150, zc_151, zc_152, zc_153, zc_154, zc_155, zc_156, zc_157, zc_158, zc_159, zc_160, zc_161, zc_162, zc_163, zc_164, zc_165, zc_166, zc_167, zc_168, zc_169, zc_170, zc_171, zc_172]
def pnl : List Nat := [1, 1, 1, 6, 1, 1, 3, 1, 1, 1, 1, 1, 1, 1, 2, 1, 4, 2, 2, 1, 1, 2, 2, 2, 3, 2, 7, 3, 3, 2, 2, 2, 2, 2, 3, 3, 3, 4, 2, 6, 5, 3, 3, 4, 6, 7, 3, 4, 4, 3, 5, 7, 2, 2, 8, 2, 2, 1, 2, 2, 3, 2, 3, 1, 2, 3, 3, 3, 5, 3, 3, 3, 3, 4, 6, 3, 4, 1, 3, 5, 2, 9, 3, 2, 4, 3, 3, 5, 5, 3, 5, 5, 4, 5, 4, 4, 4, 8, 1, 3, 7, 1, 2, 1, 1, 1, 2, 7, 5, 5, 3, 1, 2, 4, 8, 3, 1, 2, 2, 1, 3, 3, 3, 4, 3, 4, 3, 7, 5, 2, 3, 8, 4, 3, 2, 4, 3, 3, 3, 4, 6, 5, 6, 4, 4, 3, 5, 6, 4, 3, 4, 3, 5, 3, 5, 4, 7, 3, 3, 7, 3, 7, 13, 1, 3, 6, 4, 1, 3, 2, 2, 4, 4]
def pst (m pc : Nat) (ls st : List PV) (h : PH) : PR := match pcodes[m]? with
  | none => pko
  | some L => match L[pc]? with
    | some (some (op, len, a, b, d, z, ts)) => match ptab[op]? with
      | some f => f len a b d z ts pc ls st h
      | none => pko
    | _ => pko
def pfr (m : Nat) (as : List PV) : List PV := as ++ List.replicate (pnl.getD m 0 - as.length) zU
def pex : Nat → Nat → PT → Option (Option PV × PH)
  | 0, _, _ => none
  | n + 1, m, t => match pst m t.1 t.2.1 t.2.2.1 t.2.2.2 with
    | .inl l => l.foldr (fun q acc => cond q.1 (pex n m q.2) acc) none
    | .inr (.inl (c, r)) => cond c (some (r, t.2.2.2)) none
    | .inr (.inr (m', as, rest)) => (pex n m' (0, pfr m' as, [], t.2.2.2)).bind fun r => pex n m (t.1 + 3, t.2.1, r.1.toList ++ rest, r.2)
end
section
/-! the tables of methods, fields, calls; that they are the claim's is decided -/
def zown : List String := [RX0, RX1, RX2, RX3, RX4, RX5, RX6, RJ6, RJ9, RJ7, RL]
def ztO : List Nat := [0, 0, 0, 0, 0, 0, 0, 0, 0, 0, 0, 0, 1, 1, 1, 1, 1, 1, 1, 2, 2, 2, 2, 2, 2, 2, 2, 2, 2, 2, 2, 2, 2, 2, 2, 2, 2, 2, 3, 3, 3, 3, 3, 3, 3, 3, 3, 3, 3, 3, 3, 3, 3, 3, 3, 4, 4, 4, 4, 4, 4, 4, 4, 4, 4, 4, 4, 4, 4, 4, 4, 4, 4, 4, 4, 4, 4, 5, 5, 5, 5, 5, 5, 5, 5, 5, 5, 5, 5, 5, 5, 5, 5, 5, 5, 5, 5, 5, 5, 5, 5, 5, 5, 5, 5, 5, 5, 5, 5, 5, 5, 5, 5, 5, 5, 6, 6, 6, 6, 6, 6, 6, 6, 6, 6, 6, 6, 6, 6, 6, 6, 6, 6, 6, 6, 6, 6, 6, 6, 6, 6, 6, 6, 6, 6, 6, 6, 6, 6, 6, 6, 6, 6, 6, 6, 6, 6, 6, 6, 6, 6, 6, 6, 6, 6, 6, 6, 7, 8, 8, 8, 9, 10]
def ztY : List MethodName := [yX0_init, yX0_forgetAll, yX0_length, yX0_push, yX0_pop, yX0_latest, yX0_latestOf, yX0_firstTable, yX0_secondTable, yX0_liveTable, yX0_meltedRule, yX0_meltedMask, yX1_init, yX1_forgetAll, yX1_setLength, yX1_length, yX1_set, yX1_ruleOf, yX1_placeOf, yX2_init, yX2_forgetAll, yX2_forget, yX2_isNumber, yX2_isInUse, yX2_unused, yX2_leastUnused, yX2_set, yX2_setMask, yX2_setAct, yX2_kindOf, yX2_valueOf, yX2_maskOf, yX2_rankOf, yX2_actOf, yX2_doesFit, yX2_doOverlap, yX2_isHigher, yX2_bitApart, yX3_init, yX3_find, yX3_gather, yX3_relate, yX3_code, yX3_arrange, yX3_reach, yX3_widen, yX3_placesTaken, yX3_startOfRoom, yX3_endOfRoom, yX3_isIn, yX3_leastPlaceFor, yX3_trace, yX3_cameFromOf, yX3_codeOf, yX3_tellMove, yX4_init, yX4_empty, yX4_size, yX4_isPlace, yX4_ruleAt, yX4_placeOf, yX4_hasRule, yX4_standing, yX4_isFull, yX4_makeFree, yX4_lay, yX4_carryOut, yX4_actFor, yX4_dueActFor, yX4_noteActs, yX4_hasActs, yX4_isSafe, yX4_firstKeyShown, yX4_hasHigherFor, yX4_highestBelow, yX4_packed, yX4_unpack, yX5_init, yX5_places, yX5_rule, yX5_last, yX5_span, yX5_told, yX5_drop, yX5_act, yX5_overlap, yX5_higher, yX5_put, yX5_writes, yX5_write, yX5_strike, yX5_at, yX5_judged, yX5_right, yX5_covered, yX5_shown, yX5_spare, yX5_melt, yX5_over, yX5_differ, yX5_build, yX5_undo, yX5_count, yX5_isKey, yX5_isRank, yX5_isAct, yX5_tableNumbered, yX5_ruleMade, yX5_keysOfRow, yX5_rowsOfSpan, yX5_refusedPut, yX5_remember, yX5_isMeltable, yX5_standsOnlyIn, yX5_meltHolds, yX6_in, yX6_init, yX6_clearTables, yX6_isRule, yX6_isTable, yX6_fits, yX6_doOverlap, yX6_isHigher, yX6_keep, yX6_undo, yX6_places, yX6_freeRules, yX6_add, yX6_rule, yX6_last, yX6_sizeOf, yX6_span, yX6_placeOf, yX6_told, yX6_drop, yX6_act, yX6_overlap, yX6_higher, yX6_codeOf, yX6_setRow, yX6_isSafeAt, yX6_meet, yX6_findStates, yX6_hasFree, yX6_stateFor, yX6_refusal, yX6_writes, yX6_layIn, yX6_put, yX6_write, yX6_strike, yX6_at, yX6_judge, yX6_judged, yX6_due, yX6_right, yX6_firstShown, yX6_covered, yX6_shown, yX6_spare, yX6_ones, yX6_isSafe, yX6_melt, yX6_over, yX6_differ, yX6_build, yX6_count, yJ6_bitCount_0f7a4, yJ9_floorMod_7cf53, yJ9_max_7cf53, yJ9_min_7cf53, yJ7_fill_53178, yL_law]
def ztC : List ByteArray := [cX0_init, cX0_forgetAll, cX0_length, cX0_push, cX0_pop, cX0_latest, cX0_latestOf, cX0_firstTable, cX0_secondTable, cX0_liveTable, cX0_meltedRule, cX0_meltedMask, cX1_init, cX1_forgetAll, cX1_setLength, cX1_length, cX1_set, cX1_ruleOf, cX1_placeOf, cX2_init, cX2_forgetAll, cX2_forget, cX2_isNumber, cX2_isInUse, cX2_unused, cX2_leastUnused, cX2_set, cX2_setMask, cX2_setAct, cX2_kindOf, cX2_valueOf, cX2_maskOf, cX2_rankOf, cX2_actOf, cX2_doesFit, cX2_doOverlap, cX2_isHigher, cX2_bitApart, cX3_init, cX3_find, cX3_gather, cX3_relate, cX3_code, cX3_arrange, cX3_reach, cX3_widen, cX3_placesTaken, cX3_startOfRoom, cX3_endOfRoom, cX3_isIn, cX3_leastPlaceFor, cX3_trace, cX3_cameFromOf, cX3_codeOf, cX3_tellMove, cX4_init, cX4_empty, cX4_size, cX4_isPlace, cX4_ruleAt, cX4_placeOf, cX4_hasRule, cX4_standing, cX4_isFull, cX4_makeFree, cX4_lay, cX4_carryOut, cX4_actFor, cX4_dueActFor, cX4_noteActs, cX4_hasActs, cX4_isSafe, cX4_firstKeyShown, cX4_hasHigherFor, cX4_highestBelow, cX4_packed, cX4_unpack, cX5_init, cX5_places, cX5_rule, cX5_last, cX5_span, cX5_told, cX5_drop, cX5_act, cX5_overlap, cX5_higher, cX5_put, cX5_writes, cX5_write, cX5_strike, cX5_at, cX5_judged, cX5_right, cX5_covered, cX5_shown, cX5_spare, cX5_melt, cX5_over, cX5_differ, cX5_build, cX5_undo, cX5_count, cX5_isKey, cX5_isRank, cX5_isAct, cX5_tableNumbered, cX5_ruleMade, cX5_keysOfRow, cX5_rowsOfSpan, cX5_refusedPut, cX5_remember, cX5_isMeltable, cX5_standsOnlyIn, cX5_meltHolds, cX6_in, cX6_init, cX6_clearTables, cX6_isRule, cX6_isTable, cX6_fits, cX6_doOverlap, cX6_isHigher, cX6_keep, cX6_undo, cX6_places, cX6_freeRules, cX6_add, cX6_rule, cX6_last, cX6_sizeOf, cX6_span, cX6_placeOf, cX6_told, cX6_drop, cX6_act, cX6_overlap, cX6_higher, cX6_codeOf, cX6_setRow, cX6_isSafeAt, cX6_meet, cX6_findStates, cX6_hasFree, cX6_stateFor, cX6_refusal, cX6_writes, cX6_layIn, cX6_put, cX6_write, cX6_strike, cX6_at, cX6_judge, cX6_judged, cX6_due, cX6_right, cX6_firstShown, cX6_covered, cX6_shown, cX6_spare, cX6_ones, cX6_isSafe, cX6_melt, cX6_over, cX6_differ, cX6_build, cX6_count, cJ6_bitCount_0f7a4, cJ9_floorMod_7cf53, cJ9_max_7cf53, cJ9_min_7cf53, cJ7_fill_53178, cL_law]
def ztR : List (Option FieldType) := [none, none, (some .int), none, none, (some .int), (some .int), (some .int), (some .int), (some .int), (some .int), (some .int), none, none, none, (some .int), none, (some .int), (some .int), none, none, none, (some .boolean), (some .boolean), (some .int), (some .int), none, none, none, (some .int), (some .int), (some .int), (some .int), (some .int), (some .boolean), (some .boolean), (some .boolean), (some .int), none, none, none, none, (some .int), none, none, none, (some .int), (some .int), (some .int), (some .boolean), (some .int), none, (some .int), (some .int), none, none, none, (some .int), (some .boolean), (some .int), (some .int), (some .boolean), (some .int), (some .boolean), none, none, none, (some .int), (some .int), none, (some .boolean), (some .boolean), (some .int), (some .boolean), (some .int), (some .int), none, none, (some .int), (some .int), (some .int), (some .int), (some .int), (some .int), (some .int), (some .int), (some .int), (some .int), (some .int), (some .int), (some .int), (some .int), (some .int), (some .int), (some .int), (some .int), (some .int), (some .int), (some .int), (some .int), (some .int), (some .int), (some .int), (some .boolean), (some .boolean), (some .boolean), (some (.object "MatchRows$Table")), (some .int), (some .int), (some .int), (some .int), none, (some .boolean), (some .boolean), (some .boolean), (some .boolean), none, none, (some .boolean), (some .boolean), (some .boolean), (some .boolean), (some .boolean), none, (some .int), (some .int), (some .int), (some .int), (some .int), (some .int), (some .int), (some .int), (some .int), (some .int), (some .int), (some .int), (some .int), (some .int), (some .int), none, (some .boolean), none, none, (some .boolean), (some .int), (some .int), (some .int), (some .int), (some .int), (some .int), (some .int), (some .int), (some .int), (some .int), (some .int), (some .int), (some .int), (some .int), (some .int), (some .int), (some .int), (some .boolean), (some .int), (some .int), (some .int), (some .int), (some .int), (some .int), (some .int), (some .int), (some .int), none, (some .boolean)]
def ztK : List Nat := [1, 0, 0, 0, 0, 0, 0, 0, 0, 0, 0, 0, 1, 0, 0, 0, 0, 0, 0, 1, 0, 0, 0, 0, 0, 0, 0, 0, 0, 0, 0, 0, 0, 0, 0, 0, 0, 0, 1, 0, 0, 0, 0, 0, 0, 0, 0, 0, 0, 2, 0, 0, 0, 0, 0, 1, 0, 0, 0, 0, 0, 0, 0, 0, 0, 0, 0, 0, 0, 0, 0, 0, 0, 0, 0, 0, 0, 1, 0, 0, 0, 0, 0, 0, 0, 0, 0, 0, 0, 0, 0, 0, 0, 0, 0, 0, 0, 0, 0, 0, 0, 0, 0, 2, 2, 2, 0, 0, 2, 2, 0, 0, 0, 0, 0, 2, 1, 0, 0, 2, 0, 0, 0, 0, 0, 0, 0, 0, 0, 0, 2, 0, 0, 0, 0, 0, 0, 0, 0, 0, 0, 0, 0, 0, 0, 0, 0, 0, 0, 0, 0, 0, 0, 0, 0, 0, 0, 0, 0, 0, 2, 0, 0, 0, 0, 0, 0, 2, 2, 2, 2, 2, 3]
def ztP : List Nat := [1, 1, 1, 6, 1, 1, 2, 1, 1, 1, 1, 1, 1, 1, 2, 1, 4, 2, 2, 1, 1, 2, 2, 2, 1, 1, 7, 3, 3, 2, 2, 2, 2, 2, 3, 3, 3, 3, 2, 4, 3, 2, 1, 2, 3, 2, 1, 2, 2, 3, 2, 3, 2, 2, 5, 2, 2, 1, 2, 2, 2, 2, 1, 1, 2, 3, 2, 2, 2, 2, 2, 1, 2, 3, 2, 1, 2, 1, 2, 5, 2, 5, 3, 2, 3, 3, 3, 3, 3, 3, 3, 3, 3, 2, 3, 3, 3, 4, 1, 1, 2, 1, 2, 1, 1, 1, 2, 6, 2, 2, 3, 1, 2, 3, 5, 3, 1, 1, 2, 1, 3, 3, 3, 2, 1, 2, 1, 6, 5, 2, 2, 5, 3, 3, 2, 3, 3, 3, 1, 2, 3, 5, 2, 2, 2, 3, 3, 3, 3, 3, 3, 3, 3, 3, 3, 2, 3, 3, 3, 3, 1, 2, 4, 1, 1, 2, 2, 1, 2, 2, 2, 2, 1]
def ztF : List Nat := [1, 0, 0, 1, 2, 1, 2, 3, 3, 3, 3, 3, 1, 0, 1, 0, 0, 0, 0, 1, 1, 1, 0, 0, 0, 0, 1, 1, 1, 1, 1, 1, 1, 1, 1, 1, 1, 2, 1, 4, 3, 2, 1, 0, 0, 2, 0, 1, 1, 0, 2, 2, 0, 0, 1, 1, 1, 0, 0, 1, 0, 1, 0, 1, 1, 2, 3, 2, 2, 3, 3, 2, 3, 2, 2, 0, 0, 2, 2, 3, 3, 3, 2, 2, 2, 2, 2, 5, 5, 1, 3, 2, 3, 3, 4, 4, 5, 5, 3, 3, 5, 4, 1, 0, 0, 0, 0, 2, 0, 1, 2, 2, 2, 2, 4, 0, 1, 0, 1, 1, 0, 0, 0, 0, 0, 1, 0, 0, 1, 1, 0, 1, 0, 2, 2, 2, 2, 2, 0, 0, 1, 0, 2, 0, 2, 2, 3, 3, 4, 1, 2, 2, 1, 2, 1, 2, 1, 2, 2, 3, 0, 1, 2, 1, 2, 4, 1, 0, 0, 0, 0, 0, 6]
def ztL : List Nat := [20, 0, 0, 21, 42, 22, 42, 64, 64, 64, 64, 64, 20, 0, 21, 0, 0, 0, 0, 23, 23, 21, 0, 0, 0, 0, 21, 21, 21, 21, 21, 21, 21, 21, 21, 21, 21, 42, 20, 89, 65, 43, 21, 0, 0, 45, 0, 22, 22, 0, 45, 50, 0, 0, 23, 23, 23, 0, 0, 21, 0, 22, 0, 22, 21, 42, 64, 43, 43, 65, 65, 43, 66, 43, 43, 0, 0, 44, 44, 73, 73, 73, 42, 43, 43, 43, 43, 114, 114, 21, 66, 42, 65, 67, 88, 88, 114, 114, 66, 65, 114, 84, 22, 0, 0, 0, 0, 47, 0, 24, 43, 46, 42, 43, 87, 0, 21, 0, 22, 22, 0, 0, 0, 0, 0, 22, 0, 0, 26, 26, 0, 26, 0, 43, 43, 43, 43, 43, 0, 0, 22, 0, 47, 0, 47, 43, 72, 72, 97, 22, 43, 42, 22, 46, 23, 47, 22, 48, 48, 72, 0, 22, 48, 23, 46, 97, 22, 0, 0, 0, 0, 0, 141]
def flk : List (Nat × Nat × Nat × Nat) := [(0, 9, 0, 0), (0, 15, 0, 1), (0, 18, 0, 2), (0, 21, 0, 3), (0, 24, 0, 4), (0, 27, 0, 5), (0, 31, 0, 6), (1, 9, 1, 0), (1, 15, 1, 1), (1, 18, 1, 2), (2, 9, 2, 0), (2, 15, 2, 1), (2, 18, 2, 2), (2, 21, 2, 3), (2, 24, 2, 4), (3, 9, 3, 1), (3, 15, 3, 2), (3, 18, 3, 3), (3, 21, 3, 4), (3, 24, 3, 5), (3, 27, 3, 6), (3, 30, 3, 7), (3, 33, 3, 8), (3, 37, 3, 9), (3, 40, 3, 10), (3, 43, 3, 0), (4, 9, 4, 1), (4, 15, 4, 2), (4, 19, 4, 0), (5, 12, 5, 0), (5, 21, 5, 1), (5, 25, 5, 2), (5, 31, 5, 3), (5, 38, 5, 4), (5, 45, 5, 5), (5, 49, 5, 6), (5, 52, 5, 7), (5, 56, 5, 8), (6, 7, 6, 0), (6, 13, 6, 1), (6, 17, 6, 2), (6, 20, 6, 3), (6, 23, 6, 4), (6, 26, 6, 5), (6, 29, 6, 6), (6, 33, 6, 8), (6, 36, 6, 10), (6, 40, 6, 11), (6, 43, 6, 12), (6, 46, 6, 13), (6, 49, 6, 14), (6, 52, 6, 15), (6, 55, 6, 17), (6, 58, 6, 19), (6, 61, 6, 22), (6, 64, 6, 23), (6, 67, 6, 24), (6, 77, 6, 9), (6, 80, 6, 7), (6, 83, 6, 21), (6, 112, 6, 16), (6, 115, 6, 18), (6, 132, 6, 20)]
def mlk : List (Nat × Nat × Nat) := [(10, 9, 77), (10, 12, 116), (10, 13, 78), (10, 17, 125), (10, 18, 79), (10, 22, 128), (10, 23, 80), (10, 26, 129), (10, 27, 81), (10, 30, 131), (10, 31, 82), (10, 35, 133), (10, 36, 83), (10, 39, 134), (10, 40, 84), (10, 43, 135), (10, 44, 85), (10, 47, 136), (10, 48, 86), (10, 51, 137), (10, 52, 87), (10, 55, 148), (10, 56, 88), (10, 59, 146), (10, 60, 89), (10, 63, 149), (10, 64, 90), (10, 67, 150), (10, 68, 91), (10, 71, 151), (10, 72, 92), (10, 75, 153), (10, 76, 93), (10, 79, 155), (10, 80, 94), (10, 83, 157), (10, 84, 95), (10, 87, 158), (10, 88, 96), (10, 91, 159), (10, 92, 97), (10, 96, 162), (10, 97, 98), (10, 101, 163), (10, 102, 99), (10, 105, 164), (10, 106, 100), (10, 109, 165), (10, 110, 101), (10, 113, 124), (10, 114, 102), (10, 117, 166), (0, 34, 170), (0, 40, 5), (0, 44, 169), (0, 47, 168), (0, 50, 6), (1, 22, 170), (1, 28, 169), (2, 27, 171), (2, 33, 22), (2, 37, 31), (2, 41, 33), (2, 44, 30), (2, 47, 167), (3, 47, 13), (3, 52, 40), (3, 56, 171), (3, 62, 42), (3, 66, 44), (3, 70, 43), (3, 74, 50), (3, 78, 51), (3, 82, 15), (3, 85, 16), (3, 89, 45), (3, 92, 57), (3, 96, 170), (3, 102, 60), (3, 105, 41), (3, 108, 35), (3, 114, 36), (3, 117, 46), (3, 120, 48), (3, 123, 47), (3, 126, 49), (3, 130, 169), (3, 133, 52), (3, 136, 14), (3, 139, 53), (3, 142, 54), (4, 23, 171), (4, 29, 58), (4, 33, 60), (4, 37, 62), (4, 41, 64), (4, 45, 15), (4, 50, 17), (4, 53, 18), (4, 54, 65), (4, 58, 34), (4, 64, 33), (4, 67, 36), (4, 70, 67), (4, 73, 35), (4, 76, 73), (5, 11, 19), (5, 18, 55), (5, 30, 38), (5, 60, 57), (5, 64, 20), (5, 67, 56), (5, 71, 1), (5, 72, 13), (5, 73, 103), (5, 77, 104), (5, 80, 105), (5, 83, 107), (5, 87, 109), (5, 91, 24), (5, 94, 108), (5, 97, 23), (5, 100, 29), (5, 104, 30), (5, 107, 31), (5, 110, 32), (5, 113, 33), (5, 116, 60), (5, 119, 61), (5, 122, 21), (5, 125, 28), (5, 129, 35), (5, 133, 36), (5, 136, 106), (5, 140, 110), (5, 144, 39), (5, 148, 111), (5, 151, 66), (5, 155, 15), (5, 158, 17), (5, 161, 18), (5, 162, 64), (5, 165, 59), (5, 168, 67), (5, 171, 68), (5, 174, 72), (5, 177, 63), (5, 181, 26), (5, 185, 112), (5, 188, 37), (5, 191, 113), (5, 195, 114), (5, 199, 75), (5, 202, 3), (5, 206, 27), (5, 209, 62), (5, 212, 74), (5, 215, 2), (5, 216, 7), (5, 219, 76), (5, 222, 8), (5, 225, 9), (5, 228, 10), (5, 231, 11), (5, 234, 4), (5, 237, 25), (5, 240, 69), (5, 244, 71), (5, 247, 70), (5, 251, 65), (6, 70, 117), (6, 73, 115), (6, 86, 126), (6, 90, 127), (6, 94, 130), (6, 98, 118), (6, 102, 132), (6, 105, 121), (6, 109, 122), (6, 118, 138), (6, 121, 141), (6, 125, 139), (6, 129, 140), (6, 135, 119), (6, 138, 143), (6, 141, 145), (6, 144, 142), (6, 147, 144), (6, 151, 146), (6, 154, 123), (6, 157, 147), (6, 160, 120), (6, 163, 152), (6, 166, 154), (6, 169, 156), (6, 172, 160), (6, 175, 161)]
def clk : List (Nat × Nat × Nat) := [(10, 7, 5), (10, 10, 6), (5, 9, 2), (5, 16, 4), (5, 28, 3), (5, 35, 0), (5, 42, 1)]
def klk : List (Nat × Nat × Int) := [(7, 265, 1431655765), (7, 266, 858993459), (7, 267, 252645135), (6, 39, 117649)]
def olk : List (Nat × Nat) := [(0, 3), (1, 3), (2, 3), (3, 3), (4, 3), (5, 3), (6, 1)]
def frefs : List (List Bool) := [[true, true, true, true, true, false, false], [true, true, false], [true, true, true, true, true], [true, true, true, true, true, true, true, true, false, false, false], [true, true, false], [true, true, true, true, true, true, true, true, false], [true, true, true, true, true, true, false, false, true, false, true, true, true, true, true, true, false, true, false, true, false, false, true, true, true]]
def flkP : List Nat := [156, 157, 158, 159, 160, 161, 162, 184, 185, 186, 76, 77, 78, 79, 80, 117, 118, 119, 120, 121, 122, 123, 124, 125, 126, 116, 101, 102, 100, 194, 195, 196, 197, 198, 199, 200, 201, 202, 703, 704, 705, 706, 707, 708, 709, 711, 713, 714, 715, 716, 717, 718, 720, 722, 725, 726, 727, 712, 710, 724, 719, 721, 723]
def mlkP : List Nat := [61, 694, 222, 784, 246, 791, 275, 803, 279, 807, 293, 814, 325, 826, 338, 830, 346, 834, 354, 842, 362, 889, 510, 850, 514, 902, 520, 906, 525, 910, 533, 914, 546, 926, 555, 934, 567, 942, 571, 946, 575, 950, 623, 961, 627, 965, 631, 969, 640, 780, 688, 973, 483, 656, 687, 660, 652, 449, 450, 73, 271, 587, 588, 589, 590, 386, 387, 402, 403, 407, 411, 415, 437, 463, 459, 467, 391, 392, 395, 396, 400, 401, 419, 423, 430, 427, 434, 441, 445, 451, 455, 99, 501, 333, 378, 505, 488, 489, 493, 497, 541, 545, 554, 608, 617, 563, 69, 95, 112, 226, 230, 234, 238, 242, 250, 253, 256, 259, 283, 289, 286, 297, 301, 305, 309, 313, 317, 321, 329, 334, 342, 350, 358, 366, 370, 382, 471, 484, 509, 518, 519, 524, 529, 537, 550, 559, 374, 267, 579, 583, 596, 600, 475, 479, 609, 635, 636, 644, 648, 663, 667, 671, 675, 679, 683, 263, 604, 613, 618, 622, 699, 788, 795, 799, 811, 818, 822, 838, 846, 869, 873, 877, 881, 858, 861, 854, 865, 885, 893, 894, 898, 922, 918, 930, 938, 954, 957]
def clkP : List (Nat × Nat × Nat) := [(59, 60, 49), (692, 693, 56), (67, 68, 50), (93, 94, 52), (110, 111, 53), (150, 151, 54), (178, 179, 55)]
def klkP : List Nat := [593, 594, 595, 698]
def olkP : List Nat := [155, 183, 72, 115, 98, 64, 697]
def zmPP : List (Nat × Nat × Nat) := [(54, 153, 0), (54, 239, 240), (54, 645, 646), (54, 480, 481), (54, 684, 685), (54, 658, 25), (54, 654, 24), (54, 649, 650), (54, 668, 669), (54, 672, 673), (54, 676, 677), (54, 680, 681), (55, 181, 0), (55, 243, 244), (55, 446, 447), (55, 464, 465), (55, 460, 461), (55, 490, 491), (55, 494, 495), (50, 70, 0), (50, 231, 232), (50, 335, 336), (50, 273, 1), (50, 298, 299), (50, 290, 291), (50, 264, 265), (50, 268, 269), (50, 610, 611), (50, 343, 344), (50, 302, 303), (50, 306, 307), (50, 310, 311), (50, 314, 315), (50, 318, 319), (50, 542, 543), (50, 351, 352), (50, 359, 360), (50, 584, 585), (53, 113, 0), (53, 383, 384), (53, 389, 4), (53, 398, 5), (53, 405, 6), (53, 413, 8), (53, 409, 7), (53, 469, 17), (53, 421, 10), (53, 432, 12), (53, 425, 11), (53, 428, 0), (53, 417, 9), (53, 439, 13), (53, 443, 14), (53, 453, 15), (53, 457, 16), (52, 96, 0), (52, 235, 236), (52, 227, 228), (52, 503, 19), (52, 530, 531), (52, 322, 323), (52, 330, 331), (52, 379, 380), (52, 375, 376), (52, 506, 507), (52, 498, 499), (52, 485, 486), (52, 538, 539), (52, 551, 552), (52, 605, 606), (52, 619, 620), (52, 614, 615), (52, 560, 561), (52, 565, 20), (52, 637, 638), (52, 476, 477), (52, 664, 665), (49, 62, 0), (49, 223, 224), (49, 247, 248), (49, 276, 277), (49, 280, 281), (49, 294, 295), (49, 326, 327), (49, 339, 340), (49, 347, 348), (49, 355, 356), (49, 363, 364), (49, 511, 512), (49, 515, 516), (49, 521, 522), (49, 526, 527), (49, 534, 535), (49, 547, 548), (49, 556, 557), (49, 568, 569), (49, 572, 573), (49, 576, 577), (49, 624, 625), (49, 628, 629), (49, 632, 633), (49, 641, 642), (49, 689, 690), (49, 251, 0), (49, 254, 0), (49, 257, 0), (49, 368, 2), (49, 261, 0), (49, 287, 0), (49, 284, 0), (49, 372, 3), (49, 473, 18), (49, 581, 21), (49, 598, 22), (49, 602, 23), (56, 789, 0), (56, 695, 0), (56, 701, 26), (56, 820, 29), (56, 859, 0), (56, 924, 44), (56, 840, 31), (56, 848, 32), (56, 896, 41), (56, 781, 782), (56, 785, 786), (56, 797, 27), (56, 801, 28), (56, 792, 793), (56, 804, 805), (56, 812, 0), (56, 808, 809), (56, 824, 30), (56, 815, 816), (56, 827, 828), (56, 831, 832), (56, 835, 836), (56, 843, 844), (56, 871, 36), (56, 879, 38), (56, 883, 39), (56, 875, 37), (56, 867, 35), (56, 863, 34), (56, 887, 40), (56, 856, 33), (56, 851, 852), (56, 900, 42), (56, 890, 891), (56, 903, 904), (56, 907, 908), (56, 911, 912), (56, 920, 43), (56, 915, 916), (56, 932, 45), (56, 927, 928), (56, 940, 46), (56, 935, 936), (56, 943, 944), (56, 947, 948), (56, 955, 0), (56, 959, 47), (56, 951, 952), (56, 962, 963), (56, 966, 967), (56, 970, 971), (56, 974, 975), (58, 591, 0), (57, 661, 0), (57, 435, 0), (57, 393, 0), (51, 74, 0), (0, 0, 0)]
def WS : List Jvm.Cond := lw_tbl.filter goodWord
def zIn (w : Jvm.Cond) : Bool := decide (w ∈ lw_tbl) && goodWord w
theorem zIn_mem {w : Jvm.Cond} (h : zIn w = true) : w ∈ WS := by
  simp only [zIn, Bool.and_eq_true, decide_eq_true_eq] at h
  exact List.mem_filter.mpr h
def zAt (i : Nat) (w : Jvm.Cond) : Bool := decide (lw_tbl[i]? = some w) && goodWord w
theorem zAt_mem {i : Nat} {w : Jvm.Cond} (h : zAt i w = true) : w ∈ WS := by
  simp only [zAt, Bool.and_eq_true, decide_eq_true_eq] at h
  exact List.mem_filter.mpr ⟨List.mem_of_getElem? h.1, h.2⟩
theorem zip_in {α β : Type} {a : List α} {b : List β} (h : a.length = b.length) {x : α} (hx : x ∈ a) : ∃ y, (x, y) ∈ a.zip b := by
  obtain ⟨i, hi, rfl⟩ := List.mem_iff_getElem.mp hx
  exact ⟨b[i]'(by omega), List.mem_iff_getElem.mpr ⟨i, by simp; omega, by simp⟩⟩
def zwn (i : Nat) : String := zown.getD i ""
def zmO (m : Nat) : Nat := ztO.getD m 99
def zmY (m : Nat) : MethodName := ztY.getD m yL_law
def zmC (m : Nat) : ByteArray := ztC.getD m cL_law
def zmR (m : Nat) : Option FieldType := ztR.getD m none
def zmK (m : Nat) : Nat := ztK.getD m 9
def zmP (m : Nat) : Nat := ztP.getD m 0
def zmF (m : Nat) : Nat := ztF.getD m 0
def zmL (m : Nat) : Nat := ztL.getD m 0
def zmN (m : Nat) : Nat := pnl.getD m 0
def zcn (a : Nat) : String := match vwCl[a]? with
  | some q => q.1
  | none => ""
def zfr (a b : Nat) : Bool := (frefs.getD a []).getD b false
def zcond (a : Nat) : Jvm.ClassFile.Cond := match a with
  | 0 => .eq
  | 1 => .ne
  | 2 => .lt
  | 3 => .ge
  | 4 => .gt
  | _ => .le
abbrev PU : Type := Nat → Nat → Nat → Nat → Int → List Nat → Instr
def zn_0 : PU := fun _ _ _ _ _ _ => .nop
def zn_1 : PU := fun len a _ _ _ _ => if len = 1 then .iload_n (Fin.ofNat 4 a) else .iload a
def zn_2 : PU := fun len a _ _ _ _ => if len = 1 then .aload_n (Fin.ofNat 4 a) else .aload a
def zn_3 : PU := fun len a _ _ _ _ => if len = 1 then .istore_n (Fin.ofNat 4 a) else .istore a
def zn_4 : PU := fun len a _ _ _ _ => if len = 1 then .astore_n (Fin.ofNat 4 a) else .astore a
def zn_5 : PU := fun len _ d _ z _ => if d = 0 then (if len = 1 then .iconst z else if len = 2 then .bipush z else .sipush z) else (if len = 2 then .ldc d else .ldc_w d)
def zn_6 : PU := fun _ _ _ _ _ _ => .aconst_null
def zn_7 : PU := fun _ _ d _ _ _ => .getfield d
def zn_8 : PU := fun _ _ d _ _ _ => .getfield d
def zn_9 : PU := fun _ _ d _ _ _ => .putfield d
def zn_10 : PU := fun _ _ d _ _ _ => .putfield d
def zn_11 : PU := fun _ _ _ _ _ _ => .iaload
def zn_12 : PU := fun _ _ _ _ _ _ => .iastore
def zn_13 : PU := fun _ _ _ _ _ _ => .baload
def zn_14 : PU := fun _ _ _ _ _ _ => .bastore
def zn_15 : PU := fun _ _ _ _ _ _ => .arraylength
def zn_16 : PU := fun _ _ _ _ _ _ => .iadd
def zn_17 : PU := fun _ _ _ _ _ _ => .isub
def zn_18 : PU := fun _ _ _ _ _ _ => .imul
def zn_19 : PU := fun _ _ _ _ _ _ => .idiv
def zn_20 : PU := fun _ _ _ _ _ _ => .irem
def zn_21 : PU := fun _ _ _ _ _ _ => .iand
def zn_22 : PU := fun _ _ _ _ _ _ => .ior
def zn_23 : PU := fun _ _ _ _ _ _ => .ixor
def zn_24 : PU := fun _ _ _ _ _ _ => .ishl
def zn_25 : PU := fun _ _ _ _ _ _ => .ishr
def zn_26 : PU := fun _ _ _ _ _ _ => .iushr
def zn_27 : PU := fun _ a _ _ z _ => .iinc a z
def zn_28 : PU := fun _ _ d pc _ _ => .goto ((d : Int) - pc)
def zn_29 : PU := fun _ a d pc _ _ => .ifCond (zcond a) ((d : Int) - pc)
def zn_30 : PU := fun _ a d pc _ _ => .if_icmp (zcond a) ((d : Int) - pc)
def zn_31 : PU := fun _ _ d pc _ _ => .ifnull ((d : Int) - pc)
def zn_32 : PU := fun _ _ d pc _ _ => .ifnonnull ((d : Int) - pc)
def zn_33 : PU := fun _ _ d pc _ _ => .if_acmp .ne ((d : Int) - pc)
def zn_34 : PU := fun _ _ d pc z ts => .tableswitch ((d : Int) - pc) 0 z (ts.map (fun (t : Nat) => (t : Int) - pc)).toArray
def zn_35 : PU := fun _ a _ _ _ _ => .newarray (if a = 7 then .int else .boolean)
def zn_36 : PU := fun _ _ d _ _ _ => .new d
def zn_37 : PU := fun _ _ _ _ _ _ => .dup
def zn_38 : PU := fun _ _ _ _ _ _ => .dup2
def zn_39 : PU := fun _ _ _ _ _ _ => .pop
def zn_40 : PU := fun _ _ d _ _ _ => .invokevirtual d
def zn_41 : PU := fun _ _ _ _ _ _ => .ireturn
def zn_42 : PU := fun _ _ _ _ _ _ => .ireturn
def zn_43 : PU := fun _ _ _ _ _ _ => .areturn
def zn_44 : PU := fun _ _ _ _ _ _ => .return_
def zn_45 : PU := fun _ _ d _ _ _ => .invokespecial d
def zn_46 : PU := fun _ _ _ _ _ _ => .arraylength
def zn_47 : PU := fun _ _ _ _ _ _ => .iaload
def zn_48 : PU := fun _ _ d _ _ _ => .invokespecial d
def zn_49 : PU := fun _ _ d _ _ _ => .invokestatic d
def zn_50 : PU := fun _ _ d _ _ _ => .invokespecial d
def zunt : List PU := [zn_0, zn_1, zn_2, zn_3, zn_4, zn_5, zn_6, zn_7, zn_8, zn_9, zn_10, zn_11, zn_12, zn_13, zn_14, zn_15, zn_16, zn_17, zn_18, zn_19, zn_20, zn_21, zn_22, zn_23, zn_24, zn_25, zn_26, zn_27, zn_28, zn_29, zn_30, zn_31, zn_32, zn_33, zn_34, zn_35, zn_36, zn_37, zn_38, zn_39, zn_40, zn_41, zn_42, zn_43, zn_44, zn_45, zn_46, zn_47, zn_48, zn_49, zn_50]
def zun (pc : Nat) (q : PI) : Instr := match zunt[q.1]? with
  | some f => f q.2.1 q.2.2.1 q.2.2.2.2.1 pc q.2.2.2.2.2.1 q.2.2.2.2.2.2
  | none => .nop
/-- what a field link says -/
def flkB (q : Nat × Nat × Nat × Nat) (i : Nat) : Bool := match vwCl[q.2.2.1]? with
  | some (C, T, N) => zAt i (.fieldLink (zwn q.1) q.2.1 C (T q.2.2.2).2.1 (T q.2.2.2).2.2.1) && decide (q.2.2.2 < N) && decide ((T q.2.2.2).1 = C) &&
    (match parseFieldDescriptor (T q.2.2.2).2.2.1 with
      | some .int => !zfr q.2.2.1 q.2.2.2
      | some (.array _) => zfr q.2.2.1 q.2.2.2
      | some (.object _) => zfr q.2.2.1 q.2.2.2
      | _ => false)
  | none => false
def mlkB (q : Nat × Nat × Nat) (i : Nat) : Bool := zAt i (.methodLink (zwn q.1) q.2.1 (zmY q.2.2))
def clkB (q : Nat × Nat × Nat) (i : Nat × Nat × Nat) : Bool := match vwCl[q.2.2]? with
  | some (C, _, N) => zAt i.1 (.classLink (zwn q.1) q.2.1 C) && zAt i.2.1 (.instantiable C N) && zAt i.2.2 (.initialized C)
  | none => false
def klkB (q : Nat × Nat × Int) (i : Nat) : Bool := zAt i (.constant (zwn q.1) q.2.1 (Int32.ofInt q.2.2))
def olkB (q : Nat × Nat) (i : Nat) : Bool := zAt i (.methodLink (zwn q.1) q.2 Lib.objectInit)
def znb (z : Int) : Bool := decide (-2147483648 ≤ z) && decide (z < 2147483648)
def zmB (m : Nat) (i : Nat × Nat × Nat) : Bool := zAt i.1 (.initialized (zmY m).cls) && plainFor (zmY m) &&
  decide ((zmY m).cls ≠ "java/lang/invoke/MethodHandle" ∧ (zmY m).cls ≠ "java/lang/invoke/VarHandle") &&
  decide ((parseMethodDescriptor (zmY m).desc).map (fun d => d.parameters.length) = some (zmP m - (if zmK m < 2 then 1 else 0))) &&
  decide (zmP m ≤ zmN m) && decide (zmK m < 2 → 1 ≤ zmP m) && decide ((zmY m).cls = zwn (zmO m)) && decide (zmK m < 3) &&
  (if zmK m = 0 then zAt i.2.1 (.instanceMethod (zmY m)) && zAt i.2.2 (.selects (zmY m).cls (zmY m) (zmY m)) else
   if zmK m = 1 then zAt i.2.1 (.instanceMethod (zmY m)) && decide ((zmY m).name = "<init>") && decide (zmR m = none) else zAt i.2.1 (.static (zmY m)))
abbrev PK : Type := Nat → Nat → Nat → Nat → Nat → Nat → Int → List Nat → Bool
def zcall (k m a b d : Nat) : Bool := mlk.contains (zmO m, d, a) && decide (zmK a = k) && decide (b = zmP a) && decide (a < 172) && decide (zmF a + 1 ≤ zmF m) && decide (8 + (zmN a + 11) + zmL a ≤ zmL m)
def zk_0 : PK := fun _ _ _ _ _ _ _ _ => false
def zk_1 : PK := fun _ _ len a _ _ _ _ => (decide (len = 1) && decide (a < 4)) || decide (len = 2)
def zk_2 : PK := fun _ _ len a _ _ _ _ => (decide (len = 1) && decide (a < 4)) || decide (len = 2)
def zk_3 : PK := fun _ _ len a _ _ _ _ => (decide (len = 1) && decide (a < 4)) || decide (len = 2)
def zk_4 : PK := fun _ _ len a _ _ _ _ => (decide (len = 1) && decide (a < 4)) || decide (len = 2)
def zk_5 : PK := fun m _ len _ _ d z _ => znb z && (if d = 0 then (decide (len = 1) || (decide (len = 2) && decide ((Int8.ofInt z).toInt32 = Int32.ofInt z)) || (decide (len = 3) && decide ((Int16.ofInt z).toInt32 = Int32.ofInt z))) else (decide (len = 2) || decide (len = 3)) && klk.contains (zmO m, d, z))
def zk_6 : PK := fun _ _ len _ _ _ _ _ => decide (len = 1)
def zk_7 : PK := fun m _ len a b d _ _ => decide (len = 3) && flk.contains (zmO m, d, a, b) && !zfr a b
def zk_8 : PK := fun m _ len a b d _ _ => decide (len = 3) && flk.contains (zmO m, d, a, b) && zfr a b
def zk_9 : PK := fun m _ len a b d _ _ => decide (len = 3) && flk.contains (zmO m, d, a, b) && !zfr a b && (match vwCl[a]? with | some q => !(q.2.1 b).2.2.2 | none => false)
def zk_10 : PK := fun m _ len a b d _ _ => decide (len = 3) && flk.contains (zmO m, d, a, b) && zfr a b && (match vwCl[a]? with | some q => (q.2.1 b).2.2.2 && decide ((q.2.1 b).1 = zwn (zmO m)) | none => false) && decide (zmK m = 1)
def zk_11 : PK := fun _ _ len _ _ _ _ _ => decide (len = 1)
def zk_12 : PK := fun _ _ len _ _ _ _ _ => decide (len = 1)
def zk_13 : PK := fun _ _ len _ _ _ _ _ => decide (len = 1)
def zk_14 : PK := fun _ _ len _ _ _ _ _ => decide (len = 1)
def zk_15 : PK := fun _ _ len _ _ _ _ _ => decide (len = 1)
def zk_16 : PK := fun _ _ len _ _ _ _ _ => decide (len = 1)
def zk_17 : PK := fun _ _ len _ _ _ _ _ => decide (len = 1)
def zk_18 : PK := fun _ _ len _ _ _ _ _ => decide (len = 1)
def zk_19 : PK := fun _ _ len _ _ _ _ _ => decide (len = 1)
def zk_20 : PK := fun _ _ len _ _ _ _ _ => decide (len = 1)
def zk_21 : PK := fun _ _ len _ _ _ _ _ => decide (len = 1)
def zk_22 : PK := fun _ _ len _ _ _ _ _ => decide (len = 1)
def zk_23 : PK := fun _ _ len _ _ _ _ _ => decide (len = 1)
def zk_24 : PK := fun _ _ len _ _ _ _ _ => decide (len = 1)
def zk_25 : PK := fun _ _ len _ _ _ _ _ => decide (len = 1)
def zk_26 : PK := fun _ _ len _ _ _ _ _ => decide (len = 1)
def zk_27 : PK := fun m _ len a _ _ z _ => decide (len = 3) && znb z && decide (a < zmN m)
def zk_28 : PK := fun _ _ len _ _ _ _ _ => decide (len = 3)
def zk_29 : PK := fun _ _ len a _ _ _ _ => decide (len = 3) && decide (a < 6)
def zk_30 : PK := fun _ _ len a _ _ _ _ => decide (len = 3) && decide (a < 6)
def zk_31 : PK := fun _ _ len _ _ _ _ _ => decide (len = 3)
def zk_32 : PK := fun _ _ len _ _ _ _ _ => decide (len = 3)
def zk_33 : PK := fun _ _ len _ _ _ _ _ => decide (len = 3)
def zk_34 : PK := fun _ _ _ _ _ _ z ts => decide ((ts.length : Int) = z + 1)
def zk_35 : PK := fun _ _ len a _ _ _ _ => decide (len = 2) && (decide (a = 7) || decide (a = 8))
def zk_36 : PK := fun m _ len a b d _ _ => decide (len = 3) && clk.contains (zmO m, d, a) && (match vwCl[a]? with | some q => decide (q.2.2 = b) | none => false)
def zk_37 : PK := fun _ _ len _ _ _ _ _ => decide (len = 1)
def zk_38 : PK := fun _ _ len _ _ _ _ _ => decide (len = 1)
def zk_39 : PK := fun _ _ len _ _ _ _ _ => decide (len = 1)
def zk_40 : PK := fun m _ len a b d z _ => decide (len = 3) && zcall 0 m a b d && decide (zcn z.toNat = (zmY a).cls) && decide (z.toNat < 7)
def zk_41 : PK := fun m _ len _ _ _ _ _ => decide (len = 1) && decide (zmR m = some .int)
def zk_42 : PK := fun m _ len _ _ _ _ _ => decide (len = 1) && decide (zmR m = some .boolean)
def zk_43 : PK := fun m _ len _ _ _ _ _ => decide (len = 1) && (match zmR m with | some (.object _) => true | some (.array _) => true | _ => false)
def zk_44 : PK := fun m _ len _ _ _ _ _ => decide (len = 1) && decide (zmR m = none)
def zk_45 : PK := fun m _ len _ _ d _ _ => decide (len = 3) && olk.contains (zmO m, d) && decide (1 ≤ zmF m) && decide (20 ≤ zmL m)
def zk_46 : PK := fun m _ len _ _ _ _ _ => decide (len = 1) && decide (m = 172)
def zk_47 : PK := fun m _ len _ _ _ _ _ => decide (len = 1) && decide (m = 172)
def zk_48 : PK := fun m _ len a b d z _ => decide (len = 3) && zcall 1 m a b d && decide (zcn z.toNat = (zmY a).cls) && decide (z.toNat < 7)
def zk_49 : PK := fun m _ len a b d _ _ => decide (len = 3) && zcall 2 m a b d
def zk_50 : PK := fun m _ len a b d z _ => decide (len = 3) && (decide (d = 37 ∧ zmY a = yX0_init) || decide (d = 44 ∧ zmY a = yX1_init)) && decide (zmO m = 5) && decide (zmK a = 1) && decide (b = zmP a) && decide (a < 172) && decide (zmF a + 1 ≤ zmF m) && decide (8 + (zmN a + 11) + zmL a ≤ zmL m) && decide (zcn z.toNat = (zmY a).cls) && decide (z.toNat < 7)
def zckt : List PK := [zk_0, zk_1, zk_2, zk_3, zk_4, zk_5, zk_6, zk_7, zk_8, zk_9, zk_10, zk_11, zk_12, zk_13, zk_14, zk_15, zk_16, zk_17, zk_18, zk_19, zk_20, zk_21, zk_22, zk_23, zk_24, zk_25, zk_26, zk_27, zk_28, zk_29, zk_30, zk_31, zk_32, zk_33, zk_34, zk_35, zk_36, zk_37, zk_38, zk_39, zk_40, zk_41, zk_42, zk_43, zk_44, zk_45, zk_46, zk_47, zk_48, zk_49, zk_50]
def zck (m pc : Nat) (q : PI) : Bool := decide (decode (zmC m) pc = .ok (zun pc q, q.2.1)) && (match zckt[q.1]? with
  | some f => f m pc q.2.1 q.2.2.1 q.2.2.2.1 q.2.2.2.2.1 q.2.2.2.2.2.1 q.2.2.2.2.2.2
  | none => false)
def zcM (m : Nat) : Bool := match pcodes[m]? with
  | some L => L.zipIdx.all (fun e => match e.1 with | none => true | some q => zck m e.2 q)
  | none => true
end
section
theorem flk_ok : (flk.zip flkP).all (fun e => flkB e.1 e.2) = true := by decide +kernel
theorem clk_ok : (clk.zip clkP).all (fun e => clkB e.1 e.2) = true := by decide +kernel
theorem klk_ok : (klk.zip klkP).all (fun e => klkB e.1 e.2) = true := by decide +kernel
theorem olk_ok : (olk.zip olkP).all (fun e => olkB e.1 e.2) = true := by decide +kernel
theorem mlk_ok : (mlk.zip mlkP).all (fun e => mlkB e.1 e.2) = true := by decide +kernel
theorem zwOI : zAt 65 (.instanceMethod Lib.objectInit) = true := by decide +kernel
theorem zwOC : zAt 66 (.code Lib.objectInit ⟨#[0xb1]⟩ 1 none) = true := by decide +kernel
theorem zwAI : zAt 92 (.arrayClass .int) = true := by decide +kernel
theorem zwAZ : zAt 779 (.arrayClass .boolean) = true := by decide +kernel
theorem zmB_0 : (List.range 43).all (fun k => zmB (k + 0) (zmPP.getD (k + 0) (0, 0, 0))) = true := by decide +kernel
theorem zmB_43 : (List.range 43).all (fun k => zmB (k + 43) (zmPP.getD (k + 43) (0, 0, 0))) = true := by decide +kernel
theorem zmB_86 : (List.range 43).all (fun k => zmB (k + 86) (zmPP.getD (k + 86) (0, 0, 0))) = true := by decide +kernel
theorem zmB_129 : (List.range 43).all (fun k => zmB (k + 129) (zmPP.getD (k + 129) (0, 0, 0))) = true := by decide +kernel
theorem zcw_0 : lw_tbl[154]? = some (.code (zmY 0) (zmC 0) (zmN 0) (zmR 0)) := by decide +kernel
theorem zcw_1 : lw_tbl[241]? = some (.code (zmY 1) (zmC 1) (zmN 1) (zmR 1)) := by decide +kernel
theorem zcw_2 : lw_tbl[647]? = some (.code (zmY 2) (zmC 2) (zmN 2) (zmR 2)) := by decide +kernel
theorem zcw_3 : lw_tbl[482]? = some (.code (zmY 3) (zmC 3) (zmN 3) (zmR 3)) := by decide +kernel
theorem zcw_4 : lw_tbl[686]? = some (.code (zmY 4) (zmC 4) (zmN 4) (zmR 4)) := by decide +kernel
theorem zcw_5 : lw_tbl[659]? = some (.code (zmY 5) (zmC 5) (zmN 5) (zmR 5)) := by decide +kernel
theorem zcw_6 : lw_tbl[655]? = some (.code (zmY 6) (zmC 6) (zmN 6) (zmR 6)) := by decide +kernel
theorem zcw_7 : lw_tbl[651]? = some (.code (zmY 7) (zmC 7) (zmN 7) (zmR 7)) := by decide +kernel
theorem zcw_8 : lw_tbl[670]? = some (.code (zmY 8) (zmC 8) (zmN 8) (zmR 8)) := by decide +kernel
theorem zcw_9 : lw_tbl[674]? = some (.code (zmY 9) (zmC 9) (zmN 9) (zmR 9)) := by decide +kernel
theorem zcw_10 : lw_tbl[678]? = some (.code (zmY 10) (zmC 10) (zmN 10) (zmR 10)) := by decide +kernel
theorem zcw_11 : lw_tbl[682]? = some (.code (zmY 11) (zmC 11) (zmN 11) (zmR 11)) := by decide +kernel
theorem zcw_12 : lw_tbl[182]? = some (.code (zmY 12) (zmC 12) (zmN 12) (zmR 12)) := by decide +kernel
theorem zcw_13 : lw_tbl[245]? = some (.code (zmY 13) (zmC 13) (zmN 13) (zmR 13)) := by decide +kernel
theorem zcw_14 : lw_tbl[448]? = some (.code (zmY 14) (zmC 14) (zmN 14) (zmR 14)) := by decide +kernel
theorem zcw_15 : lw_tbl[466]? = some (.code (zmY 15) (zmC 15) (zmN 15) (zmR 15)) := by decide +kernel
theorem zcw_16 : lw_tbl[462]? = some (.code (zmY 16) (zmC 16) (zmN 16) (zmR 16)) := by decide +kernel
theorem zcw_17 : lw_tbl[492]? = some (.code (zmY 17) (zmC 17) (zmN 17) (zmR 17)) := by decide +kernel
theorem zcw_18 : lw_tbl[496]? = some (.code (zmY 18) (zmC 18) (zmN 18) (zmR 18)) := by decide +kernel
theorem zcw_19 : lw_tbl[71]? = some (.code (zmY 19) (zmC 19) (zmN 19) (zmR 19)) := by decide +kernel
theorem zcw_20 : lw_tbl[233]? = some (.code (zmY 20) (zmC 20) (zmN 20) (zmR 20)) := by decide +kernel
theorem zcw_21 : lw_tbl[337]? = some (.code (zmY 21) (zmC 21) (zmN 21) (zmR 21)) := by decide +kernel
theorem zcw_22 : lw_tbl[274]? = some (.code (zmY 22) (zmC 22) (zmN 22) (zmR 22)) := by decide +kernel
theorem zcw_23 : lw_tbl[300]? = some (.code (zmY 23) (zmC 23) (zmN 23) (zmR 23)) := by decide +kernel
theorem zcw_24 : lw_tbl[292]? = some (.code (zmY 24) (zmC 24) (zmN 24) (zmR 24)) := by decide +kernel
theorem zcw_25 : lw_tbl[266]? = some (.code (zmY 25) (zmC 25) (zmN 25) (zmR 25)) := by decide +kernel
theorem zcw_26 : lw_tbl[270]? = some (.code (zmY 26) (zmC 26) (zmN 26) (zmR 26)) := by decide +kernel
theorem zcw_27 : lw_tbl[612]? = some (.code (zmY 27) (zmC 27) (zmN 27) (zmR 27)) := by decide +kernel
theorem zcw_28 : lw_tbl[345]? = some (.code (zmY 28) (zmC 28) (zmN 28) (zmR 28)) := by decide +kernel
theorem zcw_29 : lw_tbl[304]? = some (.code (zmY 29) (zmC 29) (zmN 29) (zmR 29)) := by decide +kernel
theorem zcw_30 : lw_tbl[308]? = some (.code (zmY 30) (zmC 30) (zmN 30) (zmR 30)) := by decide +kernel
theorem zcw_31 : lw_tbl[312]? = some (.code (zmY 31) (zmC 31) (zmN 31) (zmR 31)) := by decide +kernel
theorem zcw_32 : lw_tbl[316]? = some (.code (zmY 32) (zmC 32) (zmN 32) (zmR 32)) := by decide +kernel
theorem zcw_33 : lw_tbl[320]? = some (.code (zmY 33) (zmC 33) (zmN 33) (zmR 33)) := by decide +kernel
theorem zcw_34 : lw_tbl[544]? = some (.code (zmY 34) (zmC 34) (zmN 34) (zmR 34)) := by decide +kernel
theorem zcw_35 : lw_tbl[353]? = some (.code (zmY 35) (zmC 35) (zmN 35) (zmR 35)) := by decide +kernel
theorem zcw_36 : lw_tbl[361]? = some (.code (zmY 36) (zmC 36) (zmN 36) (zmR 36)) := by decide +kernel
theorem zcw_37 : lw_tbl[586]? = some (.code (zmY 37) (zmC 37) (zmN 37) (zmR 37)) := by decide +kernel
theorem zcw_38 : lw_tbl[114]? = some (.code (zmY 38) (zmC 38) (zmN 38) (zmR 38)) := by decide +kernel
theorem zcw_39 : lw_tbl[385]? = some (.code (zmY 39) (zmC 39) (zmN 39) (zmR 39)) := by decide +kernel
theorem zcw_40 : lw_tbl[390]? = some (.code (zmY 40) (zmC 40) (zmN 40) (zmR 40)) := by decide +kernel
theorem zcw_41 : lw_tbl[399]? = some (.code (zmY 41) (zmC 41) (zmN 41) (zmR 41)) := by decide +kernel
theorem zcw_42 : lw_tbl[406]? = some (.code (zmY 42) (zmC 42) (zmN 42) (zmR 42)) := by decide +kernel
theorem zcw_43 : lw_tbl[414]? = some (.code (zmY 43) (zmC 43) (zmN 43) (zmR 43)) := by decide +kernel
theorem zcw_44 : lw_tbl[410]? = some (.code (zmY 44) (zmC 44) (zmN 44) (zmR 44)) := by decide +kernel
theorem zcw_45 : lw_tbl[470]? = some (.code (zmY 45) (zmC 45) (zmN 45) (zmR 45)) := by decide +kernel
theorem zcw_46 : lw_tbl[422]? = some (.code (zmY 46) (zmC 46) (zmN 46) (zmR 46)) := by decide +kernel
theorem zcw_47 : lw_tbl[433]? = some (.code (zmY 47) (zmC 47) (zmN 47) (zmR 47)) := by decide +kernel
theorem zcw_48 : lw_tbl[426]? = some (.code (zmY 48) (zmC 48) (zmN 48) (zmR 48)) := by decide +kernel
theorem zcw_49 : lw_tbl[429]? = some (.code (zmY 49) (zmC 49) (zmN 49) (zmR 49)) := by decide +kernel
theorem zcw_50 : lw_tbl[418]? = some (.code (zmY 50) (zmC 50) (zmN 50) (zmR 50)) := by decide +kernel
theorem zcw_51 : lw_tbl[440]? = some (.code (zmY 51) (zmC 51) (zmN 51) (zmR 51)) := by decide +kernel
theorem zcw_52 : lw_tbl[444]? = some (.code (zmY 52) (zmC 52) (zmN 52) (zmR 52)) := by decide +kernel
theorem zcw_53 : lw_tbl[454]? = some (.code (zmY 53) (zmC 53) (zmN 53) (zmR 53)) := by decide +kernel
theorem zcw_54 : lw_tbl[458]? = some (.code (zmY 54) (zmC 54) (zmN 54) (zmR 54)) := by decide +kernel
theorem zcw_55 : lw_tbl[97]? = some (.code (zmY 55) (zmC 55) (zmN 55) (zmR 55)) := by decide +kernel
theorem zcw_56 : lw_tbl[237]? = some (.code (zmY 56) (zmC 56) (zmN 56) (zmR 56)) := by decide +kernel
theorem zcw_57 : lw_tbl[229]? = some (.code (zmY 57) (zmC 57) (zmN 57) (zmR 57)) := by decide +kernel
theorem zcw_58 : lw_tbl[504]? = some (.code (zmY 58) (zmC 58) (zmN 58) (zmR 58)) := by decide +kernel
theorem zcw_59 : lw_tbl[532]? = some (.code (zmY 59) (zmC 59) (zmN 59) (zmR 59)) := by decide +kernel
theorem zcw_60 : lw_tbl[324]? = some (.code (zmY 60) (zmC 60) (zmN 60) (zmR 60)) := by decide +kernel
theorem zcw_61 : lw_tbl[332]? = some (.code (zmY 61) (zmC 61) (zmN 61) (zmR 61)) := by decide +kernel
theorem zcw_62 : lw_tbl[381]? = some (.code (zmY 62) (zmC 62) (zmN 62) (zmR 62)) := by decide +kernel
theorem zcw_63 : lw_tbl[377]? = some (.code (zmY 63) (zmC 63) (zmN 63) (zmR 63)) := by decide +kernel
theorem zcw_64 : lw_tbl[508]? = some (.code (zmY 64) (zmC 64) (zmN 64) (zmR 64)) := by decide +kernel
theorem zcw_65 : lw_tbl[500]? = some (.code (zmY 65) (zmC 65) (zmN 65) (zmR 65)) := by decide +kernel
theorem zcw_66 : lw_tbl[487]? = some (.code (zmY 66) (zmC 66) (zmN 66) (zmR 66)) := by decide +kernel
theorem zcw_67 : lw_tbl[540]? = some (.code (zmY 67) (zmC 67) (zmN 67) (zmR 67)) := by decide +kernel
theorem zcw_68 : lw_tbl[553]? = some (.code (zmY 68) (zmC 68) (zmN 68) (zmR 68)) := by decide +kernel
theorem zcw_69 : lw_tbl[607]? = some (.code (zmY 69) (zmC 69) (zmN 69) (zmR 69)) := by decide +kernel
theorem zcw_70 : lw_tbl[621]? = some (.code (zmY 70) (zmC 70) (zmN 70) (zmR 70)) := by decide +kernel
theorem zcw_71 : lw_tbl[616]? = some (.code (zmY 71) (zmC 71) (zmN 71) (zmR 71)) := by decide +kernel
theorem zcw_72 : lw_tbl[562]? = some (.code (zmY 72) (zmC 72) (zmN 72) (zmR 72)) := by decide +kernel
theorem zcw_73 : lw_tbl[566]? = some (.code (zmY 73) (zmC 73) (zmN 73) (zmR 73)) := by decide +kernel
theorem zcw_74 : lw_tbl[639]? = some (.code (zmY 74) (zmC 74) (zmN 74) (zmR 74)) := by decide +kernel
theorem zcw_75 : lw_tbl[478]? = some (.code (zmY 75) (zmC 75) (zmN 75) (zmR 75)) := by decide +kernel
theorem zcw_76 : lw_tbl[666]? = some (.code (zmY 76) (zmC 76) (zmN 76) (zmR 76)) := by decide +kernel
theorem zcw_77 : lw_tbl[63]? = some (.code (zmY 77) (zmC 77) (zmN 77) (zmR 77)) := by decide +kernel
theorem zcw_78 : lw_tbl[225]? = some (.code (zmY 78) (zmC 78) (zmN 78) (zmR 78)) := by decide +kernel
theorem zcw_79 : lw_tbl[249]? = some (.code (zmY 79) (zmC 79) (zmN 79) (zmR 79)) := by decide +kernel
theorem zcw_80 : lw_tbl[278]? = some (.code (zmY 80) (zmC 80) (zmN 80) (zmR 80)) := by decide +kernel
theorem zcw_81 : lw_tbl[282]? = some (.code (zmY 81) (zmC 81) (zmN 81) (zmR 81)) := by decide +kernel
theorem zcw_82 : lw_tbl[296]? = some (.code (zmY 82) (zmC 82) (zmN 82) (zmR 82)) := by decide +kernel
theorem zcw_83 : lw_tbl[328]? = some (.code (zmY 83) (zmC 83) (zmN 83) (zmR 83)) := by decide +kernel
theorem zcw_84 : lw_tbl[341]? = some (.code (zmY 84) (zmC 84) (zmN 84) (zmR 84)) := by decide +kernel
theorem zcw_85 : lw_tbl[349]? = some (.code (zmY 85) (zmC 85) (zmN 85) (zmR 85)) := by decide +kernel
theorem zcw_86 : lw_tbl[357]? = some (.code (zmY 86) (zmC 86) (zmN 86) (zmR 86)) := by decide +kernel
theorem zcw_87 : lw_tbl[365]? = some (.code (zmY 87) (zmC 87) (zmN 87) (zmR 87)) := by decide +kernel
theorem zcw_88 : lw_tbl[513]? = some (.code (zmY 88) (zmC 88) (zmN 88) (zmR 88)) := by decide +kernel
theorem zcw_89 : lw_tbl[517]? = some (.code (zmY 89) (zmC 89) (zmN 89) (zmR 89)) := by decide +kernel
theorem zcw_90 : lw_tbl[523]? = some (.code (zmY 90) (zmC 90) (zmN 90) (zmR 90)) := by decide +kernel
theorem zcw_91 : lw_tbl[528]? = some (.code (zmY 91) (zmC 91) (zmN 91) (zmR 91)) := by decide +kernel
theorem zcw_92 : lw_tbl[536]? = some (.code (zmY 92) (zmC 92) (zmN 92) (zmR 92)) := by decide +kernel
theorem zcw_93 : lw_tbl[549]? = some (.code (zmY 93) (zmC 93) (zmN 93) (zmR 93)) := by decide +kernel
theorem zcw_94 : lw_tbl[558]? = some (.code (zmY 94) (zmC 94) (zmN 94) (zmR 94)) := by decide +kernel
theorem zcw_95 : lw_tbl[570]? = some (.code (zmY 95) (zmC 95) (zmN 95) (zmR 95)) := by decide +kernel
theorem zcw_96 : lw_tbl[574]? = some (.code (zmY 96) (zmC 96) (zmN 96) (zmR 96)) := by decide +kernel
theorem zcw_97 : lw_tbl[578]? = some (.code (zmY 97) (zmC 97) (zmN 97) (zmR 97)) := by decide +kernel
theorem zcw_98 : lw_tbl[626]? = some (.code (zmY 98) (zmC 98) (zmN 98) (zmR 98)) := by decide +kernel
theorem zcw_99 : lw_tbl[630]? = some (.code (zmY 99) (zmC 99) (zmN 99) (zmR 99)) := by decide +kernel
theorem zcw_100 : lw_tbl[634]? = some (.code (zmY 100) (zmC 100) (zmN 100) (zmR 100)) := by decide +kernel
theorem zcw_101 : lw_tbl[643]? = some (.code (zmY 101) (zmC 101) (zmN 101) (zmR 101)) := by decide +kernel
theorem zcw_102 : lw_tbl[691]? = some (.code (zmY 102) (zmC 102) (zmN 102) (zmR 102)) := by decide +kernel
theorem zcw_103 : lw_tbl[252]? = some (.code (zmY 103) (zmC 103) (zmN 103) (zmR 103)) := by decide +kernel
theorem zcw_104 : lw_tbl[255]? = some (.code (zmY 104) (zmC 104) (zmN 104) (zmR 104)) := by decide +kernel
theorem zcw_105 : lw_tbl[258]? = some (.code (zmY 105) (zmC 105) (zmN 105) (zmR 105)) := by decide +kernel
theorem zcw_106 : lw_tbl[369]? = some (.code (zmY 106) (zmC 106) (zmN 106) (zmR 106)) := by decide +kernel
theorem zcw_107 : lw_tbl[262]? = some (.code (zmY 107) (zmC 107) (zmN 107) (zmR 107)) := by decide +kernel
theorem zcw_108 : lw_tbl[288]? = some (.code (zmY 108) (zmC 108) (zmN 108) (zmR 108)) := by decide +kernel
theorem zcw_109 : lw_tbl[285]? = some (.code (zmY 109) (zmC 109) (zmN 109) (zmR 109)) := by decide +kernel
theorem zcw_110 : lw_tbl[373]? = some (.code (zmY 110) (zmC 110) (zmN 110) (zmR 110)) := by decide +kernel
theorem zcw_111 : lw_tbl[474]? = some (.code (zmY 111) (zmC 111) (zmN 111) (zmR 111)) := by decide +kernel
theorem zcw_112 : lw_tbl[582]? = some (.code (zmY 112) (zmC 112) (zmN 112) (zmR 112)) := by decide +kernel
theorem zcw_113 : lw_tbl[599]? = some (.code (zmY 113) (zmC 113) (zmN 113) (zmR 113)) := by decide +kernel
theorem zcw_114 : lw_tbl[603]? = some (.code (zmY 114) (zmC 114) (zmN 114) (zmR 114)) := by decide +kernel
theorem zcw_115 : lw_tbl[790]? = some (.code (zmY 115) (zmC 115) (zmN 115) (zmR 115)) := by decide +kernel
theorem zcw_116 : lw_tbl[696]? = some (.code (zmY 116) (zmC 116) (zmN 116) (zmR 116)) := by decide +kernel
theorem zcw_117 : lw_tbl[702]? = some (.code (zmY 117) (zmC 117) (zmN 117) (zmR 117)) := by decide +kernel
theorem zcw_118 : lw_tbl[821]? = some (.code (zmY 118) (zmC 118) (zmN 118) (zmR 118)) := by decide +kernel
theorem zcw_119 : lw_tbl[860]? = some (.code (zmY 119) (zmC 119) (zmN 119) (zmR 119)) := by decide +kernel
theorem zcw_120 : lw_tbl[925]? = some (.code (zmY 120) (zmC 120) (zmN 120) (zmR 120)) := by decide +kernel
theorem zcw_121 : lw_tbl[841]? = some (.code (zmY 121) (zmC 121) (zmN 121) (zmR 121)) := by decide +kernel
theorem zcw_122 : lw_tbl[849]? = some (.code (zmY 122) (zmC 122) (zmN 122) (zmR 122)) := by decide +kernel
theorem zcw_123 : lw_tbl[897]? = some (.code (zmY 123) (zmC 123) (zmN 123) (zmR 123)) := by decide +kernel
theorem zcw_124 : lw_tbl[783]? = some (.code (zmY 124) (zmC 124) (zmN 124) (zmR 124)) := by decide +kernel
theorem zcw_125 : lw_tbl[787]? = some (.code (zmY 125) (zmC 125) (zmN 125) (zmR 125)) := by decide +kernel
theorem zcw_126 : lw_tbl[798]? = some (.code (zmY 126) (zmC 126) (zmN 126) (zmR 126)) := by decide +kernel
theorem zcw_127 : lw_tbl[802]? = some (.code (zmY 127) (zmC 127) (zmN 127) (zmR 127)) := by decide +kernel
theorem zcw_128 : lw_tbl[794]? = some (.code (zmY 128) (zmC 128) (zmN 128) (zmR 128)) := by decide +kernel
theorem zcw_129 : lw_tbl[806]? = some (.code (zmY 129) (zmC 129) (zmN 129) (zmR 129)) := by decide +kernel
theorem zcw_130 : lw_tbl[813]? = some (.code (zmY 130) (zmC 130) (zmN 130) (zmR 130)) := by decide +kernel
theorem zcw_131 : lw_tbl[810]? = some (.code (zmY 131) (zmC 131) (zmN 131) (zmR 131)) := by decide +kernel
theorem zcw_132 : lw_tbl[825]? = some (.code (zmY 132) (zmC 132) (zmN 132) (zmR 132)) := by decide +kernel
theorem zcw_133 : lw_tbl[817]? = some (.code (zmY 133) (zmC 133) (zmN 133) (zmR 133)) := by decide +kernel
theorem zcw_134 : lw_tbl[829]? = some (.code (zmY 134) (zmC 134) (zmN 134) (zmR 134)) := by decide +kernel
theorem zcw_135 : lw_tbl[833]? = some (.code (zmY 135) (zmC 135) (zmN 135) (zmR 135)) := by decide +kernel
theorem zcw_136 : lw_tbl[837]? = some (.code (zmY 136) (zmC 136) (zmN 136) (zmR 136)) := by decide +kernel
theorem zcw_137 : lw_tbl[845]? = some (.code (zmY 137) (zmC 137) (zmN 137) (zmR 137)) := by decide +kernel
theorem zcw_138 : lw_tbl[872]? = some (.code (zmY 138) (zmC 138) (zmN 138) (zmR 138)) := by decide +kernel
theorem zcw_139 : lw_tbl[880]? = some (.code (zmY 139) (zmC 139) (zmN 139) (zmR 139)) := by decide +kernel
theorem zcw_140 : lw_tbl[884]? = some (.code (zmY 140) (zmC 140) (zmN 140) (zmR 140)) := by decide +kernel
theorem zcw_141 : lw_tbl[876]? = some (.code (zmY 141) (zmC 141) (zmN 141) (zmR 141)) := by decide +kernel
theorem zcw_142 : lw_tbl[868]? = some (.code (zmY 142) (zmC 142) (zmN 142) (zmR 142)) := by decide +kernel
theorem zcw_143 : lw_tbl[864]? = some (.code (zmY 143) (zmC 143) (zmN 143) (zmR 143)) := by decide +kernel
theorem zcw_144 : lw_tbl[888]? = some (.code (zmY 144) (zmC 144) (zmN 144) (zmR 144)) := by decide +kernel
theorem zcw_145 : lw_tbl[857]? = some (.code (zmY 145) (zmC 145) (zmN 145) (zmR 145)) := by decide +kernel
theorem zcw_146 : lw_tbl[853]? = some (.code (zmY 146) (zmC 146) (zmN 146) (zmR 146)) := by decide +kernel
theorem zcw_147 : lw_tbl[901]? = some (.code (zmY 147) (zmC 147) (zmN 147) (zmR 147)) := by decide +kernel
theorem zcw_148 : lw_tbl[892]? = some (.code (zmY 148) (zmC 148) (zmN 148) (zmR 148)) := by decide +kernel
theorem zcw_149 : lw_tbl[905]? = some (.code (zmY 149) (zmC 149) (zmN 149) (zmR 149)) := by decide +kernel
theorem zcw_150 : lw_tbl[909]? = some (.code (zmY 150) (zmC 150) (zmN 150) (zmR 150)) := by decide +kernel
theorem zcw_151 : lw_tbl[913]? = some (.code (zmY 151) (zmC 151) (zmN 151) (zmR 151)) := by decide +kernel
theorem zcw_152 : lw_tbl[921]? = some (.code (zmY 152) (zmC 152) (zmN 152) (zmR 152)) := by decide +kernel
theorem zcw_153 : lw_tbl[917]? = some (.code (zmY 153) (zmC 153) (zmN 153) (zmR 153)) := by decide +kernel
theorem zcw_154 : lw_tbl[933]? = some (.code (zmY 154) (zmC 154) (zmN 154) (zmR 154)) := by decide +kernel
theorem zcw_155 : lw_tbl[929]? = some (.code (zmY 155) (zmC 155) (zmN 155) (zmR 155)) := by decide +kernel
theorem zcw_156 : lw_tbl[941]? = some (.code (zmY 156) (zmC 156) (zmN 156) (zmR 156)) := by decide +kernel
theorem zcw_157 : lw_tbl[937]? = some (.code (zmY 157) (zmC 157) (zmN 157) (zmR 157)) := by decide +kernel
theorem zcw_158 : lw_tbl[945]? = some (.code (zmY 158) (zmC 158) (zmN 158) (zmR 158)) := by decide +kernel
theorem zcw_159 : lw_tbl[949]? = some (.code (zmY 159) (zmC 159) (zmN 159) (zmR 159)) := by decide +kernel
theorem zcw_160 : lw_tbl[956]? = some (.code (zmY 160) (zmC 160) (zmN 160) (zmR 160)) := by decide +kernel
theorem zcw_161 : lw_tbl[960]? = some (.code (zmY 161) (zmC 161) (zmN 161) (zmR 161)) := by decide +kernel
theorem zcw_162 : lw_tbl[953]? = some (.code (zmY 162) (zmC 162) (zmN 162) (zmR 162)) := by decide +kernel
theorem zcw_163 : lw_tbl[964]? = some (.code (zmY 163) (zmC 163) (zmN 163) (zmR 163)) := by decide +kernel
theorem zcw_164 : lw_tbl[968]? = some (.code (zmY 164) (zmC 164) (zmN 164) (zmR 164)) := by decide +kernel
theorem zcw_165 : lw_tbl[972]? = some (.code (zmY 165) (zmC 165) (zmN 165) (zmR 165)) := by decide +kernel
theorem zcw_166 : lw_tbl[976]? = some (.code (zmY 166) (zmC 166) (zmN 166) (zmR 166)) := by decide +kernel
theorem zcw_167 : lw_tbl[592]? = some (.code (zmY 167) (zmC 167) (zmN 167) (zmR 167)) := by decide +kernel
theorem zcw_168 : lw_tbl[662]? = some (.code (zmY 168) (zmC 168) (zmN 168) (zmR 168)) := by decide +kernel
theorem zcw_169 : lw_tbl[436]? = some (.code (zmY 169) (zmC 169) (zmN 169) (zmR 169)) := by decide +kernel
theorem zcw_170 : lw_tbl[394]? = some (.code (zmY 170) (zmC 170) (zmN 170) (zmR 170)) := by decide +kernel
theorem zcw_171 : lw_tbl[75]? = some (.code (zmY 171) (zmC 171) (zmN 171) (zmR 171)) := by decide +kernel
end
section
theorem zcM_0 : (List.range 12).all (fun k => zcM (k + 0)) = true := by decide +kernel
theorem zcM_12 : (List.range 12).all (fun k => zcM (k + 12)) = true := by decide +kernel
theorem zcM_24 : (List.range 12).all (fun k => zcM (k + 24)) = true := by decide +kernel
theorem zcM_36 : (List.range 12).all (fun k => zcM (k + 36)) = true := by decide +kernel
theorem zcM_48 : (List.range 12).all (fun k => zcM (k + 48)) = true := by decide +kernel
theorem zcM_60 : (List.range 12).all (fun k => zcM (k + 60)) = true := by decide +kernel
theorem zcM_72 : (List.range 12).all (fun k => zcM (k + 72)) = true := by decide +kernel
theorem zcM_84 : (List.range 12).all (fun k => zcM (k + 84)) = true := by decide +kernel
end
section
theorem zcM_96 : (List.range 12).all (fun k => zcM (k + 96)) = true := by decide +kernel
theorem zcM_108 : (List.range 12).all (fun k => zcM (k + 108)) = true := by decide +kernel
theorem zcM_120 : (List.range 12).all (fun k => zcM (k + 120)) = true := by decide +kernel
theorem zcM_132 : (List.range 12).all (fun k => zcM (k + 132)) = true := by decide +kernel
theorem zcM_144 : (List.range 12).all (fun k => zcM (k + 144)) = true := by decide +kernel
theorem zcM_156 : (List.range 12).all (fun k => zcM (k + 156)) = true := by decide +kernel
theorem zcM_168 : (List.range 4).all (fun k => zcM (k + 168)) = true := by decide +kernel
def zcL (lo n : Nat) : Bool := ((zc_172.zipIdx.drop lo).take n).all (fun e => match e.1 with | none => true | some q => zck 172 e.2 q)
theorem zcL_0 : zcL 0 76 = true := by decide +kernel
theorem zcL_76 : zcL 76 76 = true := by decide +kernel
theorem zcL_152 : zcL 152 76 = true := by decide +kernel
theorem zcL_228 : zcL 228 76 = true := by decide +kernel
theorem zcL_304 : zcL 304 76 = true := by decide +kernel
theorem zcL_380 : zcL 380 76 = true := by decide +kernel
theorem zcL_456 : zcL 456 76 = true := by decide +kernel
theorem zcL_532 : zcL 532 76 = true := by decide +kernel
theorem zcL_608 : zcL 608 76 = true := by decide +kernel
theorem zcL_684 : zcL 684 76 = true := by decide +kernel
theorem zcL_760 : zcL 760 76 = true := by decide +kernel
theorem zcL_836 : zcL 836 76 = true := by decide +kernel
theorem pcodes_len : pcodes.length = 173 := by decide +kernel
theorem zc_law_len : zc_172.length = 911 := by decide +kernel
end
section
theorem zcM_of (m : Nat) (hm : m < 172) : zcM m = true := by
  by_cases h0 : 0 ≤ m ∧ m < 12
  · have := List.all_eq_true.mp zcM_0 (m - 0) (List.mem_range.mpr (by omega))
    rwa [Nat.sub_add_cancel h0.1] at this
  by_cases h12 : 12 ≤ m ∧ m < 24
  · have := List.all_eq_true.mp zcM_12 (m - 12) (List.mem_range.mpr (by omega))
    rwa [Nat.sub_add_cancel h12.1] at this
  by_cases h24 : 24 ≤ m ∧ m < 36
  · have := List.all_eq_true.mp zcM_24 (m - 24) (List.mem_range.mpr (by omega))
    rwa [Nat.sub_add_cancel h24.1] at this
  by_cases h36 : 36 ≤ m ∧ m < 48
  · have := List.all_eq_true.mp zcM_36 (m - 36) (List.mem_range.mpr (by omega))
    rwa [Nat.sub_add_cancel h36.1] at this
  by_cases h48 : 48 ≤ m ∧ m < 60
  · have := List.all_eq_true.mp zcM_48 (m - 48) (List.mem_range.mpr (by omega))
    rwa [Nat.sub_add_cancel h48.1] at this
  by_cases h60 : 60 ≤ m ∧ m < 72
  · have := List.all_eq_true.mp zcM_60 (m - 60) (List.mem_range.mpr (by omega))
    rwa [Nat.sub_add_cancel h60.1] at this
  by_cases h72 : 72 ≤ m ∧ m < 84
  · have := List.all_eq_true.mp zcM_72 (m - 72) (List.mem_range.mpr (by omega))
    rwa [Nat.sub_add_cancel h72.1] at this
  by_cases h84 : 84 ≤ m ∧ m < 96
  · have := List.all_eq_true.mp zcM_84 (m - 84) (List.mem_range.mpr (by omega))
    rwa [Nat.sub_add_cancel h84.1] at this
  by_cases h96 : 96 ≤ m ∧ m < 108
  · have := List.all_eq_true.mp zcM_96 (m - 96) (List.mem_range.mpr (by omega))
    rwa [Nat.sub_add_cancel h96.1] at this
  by_cases h108 : 108 ≤ m ∧ m < 120
  · have := List.all_eq_true.mp zcM_108 (m - 108) (List.mem_range.mpr (by omega))
    rwa [Nat.sub_add_cancel h108.1] at this
  by_cases h120 : 120 ≤ m ∧ m < 132
  · have := List.all_eq_true.mp zcM_120 (m - 120) (List.mem_range.mpr (by omega))
    rwa [Nat.sub_add_cancel h120.1] at this
  by_cases h132 : 132 ≤ m ∧ m < 144
  · have := List.all_eq_true.mp zcM_132 (m - 132) (List.mem_range.mpr (by omega))
    rwa [Nat.sub_add_cancel h132.1] at this
  by_cases h144 : 144 ≤ m ∧ m < 156
  · have := List.all_eq_true.mp zcM_144 (m - 144) (List.mem_range.mpr (by omega))
    rwa [Nat.sub_add_cancel h144.1] at this
  by_cases h156 : 156 ≤ m ∧ m < 168
  · have := List.all_eq_true.mp zcM_156 (m - 156) (List.mem_range.mpr (by omega))
    rwa [Nat.sub_add_cancel h156.1] at this
  by_cases h168 : 168 ≤ m ∧ m < 172
  · have := List.all_eq_true.mp zcM_168 (m - 168) (List.mem_range.mpr (by omega))
    rwa [Nat.sub_add_cancel h168.1] at this
  omega
theorem zcL_in {lo n pc : Nat} {q : PI} (h : zcL lo n = true) (h1 : lo ≤ pc) (h2 : pc < lo + n) (hq : zc_172[pc]? = some (some q)) : zck 172 pc q = true := by
  have h3 : ((zc_172.zipIdx.drop lo).take n)[pc - lo]? = some (some q, pc) := by
    rw [List.getElem?_take_of_lt (by omega), List.getElem?_drop, show lo + (pc - lo) = pc by omega]
    rw [List.getElem?_zipIdx, hq]
    simp
  unfold zcL at h
  exact (List.all_eq_true.mp h) (some q, pc) (List.mem_of_getElem? h3)
theorem zck_ok {m pc : Nat} {L : List (Option PI)} {q : PI} (hL : pcodes[m]? = some L) (hq : L[pc]? = some (some q)) : zck m pc q = true := by
  have hm : m < 173 := by rw [← pcodes_len]; exact (List.getElem?_eq_some_iff.mp hL).1
  by_cases hl : m = 172
  · subst hl
    have e : pcodes[172]? = some zc_172 := rfl
    rw [e] at hL
    cases hL
    have hp : pc < 911 := by rw [← zc_law_len]; exact (List.getElem?_eq_some_iff.mp hq).1
    by_cases h0 : pc < 76
    · exact zcL_in zcL_0 (by omega) (by omega) hq
    by_cases h76 : pc < 152
    · exact zcL_in zcL_76 (by omega) (by omega) hq
    by_cases h152 : pc < 228
    · exact zcL_in zcL_152 (by omega) (by omega) hq
    by_cases h228 : pc < 304
    · exact zcL_in zcL_228 (by omega) (by omega) hq
    by_cases h304 : pc < 380
    · exact zcL_in zcL_304 (by omega) (by omega) hq
    by_cases h380 : pc < 456
    · exact zcL_in zcL_380 (by omega) (by omega) hq
    by_cases h456 : pc < 532
    · exact zcL_in zcL_456 (by omega) (by omega) hq
    by_cases h532 : pc < 608
    · exact zcL_in zcL_532 (by omega) (by omega) hq
    by_cases h608 : pc < 684
    · exact zcL_in zcL_608 (by omega) (by omega) hq
    by_cases h684 : pc < 760
    · exact zcL_in zcL_684 (by omega) (by omega) hq
    by_cases h760 : pc < 836
    · exact zcL_in zcL_760 (by omega) (by omega) hq
    by_cases h836 : pc < 912
    · exact zcL_in zcL_836 (by omega) (by omega) hq
    omega
  · have h := zcM_of m (by omega)
    simp only [zcM, hL] at h
    exact List.all_eq_true.mp h (some q, pc) (List.mem_zipIdx_iff_getElem?.mpr hq)
end
section
/-! what a state of my machine says of a state of the claim's -/
def zin (x : Int) : Prop := -2147483648 ≤ x ∧ x < 2147483648
theorem zofI (w : Int32) : Int32.ofInt w.toInt = w := Int32.ofInt_toInt w
theorem zin_I (w : Int32) : zin w.toInt := ⟨by have := Int32.le_toInt w; omega, by have := Int32.toInt_lt w; omega⟩
theorem ztoI {x : Int} (h : zin x) : (Int32.ofInt x).toInt = x := Int32.toInt_ofInt_of_le (by have := h.1; omega) (by have := h.2; omega)
theorem zin_b {z : Int} (h : znb z = true) : zin z := by
  simp only [znb, Bool.and_eq_true, decide_eq_true_eq] at h
  exact h
theorem zieq {x y : Int} (hx : zin x) (hy : zin y) : Int32.ofInt x = Int32.ofInt y ↔ x = y := by
  rw [← Int32.toInt_inj, ztoI hx, ztoI hy]
theorem zilt {x y : Int} (hx : zin x) (hy : zin y) : Int32.ofInt x < Int32.ofInt y ↔ x < y := by
  rw [Int32.lt_iff_toInt_lt, ztoI hx, ztoI hy]
theorem zile {x y : Int} (hx : zin x) (hy : zin y) : Int32.ofInt x ≤ Int32.ofInt y ↔ x ≤ y := by
  rw [Int32.le_iff_toInt_le, ztoI hx, ztoI hy]
theorem zin_0 : zin 0 := ⟨by omega, by omega⟩
theorem zclamp {i : Int} (hi : zin i) : (Int32.ofInt i).toNatClampNeg = i.toNat := by
  show (Int32.ofInt i).toInt.toNat = i.toNat
  rw [ztoI hi]
theorem zib_iff {i : Int} {n : Nat} : zib i n = true ↔ 0 ≤ i ∧ i < (n : Int) := by simp [zib]
theorem zvpin {i : Int} {n : Nat} (hi : zin i) (h : zib i n = true) : vp_in (Int32.ofInt i) n := by
  obtain ⟨h0, h1⟩ := zib_iff.mp h
  intro q
  rcases q with q | q
  · have := (zilt hi zin_0).mp q
    omega
  · rw [zclamp hi] at q
    omega
/-- values -/
def zv (b : Nat) (ad : Nat → Nat) : PV → Value
  | .inl z => .int (Int32.ofInt z)
  | .inr (.inl r) => va_rf (r.map ad)
  | .inr (.inr _) => .ref b
def zok (sc : Prop) (n : Nat) : PV → Prop
  | .inl z => zin z
  | .inr (.inl none) => True
  | .inr (.inl (some k)) => k < n
  | .inr (.inr true) => sc
  | .inr (.inr false) => False
theorem zv_cat (b : Nat) (ad : Nat → Nat) (v : PV) : (zv b ad v).category = 1 := by
  match v with
  | .inl z => rfl
  | .inr (.inl none) => rfl
  | .inr (.inl (some k)) => rfl
  | .inr (.inr _) => rfl
theorem zok_mono {sc : Prop} {n n' : Nat} {v : PV} (hn : n ≤ n') (h : zok sc n v) : zok sc n' v := by
  match v, h with
  | .inl z, h => exact h
  | .inr (.inl none), _ => trivial
  | .inr (.inl (some k)), h => exact Nat.lt_of_lt_of_le h hn
  | .inr (.inr true), h => exact h
theorem zv_ad {sc : Prop} {n b : Nat} {ad ad' : Nat → Nat} {v : PV} (h : zok sc n v) (hd : ∀ k, k < n → ad' k = ad k) : zv b ad' v = zv b ad v := by
  match v, h with
  | .inl z, _ => rfl
  | .inr (.inl none), _ => rfl
  | .inr (.inl (some k)), h => simp only [zv, Option.map_some]; rw [hd k h]
  | .inr (.inr true), _ => rfl
theorem zcats (b : Nat) (ad : Nat → Nat) (st : List PV) : ((st.map (zv b ad)).map fun v => v.category).sum = st.length := by
  induction st with
  | nil => rfl
  | cons v st ih => simp only [List.map_cons, List.sum_cons, List.length_cons, zv_cat, ih]; omega
/-- locals -/
def zls (sc : Prop) (b : Nat) (ad : Nat → Nat) (n nL : Nat) (ls : Array Slot) (pl : List PV) : Prop :=
  ls.size = nL ∧ lv_wf ls ∧ pl.length = nL ∧ ∀ (i : Nat) (v : PV), pl[i]? = some v → v = zU ∨ (zok sc n v ∧ ls[i]? = some (.val (zv b ad v)))
def zl1 (b : Nat) (ad : Nat → Nat) (q : PV × Nat) : Option (Nat × Value) := match q.1 with
  | .inr (.inr false) => none
  | v => some (q.2, zv b ad v)
def zlv (b : Nat) (ad : Nat → Nat) (pl : List PV) : List (Nat × Value) := pl.zipIdx.filterMap (zl1 b ad)
theorem zl1_of {b : Nat} {ad : Nat → Nat} {v : PV} {i : Nat} (h : v ≠ zU) : zl1 b ad (v, i) = some (i, zv b ad v) := by
  match v, h with
  | .inl z, _ => rfl
  | .inr (.inl r), _ => rfl
  | .inr (.inr true), _ => rfl
  | .inr (.inr false), h => exact absurd rfl h
theorem zlv_mem {b : Nat} {ad : Nat → Nat} {pl : List PV} {i : Nat} {v : PV} (h : pl[i]? = some v) (hv : v ≠ zU) : (i, zv b ad v) ∈ zlv b ad pl :=
  List.mem_filterMap.mpr ⟨(v, i), List.mem_zipIdx_iff_getElem?.mpr h, zl1_of hv⟩
theorem zls_has {sc : Prop} {b : Nat} {ad : Nat → Nat} {n nL : Nat} {ls : Array Slot} {pl : List PV} (h : zls sc b ad n nL ls pl) : lv_has ls nL (zlv b ad pl) := by
  refine ⟨h.1, h.2.1, fun q hq => ?_⟩
  obtain ⟨⟨v, i⟩, h1, h2⟩ := List.mem_filterMap.mp hq
  have h3 := List.mem_zipIdx_iff_getElem?.mp h1
  by_cases hv : v = zU
  · subst hv; cases h2
  · rw [zl1_of hv] at h2
    cases h2
    rcases h.2.2.2 i v h3 with h4 | h4
    · exact absurd h4 hv
    · exact h4.2
theorem zls_set {sc : Prop} {b : Nat} {ad : Nat → Nat} {n nL a : Nat} {ls ls' : Array Slot} {pl : List PV} {v : PV} (h : zls sc b ad n nL ls pl) (hv : zok sc n v)
    (h' : lv_has ls' nL ((a, zv b ad v) :: (zlv b ad pl).filter (fun q => !(q.1 == a) && !(q.1 + 1 == a && q.2.category == 2)))) : zls sc b ad n nL ls' (pl.set a v) := by
  refine ⟨h'.1, h'.2.1, by rw [List.length_set]; exact h.2.2.1, fun i w hw => ?_⟩
  by_cases hi : a = i
  · subst hi
    have : w = v := by
      rw [List.getElem?_set] at hw
      by_cases hl : a < pl.length
      · simp [hl] at hw; exact hw.symm
      · simp [hl] at hw
    subst this
    exact Or.inr ⟨hv, h'.2.2 _ List.mem_cons_self⟩
  · rw [List.getElem?_set_ne hi] at hw
    by_cases hu : w = zU
    · exact Or.inl hu
    · rcases h.2.2.2 i w hw with h4 | h4
      · exact Or.inl h4
      · refine Or.inr ⟨h4.1, h'.2.2 (i, zv b ad w) (List.mem_cons_of_mem _ (List.mem_filter.mpr ⟨zlv_mem hw hu, ?_⟩))⟩
        have e : (i == a) = false := by simp; exact fun q => hi q.symm
        simp only [e, zv_cat]
        simp
theorem zls_ad {sc : Prop} {b : Nat} {ad ad' : Nat → Nat} {n n' nL : Nat} {ls : Array Slot} {pl : List PV} (h : zls sc b ad n nL ls pl) (hn : n ≤ n') (hd : ∀ k, k < n → ad' k = ad k) : zls sc b ad' n' nL ls pl := by
  refine ⟨h.1, h.2.1, h.2.2.1, fun i v hv => ?_⟩
  rcases h.2.2.2 i v hv with h4 | h4
  · exact Or.inl h4
  · exact Or.inr ⟨zok_mono hn h4.1, by rw [zv_ad h4.1 hd]; exact h4.2⟩
/-- cells -/
def zf (ad : Nat → Nat) (h : PH) (k c j : Nat) : Value := if zfr c j = true then va_rf ((h.2.2.1 k j).map ad) else .int (Int32.ofInt (h.2.1 k j))
def ze (cI cZ : ClassId) (ad : Nat → Nat) (h : PH) (k : Nat) (s : Nat × Nat) : va_E :=
  if s.1 = 7 then .inl (cI, s.2, .inl (fun j => Int32.ofInt (h.2.1 k j))) else
  if s.1 = 8 then .inl (cZ, s.2, .inl (fun j => Int32.ofInt (h.2.1 k j))) else
  .inr (s.1, (List.range s.2).map (zf ad h k s.1))
def zw (cI cZ : ClassId) (ad : Nat → Nat) (h : PH) : va_W := h.1.zipIdx.map (fun q => (ad q.2, ze cI cZ ad h q.2 q.1))
theorem zw_get (cI cZ : ClassId) (ad : Nat → Nat) (h : PH) (k : Nat) : (zw cI cZ ad h)[k]? = h.1[k]?.map (fun s => (ad k, ze cI cZ ad h k s)) := by
  simp only [zw, List.getElem?_map, List.getElem?_zipIdx]
  cases h.1[k]? with
  | none => rfl
  | some s => simp
theorem zw_at {cI cZ : ClassId} {ad : Nat → Nat} {h : PH} {k : Nat} {s : Nat × Nat} (hk : h.1[k]? = some s) : (zw cI cZ ad h)[k]? = some (ad k, ze cI cZ ad h k s) := by
  rw [zw_get, hk]; rfl
theorem zw_set {cI cZ : ClassId} {ad : Nat → Nat} {h h' : PH} {k : Nat} {s : Nat × Nat} {E : va_E} (hk : h.1[k]? = some s) (h1 : h'.1 = h.1) (hE : E = ze cI cZ ad h' k s)
    (ho : ∀ j s', j ≠ k → ze cI cZ ad h' j s' = ze cI cZ ad h j s') : (zw cI cZ ad h).set k (ad k, E) = zw cI cZ ad h' := by
  apply List.ext_getElem?
  intro i
  rw [List.getElem?_set, zw_get, zw_get, h1]
  by_cases hi : k = i
  · subst hi
    have hl : k < (zw cI cZ ad h).length := (List.getElem?_eq_some_iff.mp (zw_at hk)).1
    rw [if_pos rfl, if_pos hl, hk, hE]
    rfl
  · rw [if_neg hi]
    cases h.1[i]? with
    | none => rfl
    | some s' => simp only [Option.map_some]; rw [ho i s' (fun q => hi q.symm)]
theorem zs2_at {α : Type} (f : Nat → Nat → α) (r k : Nat) (x : α) : zs2 f r k x r k = x := by simp [zs2]
theorem zs2_ne {α : Type} (f : Nat → Nat → α) (r k : Nat) (x : α) {i : Nat} (h : i ≠ r) : zs2 f r k x i = f i := by simp [zs2, h]
theorem zs2_ne2 {α : Type} (f : Nat → Nat → α) (r k : Nat) (x : α) {j : Nat} (h : j ≠ k) : zs2 f r k x r j = f r j := by simp [zs2, h]
theorem zs2_same {α : Type} (f : Nat → Nat → α) (r k : Nat) (x : α) : zs2 f r k x r = fun j => if j = k then x else f r j := by simp [zs2]
theorem zrg_set {n b : Nat} {f : Nat → Value} {v : Value} : ((List.range n).map f).set b v = (List.range n).map (fun j => if j = b then v else f j) := by
  apply List.ext_getElem?
  intro i
  rw [List.getElem?_set]
  simp only [List.getElem?_map, List.length_map, List.length_range]
  by_cases hi : b = i
  · subst hi
    by_cases hl : b < n
    · simp [hl]
    · simp [hl]
  · rw [if_neg hi]
    by_cases hl : i < n
    · simp only [List.getElem?_range hl, Option.map_some, if_neg (fun q : i = b => hi q.symm)]
    · have : (List.range n)[i]? = none := List.getElem?_eq_none (by simp; omega)
      rw [this]; rfl
def zsz (l : List (Nat × Nat)) : Nat := (l.map (fun s => s.2)).sum
def zwf (h : PH) : Prop := (∀ i j, zin (h.2.1 i j)) ∧ (∀ i j r, h.2.2.1 i j = some r → r < h.1.length) ∧
  (∀ (k : Nat) (s : Nat × Nat), h.1[k]? = some s → ((s.1 = 7 ∨ s.1 = 8) ∧ s.2 < 1000000) ∨ ∃ q : vw_C, vwCl[s.1]? = some q ∧ q.2.2 = s.2) ∧ h.2.2.2.1 < 2 ^ 31 ∧ ∀ j, zin (h.2.2.2.2 j)
def zsx (b : Nat) (s : State) (A : Nat → Prop) (S : PS) : Prop := va_X b S.1 (fun j => Int32.ofInt (S.2 j)) s s.heap ∧ b < s.heap.size ∧ ¬ A b
def zst (sc : Prop) (b : Nat) (D : va_G) (cI cZ : ClassId) (A : Nat → Prop) (s : State) (nL k0 s0 : Nat) (ad0 : Nat → Nat) (t : PT) (ad : Nat → Nat) (H : Heap) (locs : List Loc) (ls : Array Slot) (cells slots : Nat) : Prop :=
  zwf t.2.2.2 ∧ va_P D vwCl (zw cI cZ ad t.2.2.2) H ∧ va_D A (zw cI cZ ad t.2.2.2) ∧ va_S A s.heap H locs ∧ zls sc b ad t.2.2.2.1.length nL ls t.2.1 ∧ (∀ v ∈ t.2.2.1, zok sc t.2.2.2.1.length v) ∧
  cells + k0 = t.2.2.2.1.length ∧ slots + s0 = zsz t.2.2.2.1 ∧ (∀ k, k < k0 → ad k = ad0 k) ∧ (sc → zsx b s A t.2.2.2.2.2.2)
def zEX (s : State) : Prop := va_Nw (.methodLinkNest RX5 37 yX0_init RX5) s ∧ va_Nw (.methodLinkNest RX5 44 yX1_init RX5) s
/-- what stays the same throughout a method -/
def zcx (p : Program) (R : Room) (s : State) (m : MethodId) (args : Array Value) (meth : Method) (c : Code) (mi : Nat) (sc : Prop) (D : va_G) (cI cZ : ClassId) (A : Nat → Prop) : Prop :=
  p.tables.exec = Jvm.exec ∧ c.code = zmC mi ∧ c.maxLocals = zmN mi ∧ s.vm.findClass (zwn (zmO mi)) = some m.cls ∧ (∀ w ∈ WS, w.before args s = true) ∧ va_K D vwCl [(cI, .int), (cZ, .boolean)] s ∧
  (∀ q, s.heap.size ≤ q → A q) ∧ (zmK mi = 1 → meth.name = "<init>") ∧ (mi = 172 → sc) ∧ zmF mi ≤ R.frames ∧ zmL mi ≤ R.locals ∧ zEX s
/-- the chosen one of the branches -/
def zch (l : List (Bool × PT)) (q : PT) : Prop := ∃ l1 l2, l = l1 ++ (true, q) :: l2 ∧ ∀ e ∈ l1, e.1 = false
theorem zch_1 {c : Bool} {x q : PT} (h : zch [(c, x)] q) : c = true ∧ q = x := by
  obtain ⟨l1, l2, e, -⟩ := h
  cases l1 with
  | nil => cases e; exact ⟨rfl, rfl⟩
  | cons a l1 => simp at e
theorem zch_2 {c : Bool} {x y q : PT} (h : zch [(c, x), (true, y)] q) : (c = true ∧ q = x) ∨ (c = false ∧ q = y) := by
  obtain ⟨l1, l2, e, hl⟩ := h
  cases l1 with
  | nil => cases e; exact Or.inl ⟨rfl, rfl⟩
  | cons a l1 =>
    cases l1 with
    | nil => simp at e; obtain ⟨rfl, rfl, -⟩ := e; exact Or.inr ⟨by simpa using hl _ List.mem_cons_self, rfl⟩
    | cons b l1 => simp at e
theorem zch_of {l : List (Bool × PT)} {F : PT → Option (Option PV × PH)} {v : Option PV × PH} (h : l.foldr (fun q acc => cond q.1 (F q.2) acc) none = some v) : ∃ q, zch l q ∧ F q = some v := by
  induction l with
  | nil => cases h
  | cons a l ih =>
    obtain ⟨c, x⟩ := a
    cases c with
    | true => exact ⟨x, ⟨[], l, rfl, fun _ h => by cases h⟩, h⟩
    | false =>
      obtain ⟨q, ⟨l1, l2, e, hl⟩, hq⟩ := ih h
      refine ⟨q, ⟨(false, x) :: l1, l2, by rw [e]; rfl, fun e he => ?_⟩, hq⟩
      rcases List.mem_cons.mp he with rfl | he
      · rfl
      · exact hl e he
end
section
/-! each instruction that neither calls nor makes nor returns -/
def zG (p : Program) (l : Launch) (e : Env) (R : Room) (s : State) (m : MethodId) (args : Array Value) (below : List Frame) (meth : Method) (c : Code) (Q : State → Prop) (mi : Nat) (sc : Prop) (b : Nat) (D : va_G) (cI cZ : ClassId) (A : Nat → Prop) (k0 s0 : Nat) (ad0 : Nat → Nat) (t : PT) : Prop :=
  ∀ (ad : Nat → Nat) (H : Heap) (locs : List Loc) (ls : Array Slot) (cells slots : Nat), zst sc b D cI cZ A s (zmN mi) k0 s0 ad0 t ad H locs ls cells slots → W p l e R s m args below meth c H locs cells slots Q (F0 m t.1 ls (t.2.2.1.map (zv b ad)))
theorem zch_0 {q : PT} (h : zch [] q) : False := by
  obtain ⟨l1, l2, e, -⟩ := h
  cases l1 <;> cases e
section OPS
variable {p : Program} {l : Launch} {e : Env} {R : Room} {s : State} {m : MethodId} {args : Array Value} {below : List Frame} {meth : Method} {c : Code} {Q : State → Prop}
variable {mi : Nat} {sc : Prop} {b : Nat} {D : va_G} {cI cZ : ClassId} {A : Nat → Prop} {k0 s0 : Nat} {ad0 : Nat → Nat}
variable {ad : Nat → Nat} {H : Heap} {locs : List Loc} {ls : Array Slot} {cells slots : Nat}
variable {len a b2 d : Nat} {z : Int} {ts : List Nat} {pc : Nat} {pl st : List PV} {h : PH} {q : PT} {ll : List (Bool × PT)}
theorem zst_st {pc' : Nat} {st' : List PV} (Z : zst sc b D cI cZ A s (zmN mi) k0 s0 ad0 (pc, pl, st, h) ad H locs ls cells slots) (hs : ∀ v ∈ st', zok sc h.1.length v) : zst sc b D cI cZ A s (zmN mi) k0 s0 ad0 (pc', pl, st', h) ad H locs ls cells slots :=
  ⟨Z.1, Z.2.1, Z.2.2.1, Z.2.2.2.1, Z.2.2.2.2.1, hs, Z.2.2.2.2.2.2⟩
theorem zst_ok (Z : zst sc b D cI cZ A s (zmN mi) k0 s0 ad0 (pc, pl, st, h) ad H locs ls cells slots) : ∀ v ∈ st, zok sc h.1.length v := Z.2.2.2.2.2.1
theorem zst_ls (Z : zst sc b D cI cZ A s (zmN mi) k0 s0 ad0 (pc, pl, st, h) ad H locs ls cells slots) : zls sc b ad h.1.length (zmN mi) ls pl := Z.2.2.2.2.1
theorem zok1 {n : Nat} {v : PV} {st : List PV} (h : ∀ w ∈ v :: st, zok sc n w) : zok sc n v ∧ ∀ w ∈ st, zok sc n w := List.forall_mem_cons.mp h
theorem zok2 {n : Nat} {v : PV} {st : List PV} (h : zok sc n v) (h' : ∀ w ∈ st, zok sc n w) : ∀ w ∈ v :: st, zok sc n w := List.forall_mem_cons.mpr ⟨h, h'⟩
theorem zst_loc {i : Nat} {v : PV} {ls' : Array Slot} {pc' : Nat} {st' : List PV} (Z : zst sc b D cI cZ A s (zmN mi) k0 s0 ad0 (pc, pl, st, h) ad H locs ls cells slots) (hv : zok sc h.1.length v) (hs : ∀ w ∈ st', zok sc h.1.length w)
    (h' : lv_has ls' (zmN mi) ((i, zv b ad v) :: (zlv b ad pl).filter (fun q => !(q.1 == i) && !(q.1 + 1 == i && q.2.category == 2)))) : zst sc b D cI cZ A s (zmN mi) k0 s0 ad0 (pc', pl.set i v, st', h) ad H locs ls' cells slots :=
  ⟨Z.1, Z.2.1, Z.2.2.1, Z.2.2.2.1, zls_set Z.2.2.2.2.1 hv h', hs, Z.2.2.2.2.2.2⟩
-- 1, 2: loads
theorem so_ilo (C : zcx p R s m args meth c mi sc D cI cZ A) (hd : decode (zmC mi) pc = .ok (if len = 1 then .iload_n (Fin.ofNat 4 a) else .iload a, len)) (hk : (len = 1 ∧ a < 4) ∨ len = 2) (hh : h_ilo len a b2 d z ts pc pl st h = .inl ll) (hc : zch ll q) (G : zG p l e R s m args below meth c Q mi sc b D cI cZ A k0 s0 ad0 q) : zG p l e R s m args below meth c Q mi sc b D cI cZ A k0 s0 ad0 (pc, pl, st, h) := by
  unfold h_ilo at hh
  split at hh
  · rename_i x hx
    cases hh
    obtain ⟨-, rfl⟩ := zch_1 hc
    intro ad H locs ls cells slots Z
    obtain ⟨hx1, hx2⟩ : zok sc h.1.length (.inl x) ∧ ls[a]? = some (.val (zv b ad (.inl x))) := by
      rcases (zst_ls Z).2.2.2 a _ hx with h4 | h4
      · cases h4
      · exact h4
    have K := G ad H locs ls cells slots (zst_st Z (zok2 hx1 (zst_ok Z)))
    rcases hk with ⟨rfl, ha⟩ | rfl
    · exact lv_iload_n C.1 C.2.1 hd (by simp [Fin.ofNat, Nat.mod_eq_of_lt ha]) hx2 K
    · exact lv_iload C.1 C.2.1 hd hx2 K
  · cases hh
    exact (zch_0 hc).elim
theorem so_alo (C : zcx p R s m args meth c mi sc D cI cZ A) (hd : decode (zmC mi) pc = .ok (if len = 1 then .aload_n (Fin.ofNat 4 a) else .aload a, len)) (hk : (len = 1 ∧ a < 4) ∨ len = 2) (hh : h_alo len a b2 d z ts pc pl st h = .inl ll) (hc : zch ll q) (G : zG p l e R s m args below meth c Q mi sc b D cI cZ A k0 s0 ad0 q) : zG p l e R s m args below meth c Q mi sc b D cI cZ A k0 s0 ad0 (pc, pl, st, h) := by
  unfold h_alo at hh
  split at hh
  · rename_i r hx
    cases hh
    obtain ⟨-, rfl⟩ := zch_1 hc
    intro ad H locs ls cells slots Z
    obtain ⟨hx1, hx2⟩ : zok sc h.1.length (.inr (.inl r)) ∧ ls[a]? = some (.val (zv b ad (.inr (.inl r)))) := by
      rcases (zst_ls Z).2.2.2 a _ hx with h4 | h4
      · cases h4
      · exact h4
    have K := G ad H locs ls cells slots (zst_st Z (zok2 hx1 (zst_ok Z)))
    cases r with
    | none =>
      rcases hk with ⟨rfl, ha⟩ | rfl
      · exact lv_aload_nN C.1 C.2.1 hd (by simp [Fin.ofNat, Nat.mod_eq_of_lt ha]) hx2 K
      · exact lv_aloadN C.1 C.2.1 hd hx2 K
    | some k =>
      rcases hk with ⟨rfl, ha⟩ | rfl
      · exact lv_aload_n C.1 C.2.1 hd (by simp [Fin.ofNat, Nat.mod_eq_of_lt ha]) hx2 K
      · exact lv_aload C.1 C.2.1 hd hx2 K
  · rename_i hx
    cases hh
    obtain ⟨-, rfl⟩ := zch_1 hc
    intro ad H locs ls cells slots Z
    obtain ⟨hx1, hx2⟩ : zok sc h.1.length zS ∧ ls[a]? = some (.val (zv b ad zS)) := by
      rcases (zst_ls Z).2.2.2 a _ hx with h4 | h4
      · cases h4
      · exact h4
    have K := G ad H locs ls cells slots (zst_st Z (zok2 hx1 (zst_ok Z)))
    rcases hk with ⟨rfl, ha⟩ | rfl
    · exact lv_aload_n C.1 C.2.1 hd (by simp [Fin.ofNat, Nat.mod_eq_of_lt ha]) hx2 K
    · exact lv_aload C.1 C.2.1 hd hx2 K
  · cases hh
    exact (zch_0 hc).elim
-- 3, 4: stores
theorem so_ist (C : zcx p R s m args meth c mi sc D cI cZ A) (hd : decode (zmC mi) pc = .ok (if len = 1 then .istore_n (Fin.ofNat 4 a) else .istore a, len)) (hk : (len = 1 ∧ a < 4) ∨ len = 2) (hh : h_ist len a b2 d z ts pc pl st h = .inl ll) (hc : zch ll q) (G : zG p l e R s m args below meth c Q mi sc b D cI cZ A k0 s0 ad0 q) : zG p l e R s m args below meth c Q mi sc b D cI cZ A k0 s0 ad0 (pc, pl, st, h) := by
  unfold h_ist at hh
  split at hh
  · rename_i x st'
    cases hl : Nat.blt a pl.length with
    | false => rw [hl] at hh; cases hh; exact (zch_0 hc).elim
    | true =>
      rw [hl] at hh
      cases hh
      obtain ⟨-, rfl⟩ := zch_1 hc
      intro ad H locs ls cells slots Z
      obtain ⟨hx1, hs⟩ := zok1 (zst_ok Z)
      have hn : a < zmN mi := by rw [← (zst_ls Z).2.2.1]; exact Nat.ble_eq.mp hl
      rcases hk with ⟨rfl, ha⟩ | rfl
      · exact lv_istore_n (lv := zlv b ad pl) C.1 C.2.1 hd (by simp [Fin.ofNat, Nat.mod_eq_of_lt ha]) (zls_has (zst_ls Z)) hn rfl (fun ls' h' => G ad H locs ls' cells slots (zst_loc Z hx1 hs h'))
      · exact lv_istore (lv := zlv b ad pl) C.1 C.2.1 hd (zls_has (zst_ls Z)) hn rfl (fun ls' h' => G ad H locs ls' cells slots (zst_loc Z hx1 hs h'))
  · cases hh
    exact (zch_0 hc).elim
-- 5: constants
theorem so_con (C : zcx p R s m args meth c mi sc D cI cZ A) (hd : decode (zmC mi) pc = .ok (if d = 0 then (if len = 1 then .iconst z else if len = 2 then .bipush z else .sipush z) else (if len = 2 then .ldc d else .ldc_w d), len))
    (hz : zin z) (hk : if d = 0 then (len = 1 ∨ (len = 2 ∧ (Int8.ofInt z).toInt32 = Int32.ofInt z)) ∨ (len = 3 ∧ (Int16.ofInt z).toInt32 = Int32.ofInt z) else (len = 2 ∨ len = 3) ∧ Jvm.Cond.constant (zwn (zmO mi)) d (Int32.ofInt z) ∈ WS) (hh : h_con len a b2 d z ts pc pl st h = .inl ll) (hc : zch ll q) (G : zG p l e R s m args below meth c Q mi sc b D cI cZ A k0 s0 ad0 q) : zG p l e R s m args below meth c Q mi sc b D cI cZ A k0 s0 ad0 (pc, pl, st, h) := by
  cases hh
  obtain ⟨-, rfl⟩ := zch_1 hc
  intro ad H locs ls cells slots Z
  have K := G ad H locs ls cells slots (zst_st Z (zok2 (v := .inl z) hz (zst_ok Z)))
  by_cases h0 : d = 0
  · subst h0
    rw [if_pos rfl] at hk
    rw [if_pos rfl] at hd
    rcases hk with (rfl | ⟨rfl, hk⟩) | ⟨rfl, hk⟩
    · exact lv_iconst C.1 C.2.1 hd rfl K
    · exact lv_bipush C.1 C.2.1 hd hk K
    · exact lv_sipush C.1 C.2.1 hd hk K
  · rw [if_neg h0] at hk hd
    rcases hk with ⟨rfl | rfl, hw⟩
    · exact lv_ldc C.1 C.2.1 C.2.2.2.1 (C.2.2.2.2.1 _ hw) hd K
    · exact lv_ldcw C.1 C.2.1 C.2.2.2.1 (C.2.2.2.2.1 _ hw) hd K
theorem so_nul (C : zcx p R s m args meth c mi sc D cI cZ A) (hd : decode (zmC mi) pc = .ok (.aconst_null, len)) (hk : len = 1) (hh : h_nul len a b2 d z ts pc pl st h = .inl ll) (hc : zch ll q) (G : zG p l e R s m args below meth c Q mi sc b D cI cZ A k0 s0 ad0 q) : zG p l e R s m args below meth c Q mi sc b D cI cZ A k0 s0 ad0 (pc, pl, st, h) := by
  subst hk
  cases hh
  obtain ⟨-, rfl⟩ := zch_1 hc
  intro ad H locs ls cells slots Z
  exact lv_null C.1 C.2.1 hd (G ad H locs ls cells slots (zst_st Z (zok2 (v := .inr (.inl none)) trivial (zst_ok Z))))
-- numbers
theorem so_bin {f : Int → Int → Int} {g : Int32 → Int32 → Int32} (ins : Instr) (hf : ∀ x y, f x y = (g (Int32.ofInt x) (Int32.ofInt y)).toInt)
    (row : ∀ {H : Heap} {locs : List Loc} {cells slots : Nat} {ls : Array Slot} {rest : List Value} {pc : Nat} {x y : Int32}, decode (zmC mi) pc = .ok (ins, 1) → W p l e R s m args below meth c H locs cells slots Q (F0 m (pc + 1) ls (.int (g x y) :: rest)) → W p l e R s m args below meth c H locs cells slots Q (F0 m pc ls (.int y :: .int x :: rest)))
    (hd : decode (zmC mi) pc = .ok (ins, len)) (hk : len = 1) (hh : h_bin f len a b2 d z ts pc pl st h = .inl ll) (hc : zch ll q) (G : zG p l e R s m args below meth c Q mi sc b D cI cZ A k0 s0 ad0 q) : zG p l e R s m args below meth c Q mi sc b D cI cZ A k0 s0 ad0 (pc, pl, st, h) := by
  subst hk
  unfold h_bin at hh
  split at hh
  · rename_i y x st'
    cases hh
    obtain ⟨-, rfl⟩ := zch_1 hc
    intro ad H locs ls cells slots Z
    obtain ⟨hy, hs⟩ := zok1 (zst_ok Z)
    obtain ⟨hx, hs⟩ := zok1 hs
    refine row hd ?_
    have K := G ad H locs ls cells slots (zst_st Z (zok2 (v := .inl (f x y)) (by rw [hf]; exact zin_I _) hs))
    simp only [List.map_cons, zv, hf, zofI] at K
    exact K
  · cases hh
    exact (zch_0 hc).elim
theorem so_bin0 {f : Int → Int → Int} {g : Int32 → Int32 → Int32} (ins : Instr) (hf : ∀ x y, f x y = (g (Int32.ofInt x) (Int32.ofInt y)).toInt)
    (row : ∀ {H : Heap} {locs : List Loc} {cells slots : Nat} {ls : Array Slot} {rest : List Value} {pc : Nat} {x y : Int32}, decode (zmC mi) pc = .ok (ins, 1) → ¬ y = 0 → W p l e R s m args below meth c H locs cells slots Q (F0 m (pc + 1) ls (.int (g x y) :: rest)) → W p l e R s m args below meth c H locs cells slots Q (F0 m pc ls (.int y :: .int x :: rest)))
    (hd : decode (zmC mi) pc = .ok (ins, len)) (hk : len = 1) (hh : h_bin0 f len a b2 d z ts pc pl st h = .inl ll) (hc : zch ll q) (G : zG p l e R s m args below meth c Q mi sc b D cI cZ A k0 s0 ad0 q) : zG p l e R s m args below meth c Q mi sc b D cI cZ A k0 s0 ad0 (pc, pl, st, h) := by
  subst hk
  unfold h_bin0 at hh
  split at hh
  · rename_i y x st'
    cases hh
    obtain ⟨h0, rfl⟩ := zch_1 hc
    have h0 : ¬ y = 0 := by simpa using h0
    intro ad H locs ls cells slots Z
    obtain ⟨hy, hs⟩ := zok1 (zst_ok Z)
    obtain ⟨hx, hs⟩ := zok1 hs
    refine row hd (fun q => h0 ((zieq hy zin_0).mp q)) ?_
    have K := G ad H locs ls cells slots (zst_st Z (zok2 (v := .inl (f x y)) (by rw [hf]; exact zin_I _) hs))
    simp only [List.map_cons, zv, hf, zofI] at K
    exact K
  · cases hh
    exact (zch_0 hc).elim
theorem so_inc (C : zcx p R s m args meth c mi sc D cI cZ A) (hd : decode (zmC mi) pc = .ok (.iinc a z, len)) (hk : len = 3) (ha : a < zmN mi) (hh : h_inc len a b2 d z ts pc pl st h = .inl ll) (hc : zch ll q) (G : zG p l e R s m args below meth c Q mi sc b D cI cZ A k0 s0 ad0 q) : zG p l e R s m args below meth c Q mi sc b D cI cZ A k0 s0 ad0 (pc, pl, st, h) := by
  subst hk
  unfold h_inc at hh
  split at hh
  · rename_i x hx
    cases hh
    obtain ⟨-, rfl⟩ := zch_1 hc
    intro ad H locs ls cells slots Z
    have hm : (a, zv b ad (.inl x)) ∈ zlv b ad pl := zlv_mem hx (fun q => by cases q)
    obtain ⟨k, hk⟩ := List.getElem?_of_mem hm
    refine lv_iinc (lv := zlv b ad pl) (k := k) (x := Int32.ofInt x) (v := Int32.ofInt (zad x z)) C.1 C.2.1 hd (zls_has (zst_ls Z)) hk ?_ ha rfl (fun ls' h' => G ad H locs ls' cells slots (zst_loc Z (v := .inl (zad x z)) (by exact zin_I _) (zst_ok Z) h'))
    rw [zad, zofI]
  · cases hh
    exact (zch_0 hc).elim
-- jumps
theorem so_gto (C : zcx p R s m args meth c mi sc D cI cZ A) (hd : decode (zmC mi) pc = .ok (.goto ((d : Int) - pc), len)) (hk : len = 3) (hh : h_gto len a b2 d z ts pc pl st h = .inl ll) (hc : zch ll q) (G : zG p l e R s m args below meth c Q mi sc b D cI cZ A k0 s0 ad0 q) : zG p l e R s m args below meth c Q mi sc b D cI cZ A k0 s0 ad0 (pc, pl, st, h) := by
  subst hk
  cases hh
  obtain ⟨-, rfl⟩ := zch_1 hc
  intro ad H locs ls cells slots Z
  exact lv_goto C.1 C.2.1 hd (by omega) (G ad H locs ls cells slots (zst_st Z (zst_ok Z)))
theorem so_icm (C : zcx p R s m args meth c mi sc D cI cZ A) (hd : decode (zmC mi) pc = .ok (.if_icmp (zcond a) ((d : Int) - pc), len)) (hk : len = 3) (ha : a < 6) (hh : h_icm len a b2 d z ts pc pl st h = .inl ll) (hc : zch ll q) (G : zG p l e R s m args below meth c Q mi sc b D cI cZ A k0 s0 ad0 q) : zG p l e R s m args below meth c Q mi sc b D cI cZ A k0 s0 ad0 (pc, pl, st, h) := by
  subst hk
  unfold h_icm at hh
  split at hh
  · rename_i y x st'
    intro ad H locs ls cells slots Z
    obtain ⟨hy, hs⟩ := zok1 (zst_ok Z)
    obtain ⟨hx, hs⟩ := zok1 hs
    have ht : (pc : Int) + ((d : Int) - pc) = (d : Int) := by omega
    have K : ∀ pc', q = (pc', pl, st', h) → W p l e R s m args below meth c H locs cells slots Q (F0 m pc' ls (st'.map (zv b ad))) := fun pc' hq => by
      subst hq
      exact G ad H locs ls cells slots (zst_st Z hs)
    have e1 := zieq hx hy
    have e2 := zilt hx hy
    have e3 := zile hx hy
    have e4 := zilt hy hx
    have e5 := zile hy hx
    rcases (show a = 0 ∨ a = 1 ∨ a = 2 ∨ a = 3 ∨ a = 4 ∨ a = 5 by omega) with rfl | rfl | rfl | rfl | rfl | rfl
    · cases hh
      rcases zch_2 hc with ⟨h1, h2⟩ | ⟨h1, h2⟩ <;> simp only [decide_eq_true_eq, decide_eq_false_iff_not] at h1
      · exact lv_icmp_eq C.1 C.2.1 hd ht (fun _ => K _ h2) (fun n => absurd (e1.mpr h1) n)
      · exact lv_icmp_eq C.1 C.2.1 hd ht (fun n => absurd (e1.mp n) h1) (fun _ => K _ h2)
    · cases hh
      rcases zch_2 hc with ⟨h1, h2⟩ | ⟨h1, h2⟩ <;> simp only [decide_eq_true_eq, decide_eq_false_iff_not] at h1
      · exact lv_icmp_ne C.1 C.2.1 hd ht (fun n => absurd (e1.mpr h1) n) (fun _ => K _ h2)
      · exact lv_icmp_ne C.1 C.2.1 hd ht (fun _ => K _ h2) (fun n => absurd (e1.mp n) h1)
    · cases hh
      rcases zch_2 hc with ⟨h1, h2⟩ | ⟨h1, h2⟩ <;> simp only [decide_eq_true_eq, decide_eq_false_iff_not] at h1
      · exact lv_icmp_lt C.1 C.2.1 hd ht (fun _ => K _ h2) (fun n => absurd (e2.mpr h1) n)
      · exact lv_icmp_lt C.1 C.2.1 hd ht (fun n => absurd (e2.mp n) h1) (fun _ => K _ h2)
    · cases hh
      rcases zch_2 hc with ⟨h1, h2⟩ | ⟨h1, h2⟩ <;> simp only [decide_eq_true_eq, decide_eq_false_iff_not] at h1
      · exact lv_icmp_ge C.1 C.2.1 hd ht (fun n => absurd (e5.mp n) (by omega)) (fun _ => K _ h2)
      · exact lv_icmp_ge C.1 C.2.1 hd ht (fun _ => K _ h2) (fun n => absurd (e5.mpr (by omega)) n)
    · cases hh
      rcases zch_2 hc with ⟨h1, h2⟩ | ⟨h1, h2⟩ <;> simp only [decide_eq_true_eq, decide_eq_false_iff_not] at h1
      · exact lv_icmp_gt C.1 C.2.1 hd ht (fun _ => K _ h2) (fun n => absurd (e4.mpr h1) n)
      · exact lv_icmp_gt C.1 C.2.1 hd ht (fun n => absurd (e4.mp n) h1) (fun _ => K _ h2)
    · cases hh
      rcases zch_2 hc with ⟨h1, h2⟩ | ⟨h1, h2⟩ <;> simp only [decide_eq_true_eq, decide_eq_false_iff_not] at h1
      · exact lv_icmp_le C.1 C.2.1 hd ht (fun n => absurd (e3.mp n) (by omega)) (fun _ => K _ h2)
      · exact lv_icmp_le C.1 C.2.1 hd ht (fun _ => K _ h2) (fun n => absurd (e3.mpr (by omega)) n)
  · cases hh
    exact (zch_0 hc).elim
theorem so_ifc (C : zcx p R s m args meth c mi sc D cI cZ A) (hd : decode (zmC mi) pc = .ok (.ifCond (zcond a) ((d : Int) - pc), len)) (hk : len = 3) (ha : a < 6) (hh : h_ifc len a b2 d z ts pc pl st h = .inl ll) (hc : zch ll q) (G : zG p l e R s m args below meth c Q mi sc b D cI cZ A k0 s0 ad0 q) : zG p l e R s m args below meth c Q mi sc b D cI cZ A k0 s0 ad0 (pc, pl, st, h) := by
  subst hk
  unfold h_ifc at hh
  split at hh
  · rename_i x st'
    intro ad H locs ls cells slots Z
    obtain ⟨hx, hs⟩ := zok1 (zst_ok Z)
    have ht : (pc : Int) + ((d : Int) - pc) = (d : Int) := by omega
    have K : ∀ pc', q = (pc', pl, st', h) → W p l e R s m args below meth c H locs cells slots Q (F0 m pc' ls (st'.map (zv b ad))) := fun pc' hq => by
      subst hq
      exact G ad H locs ls cells slots (zst_st Z hs)
    have e1 : Int32.ofInt x = 0 ↔ x = 0 := zieq hx zin_0
    have e2 : Int32.ofInt x < 0 ↔ x < 0 := zilt hx zin_0
    have e3 : Int32.ofInt x ≤ 0 ↔ x ≤ 0 := zile hx zin_0
    have e4 : 0 < Int32.ofInt x ↔ 0 < x := zilt zin_0 hx
    have e5 : 0 ≤ Int32.ofInt x ↔ 0 ≤ x := zile zin_0 hx
    rcases (show a = 0 ∨ a = 1 ∨ a = 2 ∨ a = 3 ∨ a = 4 ∨ a = 5 by omega) with rfl | rfl | rfl | rfl | rfl | rfl
    · cases hh
      rcases zch_2 hc with ⟨h1, h2⟩ | ⟨h1, h2⟩ <;> simp only [decide_eq_true_eq, decide_eq_false_iff_not] at h1
      · exact lv_if_eq C.1 C.2.1 hd ht (fun _ => K _ h2) (fun n => absurd (e1.mpr h1) n)
      · exact lv_if_eq C.1 C.2.1 hd ht (fun n => absurd (e1.mp n) h1) (fun _ => K _ h2)
    · cases hh
      rcases zch_2 hc with ⟨h1, h2⟩ | ⟨h1, h2⟩ <;> simp only [decide_eq_true_eq, decide_eq_false_iff_not] at h1
      · exact lv_if_ne C.1 C.2.1 hd ht (fun n => absurd (e1.mpr h1) n) (fun _ => K _ h2)
      · exact lv_if_ne C.1 C.2.1 hd ht (fun _ => K _ h2) (fun n => absurd (e1.mp n) h1)
    · cases hh
      rcases zch_2 hc with ⟨h1, h2⟩ | ⟨h1, h2⟩ <;> simp only [decide_eq_true_eq, decide_eq_false_iff_not] at h1
      · exact lv_if_lt C.1 C.2.1 hd ht (fun _ => K _ h2) (fun n => absurd (e2.mpr h1) n)
      · exact lv_if_lt C.1 C.2.1 hd ht (fun n => absurd (e2.mp n) h1) (fun _ => K _ h2)
    · cases hh
      rcases zch_2 hc with ⟨h1, h2⟩ | ⟨h1, h2⟩ <;> simp only [decide_eq_true_eq, decide_eq_false_iff_not] at h1
      · exact lv_if_ge C.1 C.2.1 hd ht (fun n => absurd (e5.mp n) (by omega)) (fun _ => K _ h2)
      · exact lv_if_ge C.1 C.2.1 hd ht (fun _ => K _ h2) (fun n => absurd (e5.mpr (by omega)) n)
    · cases hh
      rcases zch_2 hc with ⟨h1, h2⟩ | ⟨h1, h2⟩ <;> simp only [decide_eq_true_eq, decide_eq_false_iff_not] at h1
      · exact lv_if_gt C.1 C.2.1 hd ht (fun _ => K _ h2) (fun n => absurd (e4.mpr h1) n)
      · exact lv_if_gt C.1 C.2.1 hd ht (fun n => absurd (e4.mp n) h1) (fun _ => K _ h2)
    · cases hh
      rcases zch_2 hc with ⟨h1, h2⟩ | ⟨h1, h2⟩ <;> simp only [decide_eq_true_eq, decide_eq_false_iff_not] at h1
      · exact lv_if_le C.1 C.2.1 hd ht (fun n => absurd (e3.mp n) (by omega)) (fun _ => K _ h2)
      · exact lv_if_le C.1 C.2.1 hd ht (fun _ => K _ h2) (fun n => absurd (e3.mpr (by omega)) n)
  · cases hh
    exact (zch_0 hc).elim
theorem so_ifn (C : zcx p R s m args meth c mi sc D cI cZ A) (hd : decode (zmC mi) pc = .ok (.ifnull ((d : Int) - pc), len)) (hk : len = 3) (hh : h_ifn len a b2 d z ts pc pl st h = .inl ll) (hc : zch ll q) (G : zG p l e R s m args below meth c Q mi sc b D cI cZ A k0 s0 ad0 q) : zG p l e R s m args below meth c Q mi sc b D cI cZ A k0 s0 ad0 (pc, pl, st, h) := by
  subst hk
  unfold h_ifn at hh
  split at hh
  · cases hh
    obtain ⟨-, rfl⟩ := zch_1 hc
    intro ad H locs ls cells slots Z
    exact lv_ifnullN C.1 C.2.1 hd (by omega) (G ad H locs ls cells slots (zst_st Z (zok1 (zst_ok Z)).2))
  · cases hh
    obtain ⟨-, rfl⟩ := zch_1 hc
    intro ad H locs ls cells slots Z
    exact lv_ifnull C.1 C.2.1 hd (G ad H locs ls cells slots (zst_st Z (zok1 (zst_ok Z)).2))
  · cases hh
    exact (zch_0 hc).elim
theorem so_inn (C : zcx p R s m args meth c mi sc D cI cZ A) (hd : decode (zmC mi) pc = .ok (.ifnonnull ((d : Int) - pc), len)) (hk : len = 3) (hh : h_inn len a b2 d z ts pc pl st h = .inl ll) (hc : zch ll q) (G : zG p l e R s m args below meth c Q mi sc b D cI cZ A k0 s0 ad0 q) : zG p l e R s m args below meth c Q mi sc b D cI cZ A k0 s0 ad0 (pc, pl, st, h) := by
  subst hk
  unfold h_inn at hh
  split at hh
  · cases hh
    obtain ⟨-, rfl⟩ := zch_1 hc
    intro ad H locs ls cells slots Z
    exact lv_ifnonnullN C.1 C.2.1 hd (G ad H locs ls cells slots (zst_st Z (zok1 (zst_ok Z)).2))
  · cases hh
    obtain ⟨-, rfl⟩ := zch_1 hc
    intro ad H locs ls cells slots Z
    exact lv_ifnonnull C.1 C.2.1 hd (by omega) (G ad H locs ls cells slots (zst_st Z (zok1 (zst_ok Z)).2))
  · cases hh
    exact (zch_0 hc).elim
theorem so_acn (C : zcx p R s m args meth c mi sc D cI cZ A) (hd : decode (zmC mi) pc = .ok (.if_acmp .ne ((d : Int) - pc), len)) (hk : len = 3) (hh : h_acn len a b2 d z ts pc pl st h = .inl ll) (hc : zch ll q) (G : zG p l e R s m args below meth c Q mi sc b D cI cZ A k0 s0 ad0 q) : zG p l e R s m args below meth c Q mi sc b D cI cZ A k0 s0 ad0 (pc, pl, st, h) := by
  subst hk
  unfold h_acn at hh
  split at hh
  · rename_i r r' st'
    cases hh
    intro ad H locs ls cells slots Z
    obtain ⟨hy, hs⟩ := zok1 (zst_ok Z)
    obtain ⟨hx, hs⟩ := zok1 hs
    have hy : r < h.1.length := hy
    have hx : r' < h.1.length := hx
    have K : ∀ pc', q = (pc', pl, st', h) → W p l e R s m args below meth c H locs cells slots Q (F0 m pc' ls (st'.map (zv b ad))) := fun pc' hq => by
      subst hq
      exact G ad H locs ls cells slots (zst_st Z hs)
    have inj : ad r' = ad r → r' = r := fun q => by
      have q1 := zw_at (cI := cI) (cZ := cZ) (ad := ad) (List.getElem?_eq_getElem hx)
      have q2 := zw_at (cI := cI) (cZ := cZ) (ad := ad) (List.getElem?_eq_getElem hy)
      exact Z.2.2.1.1 _ _ _ _ q1 q2 q
    rcases zch_2 hc with ⟨h1, h2⟩ | ⟨h1, h2⟩
    · have h1 : r' = r := Nat.eq_of_beq_eq_true h1
      exact lv_acmp_ne (tgt := d) (rx := some (ad r')) (ry := some (ad r)) C.1 C.2.1 hd (by omega) (fun n => absurd (by rw [h1]) n) (fun _ => K _ h2)
    · have h1 : ¬ r' = r := Nat.ne_of_beq_eq_false h1
      exact lv_acmp_ne (tgt := d) (rx := some (ad r')) (ry := some (ad r)) C.1 C.2.1 hd (by omega) (fun _ => K _ h2) (fun n => absurd (inj (Option.some.inj n)) h1)
  · cases hh
    exact (zch_0 hc).elim
theorem so_tsw (C : zcx p R s m args meth c mi sc D cI cZ A) (hd : decode (zmC mi) pc = .ok (.tableswitch ((d : Int) - pc) 0 z (ts.map (fun (t : Nat) => (t : Int) - pc)).toArray, len)) (hk : (ts.length : Int) = z + 1) (hh : h_tsw len a b2 d z ts pc pl st h = .inl ll) (hc : zch ll q) (G : zG p l e R s m args below meth c Q mi sc b D cI cZ A k0 s0 ad0 q) : zG p l e R s m args below meth c Q mi sc b D cI cZ A k0 s0 ad0 (pc, pl, st, h) := by
  unfold h_tsw at hh
  split at hh
  · rename_i x st'
    cases hh
    intro ad H locs ls cells slots Z
    obtain ⟨hx, hs⟩ := zok1 (zst_ok Z)
    have hx : zin x := hx
    have K : ∀ pc', q = (pc', pl, st', h) → W p l e R s m args below meth c H locs cells slots Q (F0 m pc' ls (st'.map (zv b ad))) := fun pc' hq => by
      subst hq
      exact G ad H locs ls cells slots (zst_st Z hs)
    obtain ⟨l1, l2, e1, e2⟩ := hc
    by_cases hin : 0 ≤ x ∧ x < (ts.length : Int)
    · -- inside
      have hlt : x.toNat < ts.length := by omega
      have hmem : (ts[x.toNat], x.toNat) ∈ ts.zipIdx := List.mem_zipIdx_iff_getElem?.mpr (List.getElem?_eq_getElem hlt)
      have hq : q = (ts[x.toNat], pl, st', h) := by
        have hall : ∀ E ∈ ts.zipIdx.map (fun q => (decide (x = (q.2 : Int)), ((q.1, pl, st', h) : PT))), E.1 = true → E.2 = (ts[x.toNat], pl, st', h) := by
          intro E hE hE1
          obtain ⟨w, hw, rfl⟩ := List.mem_map.mp hE
          have hw2 : x = (w.2 : Int) := by simpa using hE1
          have hw3 := List.mem_zipIdx_iff_getElem?.mp hw
          have : w.2 = x.toNat := by omega
          rw [this] at hw3
          rw [List.getElem?_eq_getElem hlt] at hw3
          show (w.1, pl, st', h) = _
          rw [Option.some.inj hw3]
        have g1 : (ts.zipIdx.map (fun q => (decide (x = (q.2 : Int)), ((q.1, pl, st', h) : PT))) ++ [(true, (d, pl, st', h))])[l1.length]? = some (true, q) := by rw [e1]; simp
        have g2 : l1.length ≤ x.toNat := by
          by_cases hc : x.toNat < l1.length
          · have g3 : (ts.zipIdx.map (fun q => (decide (x = (q.2 : Int)), ((q.1, pl, st', h) : PT))) ++ [(true, (d, pl, st', h))])[x.toNat]? = some (l1[x.toNat]) := by
              rw [e1, List.getElem?_append_left hc]; exact List.getElem?_eq_getElem hc
            have g4 : (ts.zipIdx.map (fun q => (decide (x = (q.2 : Int)), ((q.1, pl, st', h) : PT))) ++ [(true, (d, pl, st', h))])[x.toNat]? = some (decide (x = ((x.toNat : Nat) : Int)), (ts[x.toNat], pl, st', h)) := by
              rw [List.getElem?_append_left (by simpa using hlt)]
              simp [hlt]
            have g5 := e2 l1[x.toNat] (List.getElem_mem hc)
            rw [g3] at g4
            rw [Option.some.inj g4] at g5
            simp at g5
            omega
          · omega
        have g6 : (true, q) ∈ ts.zipIdx.map (fun q => (decide (x = (q.2 : Int)), ((q.1, pl, st', h) : PT))) := by
          rw [List.getElem?_append_left (by simp; omega)] at g1
          exact List.mem_of_getElem? g1
        exact hall _ g6 rfl
      refine lv_tableIn (off := (ts[x.toNat] : Int) - pc) (tgt := ts[x.toNat]) C.1 C.2.1 hd (by rw [ztoI hx]; omega) (by rw [ztoI hx]; omega) ?_ (by omega) (K _ hq)
      rw [ztoI hx]
      simp [hlt]
    · have hq : q = (d, pl, st', h) := by
        have hqm : (true, q) ∈ ts.zipIdx.map (fun q => (decide (x = (q.2 : Int)), ((q.1, pl, st', h) : PT))) ++ [(true, (d, pl, st', h))] := by rw [e1]; simp
        rcases List.mem_append.mp hqm with hm | hm
        · exfalso
          obtain ⟨w, hw, hw2⟩ := List.mem_map.mp hm
          have hw3 := List.mem_zipIdx_iff_getElem?.mp hw
          have hw4 : w.2 < ts.length := (List.getElem?_eq_some_iff.mp hw3).1
          have hw5 : x = (w.2 : Int) := by
            have := congrArg Prod.fst hw2
            simpa using this
          omega
        · simpa using hm
      exact lv_tableOut C.1 C.2.1 hd (by rw [ztoI hx]; omega) (by omega) (K _ hq)
  · cases hh
    exact (zch_0 hc).elim
-- the stack
theorem so_dup (C : zcx p R s m args meth c mi sc D cI cZ A) (hd : decode (zmC mi) pc = .ok (.dup, len)) (hk : len = 1) (hh : h_dup len a b2 d z ts pc pl st h = .inl ll) (hc : zch ll q) (G : zG p l e R s m args below meth c Q mi sc b D cI cZ A k0 s0 ad0 q) : zG p l e R s m args below meth c Q mi sc b D cI cZ A k0 s0 ad0 (pc, pl, st, h) := by
  subst hk
  unfold h_dup at hh
  split at hh
  · cases hh
    obtain ⟨-, rfl⟩ := zch_1 hc
    intro ad H locs ls cells slots Z
    obtain ⟨h1, h2⟩ := zok1 (zst_ok Z)
    exact lv_dup C.1 C.2.1 hd (zv_cat b ad _) (G ad H locs ls cells slots (zst_st Z (zok2 h1 (zok2 h1 h2))))
  · cases hh
    exact (zch_0 hc).elim
theorem so_du2 (C : zcx p R s m args meth c mi sc D cI cZ A) (hd : decode (zmC mi) pc = .ok (.dup2, len)) (hk : len = 1) (hh : h_du2 len a b2 d z ts pc pl st h = .inl ll) (hc : zch ll q) (G : zG p l e R s m args below meth c Q mi sc b D cI cZ A k0 s0 ad0 q) : zG p l e R s m args below meth c Q mi sc b D cI cZ A k0 s0 ad0 (pc, pl, st, h) := by
  subst hk
  unfold h_du2 at hh
  split at hh
  · cases hh
    obtain ⟨-, rfl⟩ := zch_1 hc
    intro ad H locs ls cells slots Z
    obtain ⟨h1, h2⟩ := zok1 (zst_ok Z)
    obtain ⟨h3, h4⟩ := zok1 h2
    exact lv_dup2_11 C.1 C.2.1 hd (zv_cat b ad _) (zv_cat b ad _) (G ad H locs ls cells slots (zst_st Z (zok2 h1 (zok2 h3 (zok2 h1 (zok2 h3 h4))))))
  · cases hh
    exact (zch_0 hc).elim
theorem so_pop (C : zcx p R s m args meth c mi sc D cI cZ A) (hd : decode (zmC mi) pc = .ok (.pop, len)) (hk : len = 1) (hh : h_pop len a b2 d z ts pc pl st h = .inl ll) (hc : zch ll q) (G : zG p l e R s m args below meth c Q mi sc b D cI cZ A k0 s0 ad0 q) : zG p l e R s m args below meth c Q mi sc b D cI cZ A k0 s0 ad0 (pc, pl, st, h) := by
  subst hk
  unfold h_pop at hh
  split at hh
  · cases hh
    obtain ⟨-, rfl⟩ := zch_1 hc
    intro ad H locs ls cells slots Z
    exact lv_pop C.1 C.2.1 hd (zv_cat b ad _) (G ad H locs ls cells slots (zst_st Z (zok1 (zst_ok Z)).2))
  · cases hh
    exact (zch_0 hc).elim
-- the script
theorem so_sln (C : zcx p R s m args meth c mi sc D cI cZ A) (hd : decode (zmC mi) pc = .ok (.arraylength, len)) (hk : len = 1) (hh : h_sln len a b2 d z ts pc pl st h = .inl ll) (hc : zch ll q) (G : zG p l e R s m args below meth c Q mi sc b D cI cZ A k0 s0 ad0 q) : zG p l e R s m args below meth c Q mi sc b D cI cZ A k0 s0 ad0 (pc, pl, st, h) := by
  subst hk
  unfold h_sln at hh
  split at hh
  · cases hh
    obtain ⟨-, rfl⟩ := zch_1 hc
    intro ad H locs ls cells slots Z
    obtain ⟨h1, h2⟩ := zok1 (zst_ok Z)
    obtain ⟨x1, x2, x3⟩ := Z.2.2.2.2.2.2.2.2.2 h1
    have hl : h.2.2.2.1 < 2 ^ 31 := Z.1.2.2.2.1
    have K := G ad H locs ls cells slots (zst_st Z (zok2 (v := .inl (h.2.2.2.1 : Int)) ⟨by omega, by omega⟩ h2))
    refine va_slen C.1 C.2.1 x1 x2 x3 Z.2.2.2.1 hd ?_
    simp only [List.map_cons, zv, Int32.ofInt_eq_ofNat] at K
    exact K
  · cases hh
    exact (zch_0 hc).elim
theorem so_sld (C : zcx p R s m args meth c mi sc D cI cZ A) (hd : decode (zmC mi) pc = .ok (.iaload, len)) (hk : len = 1) (hh : h_sld len a b2 d z ts pc pl st h = .inl ll) (hc : zch ll q) (G : zG p l e R s m args below meth c Q mi sc b D cI cZ A k0 s0 ad0 q) : zG p l e R s m args below meth c Q mi sc b D cI cZ A k0 s0 ad0 (pc, pl, st, h) := by
  subst hk
  unfold h_sld at hh
  split at hh
  · rename_i i st'
    cases hh
    obtain ⟨hb, rfl⟩ := zch_1 hc
    intro ad H locs ls cells slots Z
    obtain ⟨h0, h2⟩ := zok1 (zst_ok Z)
    obtain ⟨h1, h2⟩ := zok1 h2
    obtain ⟨x1, x2, x3⟩ := Z.2.2.2.2.2.2.2.2.2 h1
    have K := G ad H locs ls cells slots (zst_st Z (zok2 (v := .inl (h.2.2.2.2 i.toNat)) (Z.1.2.2.2.2 _) h2))
    refine va_sld C.1 C.2.1 x1 x2 x3 Z.2.2.2.1 (zvpin h0 hb) hd ?_
    simp only [zclamp h0]
    exact K
  · cases hh
    exact (zch_0 hc).elim
end OPS
end
section
/-! the instructions on cells -/
theorem zcl_ok : ∀ (ci : Nat) (q : vw_C), vwCl[ci]? = some q → (∀ w ∈ u_ws q.1 q.2.1 q.2.2, w ∈ WS) ∧ ∃ ty0 : Nat → FieldType, (∀ k, k < q.2.2 → parseFieldDescriptor (q.2.1 k).2.2.1 = some (ty0 k)) ∧ (∀ a, a < q.2.2 → ∀ b, b < q.2.2 → a ≠ b → (q.2.1 a).2.1 ≠ (q.2.1 b).2.1) ∧
    (∀ j, j < q.2.2 → defaultValue (ty0 j) = if zfr ci j = true then .null else .int 0) := by
  have g : ∀ {ws : List Jvm.Cond}, (∀ w ∈ ws, w ∈ lw_tbl) → ws.all goodWord = true → ∀ w ∈ ws, w ∈ WS := fun h1 h2 w hw => List.mem_filter.mpr ⟨h1 w hw, List.all_eq_true.mp h2 w hw⟩
  intro ci q hq
  match ci, hq with
  | 0, hq => cases hq; exact ⟨g inX0 (by decide +kernel), tyX0, tyX0_ok, nmX0, by decide +kernel⟩
  | 1, hq => cases hq; exact ⟨g inX1 (by decide +kernel), tyX1, tyX1_ok, nmX1, by decide +kernel⟩
  | 2, hq => cases hq; exact ⟨g inX2 (by decide +kernel), tyX2, tyX2_ok, nmX2, by decide +kernel⟩
  | 3, hq => cases hq; exact ⟨g inX3 (by decide +kernel), tyX3, tyX3_ok, nmX3, by decide +kernel⟩
  | 4, hq => cases hq; exact ⟨g inX4 (by decide +kernel), tyX4, tyX4_ok, nmX4, by decide +kernel⟩
  | 5, hq => cases hq; exact ⟨g inX5 (by decide +kernel), tyX5, tyX5_ok, nmX5, by decide +kernel⟩
  | 6, hq => cases hq; exact ⟨g inX6 (by decide +kernel), tyX6, tyX6_ok, nmX6, by decide +kernel⟩
  | n + 7, hq => simp [vwCl] at hq
theorem flk_use {o d a b : Nat} (h : flk.contains (o, d, a, b) = true) : ∃ (C : String) (T : u_T) (N : Nat), vwCl[a]? = some (C, T, N) ∧ Jvm.Cond.fieldLink (zwn o) d C (T b).2.1 (T b).2.2.1 ∈ WS ∧ b < N ∧ (T b).1 = C ∧
    ∃ ty : FieldType, parseFieldDescriptor (T b).2.2.1 = some ty ∧ ((zfr a b = false ∧ ty = .int) ∨ (zfr a b = true ∧ ((∃ t, ty = .array t) ∨ ∃ n, ty = .object n))) := by
  have hm : (o, d, a, b) ∈ flk := by simpa using h
  obtain ⟨i, hi⟩ := zip_in (b := flkP) (by decide +kernel) hm
  have hB := List.all_eq_true.mp flk_ok _ hi
  simp only [flkB] at hB
  split at hB
  · rename_i C T N hq
    simp only [Bool.and_eq_true, decide_eq_true_eq] at hB
    obtain ⟨⟨⟨h1, h2⟩, h3⟩, h4⟩ := hB
    refine ⟨C, T, N, hq, zAt_mem h1, h2, h3, ?_⟩
    split at h4
    · rename_i e; exact ⟨_, e, Or.inl ⟨by simpa using h4, rfl⟩⟩
    · rename_i t e; exact ⟨_, e, Or.inr ⟨h4, Or.inl ⟨t, rfl⟩⟩⟩
    · rename_i t e; exact ⟨_, e, Or.inr ⟨h4, Or.inr ⟨t, rfl⟩⟩⟩
    · cases h4
  · cases hB
theorem vwCl_lt {c : Nat} {q : vw_C} (h : vwCl[c]? = some q) : c < 7 := (List.getElem?_eq_some_iff.mp h).1
theorem ze_obj {cI cZ : ClassId} {ad : Nat → Nat} {h : PH} {k c n : Nat} (hc : c < 7) : ze cI cZ ad h k (c, n) = .inr (c, (List.range n).map (zf ad h k c)) := by
  simp only [ze]
  rw [if_neg (by omega), if_neg (by omega)]
theorem ze_int {cI cZ : ClassId} {ad : Nat → Nat} {h : PH} {k n : Nat} : ze cI cZ ad h k (7, n) = .inl (cI, n, .inl (fun j => Int32.ofInt (h.2.1 k j))) := by simp [ze]
theorem ze_bool {cI cZ : ClassId} {ad : Nat → Nat} {h : PH} {k n : Nat} : ze cI cZ ad h k (8, n) = .inl (cZ, n, .inl (fun j => Int32.ofInt (h.2.1 k j))) := by simp [ze]
theorem ze_congr {cI cZ : ClassId} {ad ad' : Nat → Nat} {h h' : PH} {k : Nat} {s : Nat × Nat} (h1 : ∀ i, h'.2.1 k i = h.2.1 k i) (h2 : ∀ i, (h'.2.2.1 k i).map ad' = (h.2.2.1 k i).map ad) : ze cI cZ ad' h' k s = ze cI cZ ad h k s := by
  have e : zf ad' h' k s.1 = zf ad h k s.1 := by funext j; simp only [zf, h1, h2]
  simp only [ze, e, h1]
theorem zn_of {h : PH} {r c n a : Nat} {C : String} {T : u_T} {N : Nat} (W : zwf h) (hr : h.1[r]? = some (c, n)) (hc : c = a) (hv : vwCl[a]? = some (C, T, N)) : n = N := by
  subst hc
  rcases W.2.2.1 r (c, n) hr with ⟨h1, -⟩ | ⟨q, h1, h2⟩
  · have := vwCl_lt hv
    exfalso
    rcases h1 with h1 | h1 <;> (simp only at h1; omega)
  · rw [hv] at h1
    cases h1
    exact h2.symm
theorem zwf_I {h : PH} {r k : Nat} {x : Int} (W : zwf h) (hx : zin x) : zwf (h.1, zs2 h.2.1 r k x, h.2.2) := by
  refine ⟨fun i j => ?_, W.2⟩
  simp only [zs2]
  split
  · dsimp only
    split
    · exact hx
    · exact W.1 _ _
  · exact W.1 _ _
theorem zwf_P {h : PH} {r k : Nat} {x : Option Nat} (W : zwf h) (hx : ∀ y, x = some y → y < h.1.length) : zwf (h.1, h.2.1, zs2 h.2.2.1 r k x, h.2.2.2) := by
  refine ⟨W.1, fun i j y hy => ?_, W.2.2⟩
  simp only [zs2] at hy
  split at hy
  · dsimp only at hy
    split at hy
    · exact hx y hy
    · exact W.2.1 _ _ _ hy
  · exact W.2.1 _ _ _ hy
section HEAP
variable {p : Program} {l : Launch} {e : Env} {R : Room} {s : State} {m : MethodId} {args : Array Value} {below : List Frame} {meth : Method} {c : Code} {Q : State → Prop}
variable {mi : Nat} {sc : Prop} {b : Nat} {D : va_G} {cI cZ : ClassId} {A : Nat → Prop} {k0 s0 : Nat} {ad0 : Nat → Nat}
variable {len a b2 d : Nat} {z : Int} {ts : List Nat} {pc : Nat} {pl st : List PV} {h : PH} {q : PT} {ll : List (Bool × PT)}
theorem so_gfi (C : zcx p R s m args meth c mi sc D cI cZ A) (hd : decode (zmC mi) pc = .ok (.getfield d, len)) (hk : len = 3) (hf : flk.contains (zmO mi, d, a, b2) = true) (hr : zfr a b2 = false) (hh : h_gfi len a b2 d z ts pc pl st h = .inl ll) (hc : zch ll q) (G : zG p l e R s m args below meth c Q mi sc b D cI cZ A k0 s0 ad0 q) : zG p l e R s m args below meth c Q mi sc b D cI cZ A k0 s0 ad0 (pc, pl, st, h) := by
  subst hk
  unfold h_gfi at hh
  split at hh
  · rename_i r st'
    split at hh
    · rename_i c' n hcell
      cases hg : (Nat.beq c' a && Nat.blt b2 n) with
      | false => rw [hg] at hh; cases hh; exact (zch_0 hc).elim
      | true =>
        rw [hg] at hh
        cases hh
        obtain ⟨-, rfl⟩ := zch_1 hc
        simp only [Bool.and_eq_true] at hg
        have e1 : c' = a := Nat.eq_of_beq_eq_true hg.1
        subst e1
        obtain ⟨Cn, T, N, hv, hw, hb, hT, -⟩ := flk_use hf
        intro ad H locs ls cells slots Z
        have en : n = N := zn_of Z.1 hcell rfl hv
        subst en
        obtain ⟨h1, h2⟩ := zok1 (zst_ok Z)
        have K := G ad H locs ls cells slots (zst_st Z (zok2 (v := .inl (h.2.1 r b2)) (Z.1.1 _ _) h2))
        have he := zw_at (cI := cI) (cZ := cZ) (ad := ad) hcell
        rw [ze_obj (vwCl_lt hv)] at he
        refine va_get C.1 C.2.1 (Ts := WS) C.2.2.2.2.1 (zcl_ok c' _ hv).1 C.2.2.2.1 C.2.2.2.2.2.1 Z.2.1 r he hv b2 hb (C.2.2.2.2.1 _ hw) (by rw [hT]; exact fun _ h => h) (v := .int (Int32.ofInt (h.2.1 r b2))) ?_ hd K
        simp [hb, zf, hr]
    · cases hh
      exact (zch_0 hc).elim
  · cases hh
    exact (zch_0 hc).elim
theorem so_gfr (C : zcx p R s m args meth c mi sc D cI cZ A) (hd : decode (zmC mi) pc = .ok (.getfield d, len)) (hk : len = 3) (hf : flk.contains (zmO mi, d, a, b2) = true) (hr : zfr a b2 = true) (hh : h_gfr len a b2 d z ts pc pl st h = .inl ll) (hc : zch ll q) (G : zG p l e R s m args below meth c Q mi sc b D cI cZ A k0 s0 ad0 q) : zG p l e R s m args below meth c Q mi sc b D cI cZ A k0 s0 ad0 (pc, pl, st, h) := by
  subst hk
  unfold h_gfr at hh
  split at hh
  · rename_i r st'
    split at hh
    · rename_i c' n hcell
      cases hg : (Nat.beq c' a && Nat.blt b2 n) with
      | false => rw [hg] at hh; cases hh; exact (zch_0 hc).elim
      | true =>
        rw [hg] at hh
        cases hh
        obtain ⟨-, rfl⟩ := zch_1 hc
        simp only [Bool.and_eq_true] at hg
        have e1 : c' = a := Nat.eq_of_beq_eq_true hg.1
        subst e1
        obtain ⟨Cn, T, N, hv, hw, hb, hT, -⟩ := flk_use hf
        intro ad H locs ls cells slots Z
        have en : n = N := zn_of Z.1 hcell rfl hv
        subst en
        obtain ⟨h1, h2⟩ := zok1 (zst_ok Z)
        have hok : zok sc h.1.length (.inr (.inl (h.2.2.1 r b2))) := by
          cases hP : h.2.2.1 r b2 with
          | none => trivial
          | some y => exact Z.1.2.1 _ _ _ hP
        have K := G ad H locs ls cells slots (zst_st Z (zok2 hok h2))
        have he := zw_at (cI := cI) (cZ := cZ) (ad := ad) hcell
        rw [ze_obj (vwCl_lt hv)] at he
        refine va_get C.1 C.2.1 (Ts := WS) C.2.2.2.2.1 (zcl_ok c' _ hv).1 C.2.2.2.1 C.2.2.2.2.2.1 Z.2.1 r he hv b2 hb (C.2.2.2.2.1 _ hw) (by rw [hT]; exact fun _ h => h) (v := va_rf ((h.2.2.1 r b2).map ad)) ?_ hd K
        simp [hb, zf, hr]
    · cases hh
      exact (zch_0 hc).elim
  · cases hh
    exact (zch_0 hc).elim
theorem so_pfi (C : zcx p R s m args meth c mi sc D cI cZ A) (hd : decode (zmC mi) pc = .ok (.putfield d, len)) (hk : len = 3) (hf : flk.contains (zmO mi, d, a, b2) = true) (hr : zfr a b2 = false) (hfin : ∀ q, vwCl[a]? = some q → (q.2.1 b2).2.2.2 = false) (hh : h_pfi len a b2 d z ts pc pl st h = .inl ll) (hc : zch ll q) (G : zG p l e R s m args below meth c Q mi sc b D cI cZ A k0 s0 ad0 q) : zG p l e R s m args below meth c Q mi sc b D cI cZ A k0 s0 ad0 (pc, pl, st, h) := by
  subst hk
  unfold h_pfi at hh
  split at hh
  · rename_i x r st'
    split at hh
    · rename_i c' n hcell
      cases hg : (Nat.beq c' a && Nat.blt b2 n) with
      | false => rw [hg] at hh; cases hh; exact (zch_0 hc).elim
      | true =>
        rw [hg] at hh
        cases hh
        obtain ⟨-, rfl⟩ := zch_1 hc
        simp only [Bool.and_eq_true] at hg
        have e1 : c' = a := Nat.eq_of_beq_eq_true hg.1
        subst e1
        obtain ⟨Cn, T, N, hv, hw, hb, hT, ty, hty, hty2⟩ := flk_use hf
        have hty3 : ty = .int := by
          rcases hty2 with ⟨-, h⟩ | ⟨h, -⟩
          · exact h
          · rw [hr] at h; cases h
        subst hty3
        intro ad H locs ls cells slots Z
        have en : n = N := zn_of Z.1 hcell rfl hv
        subst en
        obtain ⟨h0, h1⟩ := zok1 (zst_ok Z)
        obtain ⟨h1, h2⟩ := zok1 h1
        have he := zw_at (cI := cI) (cZ := cZ) (ad := ad) hcell
        rw [ze_obj (vwCl_lt hv)] at he
        obtain ⟨hin, ty0, hty0, hnm, -⟩ := zcl_ok c' _ hv
        refine va_put C.1 C.2.1 (Ts := WS) C.2.2.2.2.1 hin ty0 hty0 hnm C.2.2.2.1 C.2.2.2.2.2.1 Z.2.1 Z.2.2.1 Z.2.2.2.1 r he hv b2 hb (C.2.2.2.2.1 _ hw) (by rw [hT]; exact fun _ h => h) (hfin _ hv) hty (v := .int (Int32.ofInt x)) rfl rfl (by simpa using hb) hd (fun H1 locs1 hP hD hS => ?_)
        have es : (zw cI cZ ad h).set r (ad r, .inr (c', ((List.range n).map (zf ad h r c')).set b2 (.int (Int32.ofInt x)))) = zw cI cZ ad (h.1, zs2 h.2.1 r b2 x, h.2.2) := by
          refine zw_set hcell rfl ?_ (fun j s' hj => ze_congr (fun i => by simp only [zs2_ne _ _ _ _ hj]) (fun i => rfl))
          rw [ze_obj (vwCl_lt hv), zrg_set]
          congr 2
          apply List.map_congr_left
          intro j _
          by_cases hj : j = b2
          · subst hj
            simp [zf, hr, zs2_at]
          · simp [zf, hj, zs2_ne2 _ _ _ _ hj]
        rw [es] at hP hD
        exact G ad H1 locs1 ls cells slots ⟨zwf_I Z.1 h0, hP, hD, hS, Z.2.2.2.2.1, h2, Z.2.2.2.2.2.2⟩
    · cases hh
      exact (zch_0 hc).elim
  · cases hh
    exact (zch_0 hc).elim
theorem so_pfr (C : zcx p R s m args meth c mi sc D cI cZ A) (hd : decode (zmC mi) pc = .ok (.putfield d, len)) (hk : len = 3) (hf : flk.contains (zmO mi, d, a, b2) = true) (hr : zfr a b2 = true) (hfin : ∀ q, vwCl[a]? = some q → (q.2.1 b2).2.2.2 = true ∧ (q.2.1 b2).1 = zwn (zmO mi)) (hin1 : zmK mi = 1) (hh : h_pfr len a b2 d z ts pc pl st h = .inl ll) (hc : zch ll q) (G : zG p l e R s m args below meth c Q mi sc b D cI cZ A k0 s0 ad0 q) : zG p l e R s m args below meth c Q mi sc b D cI cZ A k0 s0 ad0 (pc, pl, st, h) := by
  subst hk
  unfold h_pfr at hh
  split at hh
  · rename_i x r st'
    split at hh
    · rename_i c' n hcell
      cases hg : (Nat.beq c' a && Nat.blt b2 n) with
      | false => rw [hg] at hh; cases hh; exact (zch_0 hc).elim
      | true =>
        rw [hg] at hh
        cases hh
        obtain ⟨-, rfl⟩ := zch_1 hc
        simp only [Bool.and_eq_true] at hg
        have e1 : c' = a := Nat.eq_of_beq_eq_true hg.1
        subst e1
        obtain ⟨Cn, T, N, hv, hw, hb, hT, ty, hty, hty2⟩ := flk_use hf
        have hty3 : (∃ t, ty = .array t) ∨ ∃ n, ty = .object n := by
          rcases hty2 with ⟨h, -⟩ | ⟨-, h⟩
          · rw [hr] at h; cases h
          · exact h
        intro ad H locs ls cells slots Z
        have en : n = N := zn_of Z.1 hcell rfl hv
        subst en
        obtain ⟨h0, h1⟩ := zok1 (zst_ok Z)
        obtain ⟨h1, h2⟩ := zok1 h1
        have he := zw_at (cI := cI) (cZ := cZ) (ad := ad) hcell
        rw [ze_obj (vwCl_lt hv)] at he
        obtain ⟨hin, ty0, hty0, hnm, -⟩ := zcl_ok c' _ hv
        have hnr : narrow ty (va_rf (x.map ad)) = va_rf (x.map ad) ∧ fits ty (va_rf (x.map ad)) = true := by
          rcases hty3 with ⟨t, rfl⟩ | ⟨t, rfl⟩ <;> cases x <;> exact ⟨rfl, rfl⟩
        refine va_putF C.1 C.2.1 (Ts := WS) C.2.2.2.2.1 hin ty0 hty0 hnm C.2.2.2.1 C.2.2.2.2.2.1 Z.2.1 Z.2.2.1 Z.2.2.2.1 r he hv b2 hb (C.2.2.2.2.1 _ hw) (by rw [hT]; exact fun _ h => h) (hfin _ hv).1 (C.2.2.2.2.2.2.2.1 hin1) (hfin _ hv).2 hty (v := va_rf (x.map ad)) hnr.1 hnr.2 (by simpa using hb) hd (fun H1 locs1 hP hD hS => ?_)
        have es : (zw cI cZ ad h).set r (ad r, .inr (c', ((List.range n).map (zf ad h r c')).set b2 (va_rf (x.map ad)))) = zw cI cZ ad (h.1, h.2.1, zs2 h.2.2.1 r b2 x, h.2.2.2) := by
          refine zw_set hcell rfl ?_ (fun j s' hj => ze_congr (fun i => rfl) (fun i => by simp only [zs2_ne _ _ _ _ hj]))
          rw [ze_obj (vwCl_lt hv), zrg_set]
          congr 2
          apply List.map_congr_left
          intro j _
          by_cases hj : j = b2
          · subst hj
            simp [zf, hr, zs2_at]
          · simp [zf, hj, zs2_ne2 _ _ _ _ hj]
        rw [es] at hP hD
        exact G ad H1 locs1 ls cells slots ⟨zwf_P Z.1 (fun y hy => by subst hy; exact h0), hP, hD, hS, Z.2.2.2.2.1, h2, Z.2.2.2.2.2.2⟩
    · cases hh
      exact (zch_0 hc).elim
  · cases hh
    exact (zch_0 hc).elim
-- arrays
theorem so_iald (C : zcx p R s m args meth c mi sc D cI cZ A) (hd : decode (zmC mi) pc = .ok (.iaload, len)) (hk : len = 1) (hh : h_ald 7 len a b2 d z ts pc pl st h = .inl ll) (hc : zch ll q) (G : zG p l e R s m args below meth c Q mi sc b D cI cZ A k0 s0 ad0 q) : zG p l e R s m args below meth c Q mi sc b D cI cZ A k0 s0 ad0 (pc, pl, st, h) := by
  subst hk
  unfold h_ald at hh
  split at hh
  · rename_i i r st'
    split at hh
    · rename_i c' n hcell
      cases hg : Nat.beq c' 7 with
      | false => rw [hg] at hh; cases hh; exact (zch_0 hc).elim
      | true =>
        rw [hg] at hh
        cases hh
        obtain ⟨hb, rfl⟩ := zch_1 hc
        have e1 : c' = 7 := Nat.eq_of_beq_eq_true hg
        subst e1
        intro ad H locs ls cells slots Z
        obtain ⟨h0, h1⟩ := zok1 (zst_ok Z)
        obtain ⟨h1, h2⟩ := zok1 h1
        have K := G ad H locs ls cells slots (zst_st Z (zok2 (v := .inl (h.2.1 r i.toNat)) (Z.1.1 _ _) h2))
        have he := zw_at (cI := cI) (cZ := cZ) (ad := ad) hcell
        rw [ze_int] at he
        refine va_iald C.1 C.2.1 C.2.2.2.2.2.1 Z.2.1 r 0 he rfl (zvpin h0 hb) hd ?_
        simp only [zclamp h0]
        exact K
    · cases hh
      exact (zch_0 hc).elim
  · cases hh
    exact (zch_0 hc).elim
theorem so_zald (C : zcx p R s m args meth c mi sc D cI cZ A) (hd : decode (zmC mi) pc = .ok (.baload, len)) (hk : len = 1) (hh : h_ald 8 len a b2 d z ts pc pl st h = .inl ll) (hc : zch ll q) (G : zG p l e R s m args below meth c Q mi sc b D cI cZ A k0 s0 ad0 q) : zG p l e R s m args below meth c Q mi sc b D cI cZ A k0 s0 ad0 (pc, pl, st, h) := by
  subst hk
  unfold h_ald at hh
  split at hh
  · rename_i i r st'
    split at hh
    · rename_i c' n hcell
      cases hg : Nat.beq c' 8 with
      | false => rw [hg] at hh; cases hh; exact (zch_0 hc).elim
      | true =>
        rw [hg] at hh
        cases hh
        obtain ⟨hb, rfl⟩ := zch_1 hc
        have e1 : c' = 8 := Nat.eq_of_beq_eq_true hg
        subst e1
        intro ad H locs ls cells slots Z
        obtain ⟨h0, h1⟩ := zok1 (zst_ok Z)
        obtain ⟨h1, h2⟩ := zok1 h1
        have K := G ad H locs ls cells slots (zst_st Z (zok2 (v := .inl (h.2.1 r i.toNat)) (Z.1.1 _ _) h2))
        have he := zw_at (cI := cI) (cZ := cZ) (ad := ad) hcell
        rw [ze_bool] at he
        refine va_zald C.1 C.2.1 C.2.2.2.2.2.1 Z.2.1 r 1 he rfl (zvpin h0 hb) hd ?_
        simp only [zclamp h0]
        exact K
    · cases hh
      exact (zch_0 hc).elim
  · cases hh
    exact (zch_0 hc).elim
theorem zup_eq {f : Nat → Int} {k : Nat} {x : Int} : upd (fun j => Int32.ofInt (f j)) k (Int32.ofInt x) = fun j => Int32.ofInt (if j = k then x else f j) := by
  funext j
  simp only [upd]
  split <;> rfl
theorem so_iast (C : zcx p R s m args meth c mi sc D cI cZ A) (hd : decode (zmC mi) pc = .ok (.iastore, len)) (hk : len = 1) (hh : h_iast len a b2 d z ts pc pl st h = .inl ll) (hc : zch ll q) (G : zG p l e R s m args below meth c Q mi sc b D cI cZ A k0 s0 ad0 q) : zG p l e R s m args below meth c Q mi sc b D cI cZ A k0 s0 ad0 (pc, pl, st, h) := by
  subst hk
  unfold h_iast at hh
  split at hh
  · rename_i x i r st'
    split at hh
    · rename_i c' n hcell
      cases hg : Nat.beq c' 7 with
      | false => rw [hg] at hh; cases hh; exact (zch_0 hc).elim
      | true =>
        rw [hg] at hh
        cases hh
        obtain ⟨hb, rfl⟩ := zch_1 hc
        have e1 : c' = 7 := Nat.eq_of_beq_eq_true hg
        subst e1
        intro ad H locs ls cells slots Z
        obtain ⟨hx, h1⟩ := zok1 (zst_ok Z)
        obtain ⟨h0, h1⟩ := zok1 h1
        obtain ⟨h1, h2⟩ := zok1 h1
        have he := zw_at (cI := cI) (cZ := cZ) (ad := ad) hcell
        rw [ze_int] at he
        refine va_iast C.1 C.2.1 C.2.2.2.2.2.1 Z.2.1 Z.2.2.1 Z.2.2.2.1 r 0 he rfl (zvpin h0 hb) hd (fun H1 locs1 hP hD hS => ?_)
        have es : (zw cI cZ ad h).set r (ad r, .inl (cI, n, .inl (upd (fun j => Int32.ofInt (h.2.1 r j)) (Int32.ofInt i).toNatClampNeg (Int32.ofInt x)))) = zw cI cZ ad (h.1, zs2 h.2.1 r i.toNat x, h.2.2) := by
          refine zw_set hcell rfl ?_ (fun j s' hj => ze_congr (fun i => by simp only [zs2_ne _ _ _ _ hj]) (fun i => rfl))
          rw [ze_int, zclamp h0, zup_eq]
          simp only [zs2_same]
        rw [es] at hP hD
        exact G ad H1 locs1 ls cells slots ⟨zwf_I Z.1 hx, hP, hD, hS, Z.2.2.2.2.1, h2, Z.2.2.2.2.2.2⟩
    · cases hh
      exact (zch_0 hc).elim
  · cases hh
    exact (zch_0 hc).elim
theorem zbb_nar {x : Int} (h : zbb x = true) : vp_nar .boolean (Int32.ofInt x) = Int32.ofInt x ∧ narrow .boolean (.int (Int32.ofInt x)) = .int (Int32.ofInt x) ∧ zin x := by
  have : x = 0 ∨ x = 1 := by simpa [zbb] using h
  rcases this with rfl | rfl
  · exact ⟨by decide +kernel, by decide +kernel, zin_0⟩
  · exact ⟨by decide +kernel, by decide +kernel, ⟨by omega, by omega⟩⟩
theorem so_zast (C : zcx p R s m args meth c mi sc D cI cZ A) (hd : decode (zmC mi) pc = .ok (.bastore, len)) (hk : len = 1) (hh : h_zast len a b2 d z ts pc pl st h = .inl ll) (hc : zch ll q) (G : zG p l e R s m args below meth c Q mi sc b D cI cZ A k0 s0 ad0 q) : zG p l e R s m args below meth c Q mi sc b D cI cZ A k0 s0 ad0 (pc, pl, st, h) := by
  subst hk
  unfold h_zast at hh
  split at hh
  · rename_i x i r st'
    split at hh
    · rename_i c' n hcell
      cases hg : Nat.beq c' 8 with
      | false => rw [hg] at hh; cases hh; exact (zch_0 hc).elim
      | true =>
        rw [hg] at hh
        cases hh
        obtain ⟨hb, rfl⟩ := zch_1 hc
        simp only [Bool.and_eq_true] at hb
        obtain ⟨hb, hbx⟩ := hb
        have e1 : c' = 8 := Nat.eq_of_beq_eq_true hg
        subst e1
        intro ad H locs ls cells slots Z
        obtain ⟨hx, h1⟩ := zok1 (zst_ok Z)
        obtain ⟨h0, h1⟩ := zok1 h1
        obtain ⟨h1, h2⟩ := zok1 h1
        have he := zw_at (cI := cI) (cZ := cZ) (ad := ad) hcell
        rw [ze_bool] at he
        refine va_zast C.1 C.2.1 C.2.2.2.2.2.1 Z.2.1 Z.2.2.1 Z.2.2.2.1 r 1 he rfl (zvpin h0 hb) hd (fun H1 locs1 hP hD hS => ?_)
        have es : (zw cI cZ ad h).set r (ad r, .inl (cZ, n, .inl (upd (fun j => Int32.ofInt (h.2.1 r j)) (Int32.ofInt i).toNatClampNeg (vp_nar .boolean (Int32.ofInt x))))) = zw cI cZ ad (h.1, zs2 h.2.1 r i.toNat x, h.2.2) := by
          refine zw_set hcell rfl ?_ (fun j s' hj => ze_congr (fun i => by simp only [zs2_ne _ _ _ _ hj]) (fun i => rfl))
          rw [ze_bool, zclamp h0, (zbb_nar hbx).1, zup_eq]
          simp only [zs2_same]
        rw [es] at hP hD
        exact G ad H1 locs1 ls cells slots ⟨zwf_I Z.1 hx, hP, hD, hS, Z.2.2.2.2.1, h2, Z.2.2.2.2.2.2⟩
    · cases hh
      exact (zch_0 hc).elim
  · cases hh
    exact (zch_0 hc).elim
theorem so_aln (C : zcx p R s m args meth c mi sc D cI cZ A) (hd : decode (zmC mi) pc = .ok (.arraylength, len)) (hk : len = 1) (hh : h_aln len a b2 d z ts pc pl st h = .inl ll) (hc : zch ll q) (G : zG p l e R s m args below meth c Q mi sc b D cI cZ A k0 s0 ad0 q) : zG p l e R s m args below meth c Q mi sc b D cI cZ A k0 s0 ad0 (pc, pl, st, h) := by
  subst hk
  unfold h_aln at hh
  split at hh
  · rename_i r st'
    split at hh
    · rename_i c' n hcell
      cases hg : (Nat.beq c' 7 || Nat.beq c' 8) with
      | false => rw [hg] at hh; cases hh; exact (zch_0 hc).elim
      | true =>
        rw [hg] at hh
        cases hh
        obtain ⟨-, rfl⟩ := zch_1 hc
        have e1 : c' = 7 ∨ c' = 8 := by
          rcases Bool.or_eq_true_iff.mp hg with q | q
          · exact Or.inl (Nat.eq_of_beq_eq_true q)
          · exact Or.inr (Nat.eq_of_beq_eq_true q)
        intro ad H locs ls cells slots Z
        obtain ⟨h1, h2⟩ := zok1 (zst_ok Z)
        have hn : n < 1000000 := by
          rcases Z.1.2.2.1 r _ hcell with ⟨-, q⟩ | ⟨q, q1, q2⟩
          · exact q
          · exfalso
            have : c' < 7 := vwCl_lt q1
            omega
        have K := G ad H locs ls cells slots (zst_st Z (zok2 (v := .inl (n : Int)) ⟨by omega, by omega⟩ h2))
        have he := zw_at (cI := cI) (cZ := cZ) (ad := ad) hcell
        simp only [List.map_cons, zv, Int32.ofInt_eq_ofNat] at K
        rcases e1 with rfl | rfl
        · rw [ze_int] at he
          exact va_alen C.1 C.2.1 C.2.2.2.2.2.1 Z.2.1 r 0 he (ty := .int) rfl rfl hd K
        · rw [ze_bool] at he
          exact va_alen C.1 C.2.1 C.2.2.2.2.2.1 Z.2.1 r 1 he (ty := .boolean) rfl rfl hd K
    · cases hh
      exact (zch_0 hc).elim
  · cases hh
    exact (zch_0 hc).elim
end HEAP
end
section
/-! a heap only grows; the tables' facts in the form of use -/
def zgr (r : PR) (h : PH) : Prop := ∀ l q, r = .inl l → zch l q → (∃ ext, q.2.2.2.1 = h.1 ++ ext) ∧ q.2.2.2.2.2.2 = h.2.2.2
theorem zgr_ko {h : PH} : zgr pko h := fun l q e hq => by cases e; exact (zch_0 hq).elim
theorem zgr_gi {c : Bool} {pc : Nat} {ls st : List PV} {h h' : PH} (h1 : ∃ ext, h'.1 = h.1 ++ ext) (h2 : h'.2.2.2 = h.2.2.2) : zgr (pgi c pc ls st h') h := fun l q e hq => by
  cases e
  obtain ⟨-, rfl⟩ := zch_1 hq
  exact ⟨h1, h2⟩
theorem zgr_go {pc : Nat} {ls st : List PV} {h h' : PH} (h1 : ∃ ext, h'.1 = h.1 ++ ext) (h2 : h'.2.2.2 = h.2.2.2) : zgr (pgo pc ls st h') h := zgr_gi (c := true) h1 h2
theorem zgr_same {pc : Nat} {ls st : List PV} {h : PH} : zgr (pgo pc ls st h) h := zgr_go ⟨[], by simp⟩ rfl
theorem zgr_br {c : Bool} {pc pc2 : Nat} {ls st : List PV} {h : PH} : zgr (pbr c pc pc2 ls st h) h := fun l q e hq => by
  cases e
  rcases zch_2 hq with ⟨-, rfl⟩ | ⟨-, rfl⟩ <;> exact ⟨⟨[], by simp⟩, rfl⟩
theorem zgr_cond {c : Bool} {x y : PR} {h : PH} (h1 : zgr x h) (h2 : zgr y h) : zgr (cond c x y) h := by cases c <;> assumption
theorem zgr_r {x : (Bool × Option PV) ⊕ (Nat × List PV × List PV)} {h : PH} : zgr (.inr x) h := fun l q e => by cases e
theorem zgr_all : ∀ f ∈ ptab, ∀ len a b d z ts pc ls st h, zgr (f len a b d z ts pc ls st h) h := by
  have hbin : ∀ g len a b d z ts pc ls st h, zgr (h_bin g len a b d z ts pc ls st h) h := by
    intro g len a b d z ts pc ls st h; unfold h_bin; split <;> first | exact zgr_same | exact zgr_ko
  have hald : ∀ g len a b d z ts pc ls st h, zgr (h_ald g len a b d z ts pc ls st h) h := by
    intro g len a b d z ts pc ls st h; unfold h_ald; repeat' split
    all_goals first | exact zgr_ko | exact zgr_cond (zgr_gi ⟨[], by simp⟩ rfl) zgr_ko
  have hinv : ∀ g len a b d z ts pc ls st h, zgr (h_inv g len a b d z ts pc ls st h) h := by
    intro g len a b d z ts pc ls st h; unfold h_inv; apply zgr_cond _ zgr_ko; repeat' split
    all_goals first | exact zgr_ko | exact zgr_r | exact zgr_cond zgr_r zgr_ko
  have hbin0 : ∀ g len a b d z ts pc ls st h, zgr (h_bin0 g len a b d z ts pc ls st h) h := by
    intro g len a b d z ts pc ls st h; unfold h_bin0; split <;> first | exact zgr_gi ⟨[], by simp⟩ rfl | exact zgr_ko
  have hcm : ∀ c x y pc1 pc2 ls st h, zgr (zcm c x y pc1 pc2 ls st h) h := by
    intro c x y pc1 pc2 ls st h; unfold zcm; split <;> first | exact zgr_br | exact zgr_ko
  intro f hf
  simp only [ptab, List.mem_cons, List.not_mem_nil, or_false] at hf
  rcases hf with rfl | rfl | rfl | rfl | rfl | rfl | rfl | rfl | rfl | rfl | rfl | rfl | rfl | rfl | rfl | rfl | rfl | rfl | rfl | rfl | rfl | rfl | rfl | rfl | rfl | rfl | rfl | rfl | rfl | rfl | rfl | rfl | rfl | rfl | rfl | rfl | rfl | rfl | rfl | rfl | rfl | rfl | rfl | rfl | rfl | rfl | rfl | rfl | rfl | rfl | rfl <;> intro len a b d z ts pc ls st h
  · exact zgr_ko
  · unfold h_ilo; split <;> first | exact zgr_same | exact zgr_ko
  · unfold h_alo; split <;> first | exact zgr_same | exact zgr_ko
  · unfold h_ist; split <;> first | exact zgr_cond zgr_same zgr_ko | exact zgr_ko
  · unfold h_ast; split <;> first | exact zgr_cond zgr_same zgr_ko | exact zgr_ko
  · exact zgr_same
  · exact zgr_same
  · unfold h_gfi; repeat' split
    all_goals first | exact zgr_ko | exact zgr_cond zgr_same zgr_ko
  · unfold h_gfr; repeat' split
    all_goals first | exact zgr_ko | exact zgr_cond zgr_same zgr_ko
  · unfold h_pfi; repeat' split
    all_goals first | exact zgr_ko | exact zgr_cond (zgr_go ⟨[], by simp⟩ rfl) zgr_ko
  · unfold h_pfr; repeat' split
    all_goals first | exact zgr_ko | exact zgr_cond (zgr_go ⟨[], by simp⟩ rfl) zgr_ko
  · exact hald _ _ _ _ _ _ _ _ _ _ _
  · unfold h_iast; repeat' split
    all_goals first | exact zgr_ko | exact zgr_cond (zgr_gi ⟨[], by simp⟩ rfl) zgr_ko
  · exact hald _ _ _ _ _ _ _ _ _ _ _
  · unfold h_zast; repeat' split
    all_goals first | exact zgr_ko | exact zgr_cond (zgr_gi ⟨[], by simp⟩ rfl) zgr_ko
  · unfold h_aln; repeat' split
    all_goals first | exact zgr_ko | exact zgr_cond zgr_same zgr_ko
  · exact hbin _ _ _ _ _ _ _ _ _ _ _
  · exact hbin _ _ _ _ _ _ _ _ _ _ _
  · exact hbin _ _ _ _ _ _ _ _ _ _ _
  · exact hbin0 _ _ _ _ _ _ _ _ _ _ _
  · exact hbin0 _ _ _ _ _ _ _ _ _ _ _
  · exact hbin _ _ _ _ _ _ _ _ _ _ _
  · exact hbin _ _ _ _ _ _ _ _ _ _ _
  · exact hbin _ _ _ _ _ _ _ _ _ _ _
  · exact hbin _ _ _ _ _ _ _ _ _ _ _
  · exact hbin _ _ _ _ _ _ _ _ _ _ _
  · exact hbin _ _ _ _ _ _ _ _ _ _ _
  · unfold h_inc; split <;> first | exact zgr_same | exact zgr_ko
  · exact zgr_same
  · unfold h_ifc; split <;> first | exact hcm _ _ _ _ _ _ _ _ | exact zgr_ko
  · unfold h_icm; split <;> first | exact hcm _ _ _ _ _ _ _ _ | exact zgr_ko
  · unfold h_ifn; split <;> first | exact zgr_same | exact zgr_ko
  · unfold h_inn; split <;> first | exact zgr_same | exact zgr_ko
  · unfold h_acn; split <;> first | exact zgr_br | exact zgr_ko
  · unfold h_tsw; split
    · rename_i x st'
      intro l q e hq
      cases e
      obtain ⟨l1, l2, e1, -⟩ := hq
      have hm : (true, q) ∈ ts.zipIdx.map (fun q => (decide (x = (q.2 : Int)), ((q.1, ls, st', h) : PT))) ++ [(true, (d, ls, st', h))] := by rw [e1]; simp
      rcases List.mem_append.mp hm with hm | hm
      · obtain ⟨w, -, hw⟩ := List.mem_map.mp hm
        have := congrArg Prod.snd hw
        simp only at this
        rw [← this]
        exact ⟨⟨[], by simp⟩, rfl⟩
      · have : q = (d, ls, st', h) := by simpa using hm
        rw [this]
        exact ⟨⟨[], by simp⟩, rfl⟩
    · exact zgr_ko
  · unfold h_nar; split
    · exact zgr_gi ⟨_, rfl⟩ rfl
    · exact zgr_ko
  · exact zgr_go ⟨_, rfl⟩ rfl
  · unfold h_dup; split <;> first | exact zgr_same | exact zgr_ko
  · unfold h_du2; split <;> first | exact zgr_same | exact zgr_ko
  · unfold h_pop; split <;> first | exact zgr_same | exact zgr_ko
  · exact hinv _ _ _ _ _ _ _ _ _ _ _
  · unfold h_irt; split <;> first | exact zgr_r | exact zgr_ko
  · unfold h_zrt; split <;> first | exact zgr_r | exact zgr_ko
  · unfold h_art; split <;> first | exact zgr_r | exact zgr_ko
  · unfold h_vrt; split <;> first | exact zgr_r | exact zgr_ko
  · unfold h_oin; split <;> first | exact zgr_cond zgr_same zgr_ko | exact zgr_ko
  · unfold h_sln; split <;> first | exact zgr_same | exact zgr_ko
  · unfold h_sld; split <;> first | exact zgr_gi ⟨[], by simp⟩ rfl | exact zgr_ko
  · exact hinv _ _ _ _ _ _ _ _ _ _ _
  · exact hinv _ _ _ _ _ _ _ _ _ _ _
  · exact hinv _ _ _ _ _ _ _ _ _ _ _
theorem zgr_st {m pc : Nat} {ls st : List PV} {h : PH} : zgr (pst m pc ls st h) h := by
  unfold pst
  split
  · exact zgr_ko
  · split
    · split
      · rename_i f hf; exact zgr_all f (List.mem_of_getElem? hf) _ _ _ _ _ _ _ _ _ _
      · exact zgr_ko
    · exact zgr_ko
theorem pex_gr : ∀ (n m : Nat) (t : PT) (v : Option PV × PH), pex n m t = some v → (∃ ext, v.2.1 = t.2.2.2.1 ++ ext) ∧ v.2.2.2.2 = t.2.2.2.2.2.2 := by
  intro n
  induction n with
  | zero => intro m t v h; cases h
  | succ n ih =>
    intro m t v h
    unfold pex at h
    split at h
    · rename_i l hl
      obtain ⟨q, hq, hv⟩ := zch_of h
      obtain ⟨⟨e1, h1⟩, h2⟩ := zgr_st l q hl hq
      obtain ⟨⟨e2, h3⟩, h4⟩ := ih m q v hv
      exact ⟨⟨e1 ++ e2, by rw [h3, h1, List.append_assoc]⟩, h4.trans h2⟩
    · rename_i c r hl
      cases c with
      | true => cases h; exact ⟨⟨[], by simp⟩, rfl⟩
      | false => cases h
    · rename_i m' as rest hl
      obtain ⟨w, hw, hv⟩ := Option.bind_eq_some_iff.mp h
      obtain ⟨⟨e1, h1⟩, h2⟩ := ih _ _ _ hw
      obtain ⟨⟨e2, h3⟩, h4⟩ := ih _ _ _ hv
      exact ⟨⟨e1 ++ e2, by rw [h3]; simp only; rw [h1, List.append_assoc]⟩, by rw [h4]; exact h2⟩
theorem zsz_app (a b : List (Nat × Nat)) : zsz (a ++ b) = zsz a + zsz b := by simp [zsz]
-- the words of a method
theorem WS_good {w : Jvm.Cond} (h : w ∈ WS) : goodWord w = true := (List.mem_filter.mp h).2
theorem WS_ok {w : Jvm.Cond} (h : w ∈ WS) : (w.onTables && w.keeps) = true ∨ ∃ ty, w = .arrayClass ty := good_of_word (WS_good h)
theorem zcode_of {i : Nat} {y : MethodName} {bs : ByteArray} {k : Nat} {r : Option FieldType} (h : lw_tbl[i]? = some (.code y bs k r)) : Jvm.Cond.code y bs k r ∈ WS := List.mem_filter.mpr ⟨List.mem_of_getElem? h, rfl⟩
theorem zmB_use {m : Nat} (hm : m < 172) : ∃ i, zmB m i = true := by
  by_cases h0 : m < 43
  · exact ⟨_, List.all_eq_true.mp zmB_0 m (List.mem_range.mpr h0)⟩
  by_cases h1 : m < 86
  · have := List.all_eq_true.mp zmB_43 (m - 43) (List.mem_range.mpr (by omega))
    rw [Nat.sub_add_cancel (by omega)] at this
    exact ⟨_, this⟩
  by_cases h2 : m < 129
  · have := List.all_eq_true.mp zmB_86 (m - 86) (List.mem_range.mpr (by omega))
    rw [Nat.sub_add_cancel (by omega)] at this
    exact ⟨_, this⟩
  · have := List.all_eq_true.mp zmB_129 (m - 129) (List.mem_range.mpr (by omega))
    rw [Nat.sub_add_cancel (by omega)] at this
    exact ⟨_, this⟩
theorem mlk_use {o d a : Nat} (h : mlk.contains (o, d, a) = true) : Jvm.Cond.methodLink (zwn o) d (zmY a) ∈ WS := by
  have hm : (o, d, a) ∈ mlk := by simpa using h
  obtain ⟨i, hi⟩ := zip_in (b := mlkP) (by decide +kernel) hm
  exact zAt_mem (List.all_eq_true.mp mlk_ok _ hi)
theorem klk_use {o d : Nat} {z : Int} (h : klk.contains (o, d, z) = true) : Jvm.Cond.constant (zwn o) d (Int32.ofInt z) ∈ WS := by
  have hm : (o, d, z) ∈ klk := by simpa using h
  obtain ⟨i, hi⟩ := zip_in (b := klkP) (by decide +kernel) hm
  exact zAt_mem (List.all_eq_true.mp klk_ok _ hi)
theorem olk_use {o d : Nat} (h : olk.contains (o, d) = true) : Jvm.Cond.methodLink (zwn o) d Lib.objectInit ∈ WS := by
  have hm : (o, d) ∈ olk := by simpa using h
  obtain ⟨i, hi⟩ := zip_in (b := olkP) (by decide +kernel) hm
  exact zAt_mem (List.all_eq_true.mp olk_ok _ hi)
theorem clk_use {o d a : Nat} (h : clk.contains (o, d, a) = true) : ∃ (C : String) (T : u_T) (N : Nat), vwCl[a]? = some (C, T, N) ∧ Jvm.Cond.classLink (zwn o) d C ∈ WS ∧ Jvm.Cond.instantiable C N ∈ WS ∧ Jvm.Cond.initialized C ∈ WS := by
  have hm : (o, d, a) ∈ clk := by simpa using h
  obtain ⟨i, hi⟩ := zip_in (b := clkP) (by decide +kernel) hm
  have hB := List.all_eq_true.mp clk_ok _ hi
  simp only [clkB] at hB
  split at hB
  · rename_i C T N hq
    simp only [Bool.and_eq_true] at hB
    exact ⟨C, T, N, hq, zAt_mem hB.1.1, zAt_mem hB.1.2, zAt_mem hB.2⟩
  · cases hB
theorem zcw_all : ∀ m, m < 172 → Jvm.Cond.code (zmY m) (zmC m) (zmN m) (zmR m) ∈ WS := fun m hm => match m, hm with
  | 0, _ => zcode_of zcw_0
  | 1, _ => zcode_of zcw_1
  | 2, _ => zcode_of zcw_2
  | 3, _ => zcode_of zcw_3
  | 4, _ => zcode_of zcw_4
  | 5, _ => zcode_of zcw_5
  | 6, _ => zcode_of zcw_6
  | 7, _ => zcode_of zcw_7
  | 8, _ => zcode_of zcw_8
  | 9, _ => zcode_of zcw_9
  | 10, _ => zcode_of zcw_10
  | 11, _ => zcode_of zcw_11
  | 12, _ => zcode_of zcw_12
  | 13, _ => zcode_of zcw_13
  | 14, _ => zcode_of zcw_14
  | 15, _ => zcode_of zcw_15
  | 16, _ => zcode_of zcw_16
  | 17, _ => zcode_of zcw_17
  | 18, _ => zcode_of zcw_18
  | 19, _ => zcode_of zcw_19
  | 20, _ => zcode_of zcw_20
  | 21, _ => zcode_of zcw_21
  | 22, _ => zcode_of zcw_22
  | 23, _ => zcode_of zcw_23
  | 24, _ => zcode_of zcw_24
  | 25, _ => zcode_of zcw_25
  | 26, _ => zcode_of zcw_26
  | 27, _ => zcode_of zcw_27
  | 28, _ => zcode_of zcw_28
  | 29, _ => zcode_of zcw_29
  | 30, _ => zcode_of zcw_30
  | 31, _ => zcode_of zcw_31
  | 32, _ => zcode_of zcw_32
  | 33, _ => zcode_of zcw_33
  | 34, _ => zcode_of zcw_34
  | 35, _ => zcode_of zcw_35
  | 36, _ => zcode_of zcw_36
  | 37, _ => zcode_of zcw_37
  | 38, _ => zcode_of zcw_38
  | 39, _ => zcode_of zcw_39
  | 40, _ => zcode_of zcw_40
  | 41, _ => zcode_of zcw_41
  | 42, _ => zcode_of zcw_42
  | 43, _ => zcode_of zcw_43
  | 44, _ => zcode_of zcw_44
  | 45, _ => zcode_of zcw_45
  | 46, _ => zcode_of zcw_46
  | 47, _ => zcode_of zcw_47
  | 48, _ => zcode_of zcw_48
  | 49, _ => zcode_of zcw_49
  | 50, _ => zcode_of zcw_50
  | 51, _ => zcode_of zcw_51
  | 52, _ => zcode_of zcw_52
  | 53, _ => zcode_of zcw_53
  | 54, _ => zcode_of zcw_54
  | 55, _ => zcode_of zcw_55
  | 56, _ => zcode_of zcw_56
  | 57, _ => zcode_of zcw_57
  | 58, _ => zcode_of zcw_58
  | 59, _ => zcode_of zcw_59
  | 60, _ => zcode_of zcw_60
  | 61, _ => zcode_of zcw_61
  | 62, _ => zcode_of zcw_62
  | 63, _ => zcode_of zcw_63
  | 64, _ => zcode_of zcw_64
  | 65, _ => zcode_of zcw_65
  | 66, _ => zcode_of zcw_66
  | 67, _ => zcode_of zcw_67
  | 68, _ => zcode_of zcw_68
  | 69, _ => zcode_of zcw_69
  | 70, _ => zcode_of zcw_70
  | 71, _ => zcode_of zcw_71
  | 72, _ => zcode_of zcw_72
  | 73, _ => zcode_of zcw_73
  | 74, _ => zcode_of zcw_74
  | 75, _ => zcode_of zcw_75
  | 76, _ => zcode_of zcw_76
  | 77, _ => zcode_of zcw_77
  | 78, _ => zcode_of zcw_78
  | 79, _ => zcode_of zcw_79
  | 80, _ => zcode_of zcw_80
  | 81, _ => zcode_of zcw_81
  | 82, _ => zcode_of zcw_82
  | 83, _ => zcode_of zcw_83
  | 84, _ => zcode_of zcw_84
  | 85, _ => zcode_of zcw_85
  | 86, _ => zcode_of zcw_86
  | 87, _ => zcode_of zcw_87
  | 88, _ => zcode_of zcw_88
  | 89, _ => zcode_of zcw_89
  | 90, _ => zcode_of zcw_90
  | 91, _ => zcode_of zcw_91
  | 92, _ => zcode_of zcw_92
  | 93, _ => zcode_of zcw_93
  | 94, _ => zcode_of zcw_94
  | 95, _ => zcode_of zcw_95
  | 96, _ => zcode_of zcw_96
  | 97, _ => zcode_of zcw_97
  | 98, _ => zcode_of zcw_98
  | 99, _ => zcode_of zcw_99
  | 100, _ => zcode_of zcw_100
  | 101, _ => zcode_of zcw_101
  | 102, _ => zcode_of zcw_102
  | 103, _ => zcode_of zcw_103
  | 104, _ => zcode_of zcw_104
  | 105, _ => zcode_of zcw_105
  | 106, _ => zcode_of zcw_106
  | 107, _ => zcode_of zcw_107
  | 108, _ => zcode_of zcw_108
  | 109, _ => zcode_of zcw_109
  | 110, _ => zcode_of zcw_110
  | 111, _ => zcode_of zcw_111
  | 112, _ => zcode_of zcw_112
  | 113, _ => zcode_of zcw_113
  | 114, _ => zcode_of zcw_114
  | 115, _ => zcode_of zcw_115
  | 116, _ => zcode_of zcw_116
  | 117, _ => zcode_of zcw_117
  | 118, _ => zcode_of zcw_118
  | 119, _ => zcode_of zcw_119
  | 120, _ => zcode_of zcw_120
  | 121, _ => zcode_of zcw_121
  | 122, _ => zcode_of zcw_122
  | 123, _ => zcode_of zcw_123
  | 124, _ => zcode_of zcw_124
  | 125, _ => zcode_of zcw_125
  | 126, _ => zcode_of zcw_126
  | 127, _ => zcode_of zcw_127
  | 128, _ => zcode_of zcw_128
  | 129, _ => zcode_of zcw_129
  | 130, _ => zcode_of zcw_130
  | 131, _ => zcode_of zcw_131
  | 132, _ => zcode_of zcw_132
  | 133, _ => zcode_of zcw_133
  | 134, _ => zcode_of zcw_134
  | 135, _ => zcode_of zcw_135
  | 136, _ => zcode_of zcw_136
  | 137, _ => zcode_of zcw_137
  | 138, _ => zcode_of zcw_138
  | 139, _ => zcode_of zcw_139
  | 140, _ => zcode_of zcw_140
  | 141, _ => zcode_of zcw_141
  | 142, _ => zcode_of zcw_142
  | 143, _ => zcode_of zcw_143
  | 144, _ => zcode_of zcw_144
  | 145, _ => zcode_of zcw_145
  | 146, _ => zcode_of zcw_146
  | 147, _ => zcode_of zcw_147
  | 148, _ => zcode_of zcw_148
  | 149, _ => zcode_of zcw_149
  | 150, _ => zcode_of zcw_150
  | 151, _ => zcode_of zcw_151
  | 152, _ => zcode_of zcw_152
  | 153, _ => zcode_of zcw_153
  | 154, _ => zcode_of zcw_154
  | 155, _ => zcode_of zcw_155
  | 156, _ => zcode_of zcw_156
  | 157, _ => zcode_of zcw_157
  | 158, _ => zcode_of zcw_158
  | 159, _ => zcode_of zcw_159
  | 160, _ => zcode_of zcw_160
  | 161, _ => zcode_of zcw_161
  | 162, _ => zcode_of zcw_162
  | 163, _ => zcode_of zcw_163
  | 164, _ => zcode_of zcw_164
  | 165, _ => zcode_of zcw_165
  | 166, _ => zcode_of zcw_166
  | 167, _ => zcode_of zcw_167
  | 168, _ => zcode_of zcw_168
  | 169, _ => zcode_of zcw_169
  | 170, _ => zcode_of zcw_170
  | 171, _ => zcode_of zcw_171
  | n + 172, h => absurd h (by omega)
end
section
/-! making, returning, calling -/
theorem zw_push {cI cZ : ClassId} {ad ad' : Nat → Nat} {h h' : PH} {sh : Nat × Nat} {q : Nat} (W : zwf h) (h1 : h'.1 = h.1 ++ [sh]) (had : ∀ k, k < h.1.length → ad' k = ad k) (hq : ad' h.1.length = q)
    (hI : ∀ k, k < h.1.length → ∀ i, h'.2.1 k i = h.2.1 k i) (hP : ∀ k, k < h.1.length → ∀ i, h'.2.2.1 k i = h.2.2.1 k i) : zw cI cZ ad' h' = zw cI cZ ad h ++ [(q, ze cI cZ ad' h' h.1.length sh)] := by
  have hl : (zw cI cZ ad h).length = h.1.length := by simp [zw]
  apply List.ext_getElem?
  intro i
  rw [zw_get, h1]
  by_cases hi : i < h.1.length
  · rw [List.getElem?_append_left hi, List.getElem?_append_left (by omega), zw_get]
    cases hs : h.1[i]? with
    | none => rfl
    | some s =>
      simp only [Option.map_some]
      rw [had i hi, ze_congr (hI i hi) (fun j => ?_)]
      rw [hP i hi j]
      cases hr : h.2.2.1 i j with
      | none => rfl
      | some r => simp only [Option.map_some]; rw [had r (W.2.1 _ _ _ hr)]
  · by_cases hi2 : i = h.1.length
    · subst hi2
      rw [List.getElem?_append_right (Nat.le_refl _), List.getElem?_append_right (by omega), hl]
      simp [hq]
    · rw [List.getElem?_append_right (by omega), List.getElem?_append_right (by omega), hl]
      have : 1 ≤ i - h.1.length := by omega
      rw [List.getElem?_eq_none (by simpa using this), List.getElem?_eq_none (by simpa using this)]
      rfl
theorem zmap_ad {sc : Prop} {n b : Nat} {ad ad' : Nat → Nat} {st : List PV} (h : ∀ v ∈ st, zok sc n v) (hd : ∀ k, k < n → ad' k = ad k) : st.map (zv b ad') = st.map (zv b ad) :=
  List.map_congr_left fun v hv => zv_ad (h v hv) hd
theorem zok_plain {sc : Prop} {n : Nat} {v : PV} (h : zok sc n v) (hp : zpl v = true) : zok False n v := by
  match v, h, hp with
  | .inl z, h, _ => exact h
  | .inr (.inl none), _, _ => trivial
  | .inr (.inl (some k)), h, _ => exact h
theorem zok_sc {sc : Prop} {n : Nat} {v : PV} (h : zok False n v) : zok sc n v := by
  match v, h with
  | .inl z, h => exact h
  | .inr (.inl none), _ => trivial
  | .inr (.inl (some k)), h => exact h
section MAKE
variable {p : Program} {l : Launch} {e : Env} {R : Room} {s : State} {m : MethodId} {args : Array Value} {below : List Frame} {meth : Method} {c : Code} {Q : State → Prop}
variable {mi : Nat} {sc : Prop} {b : Nat} {D : va_G} {cI cZ : ClassId} {A : Nat → Prop} {k0 s0 : Nat} {ad0 : Nat → Nat}
variable {len a b2 d : Nat} {z : Int} {ts : List Nat} {pc : Nat} {pl st : List PV} {h : PH} {q : PT} {ll : List (Bool × PT)}
theorem so_oin (C : zcx p R s m args meth c mi sc D cI cZ A) (hd : decode (zmC mi) pc = .ok (.invokespecial d, len)) (hk : len = 3) (ho : olk.contains (zmO mi, d) = true) (hf : 1 ≤ zmF mi) (hl : 20 ≤ zmL mi) (hh : h_oin len a b2 d z ts pc pl st h = .inl ll) (hc : zch ll q) (G : zG p l e R s m args below meth c Q mi sc b D cI cZ A k0 s0 ad0 q) : zG p l e R s m args below meth c Q mi sc b D cI cZ A k0 s0 ad0 (pc, pl, st, h) := by
  subst hk
  unfold h_oin at hh
  split at hh
  · rename_i r st'
    cases hg : Nat.blt st'.length 9 with
    | false => rw [hg] at hh; cases hh; exact (zch_0 hc).elim
    | true =>
      rw [hg] at hh
      cases hh
      obtain ⟨-, rfl⟩ := zch_1 hc
      have hg : st'.length < 9 := Nat.ble_eq.mp hg
      intro ad H locs ls cells slots Z
      have K := G ad H locs ls cells slots (zst_st Z (zok1 (zst_ok Z)).2)
      have hrm := lv_room (m := m) (pc := pc) (ls := ls) (rest := Value.ref (ad r) :: st'.map (zv b ad)) (st := st'.map (zv b ad)) (by rw [zcats]; omega)
      exact W.objInit C.1 C.2.1 C.2.2.2.1 (C.2.2.2.2.1 _ (olk_use ho)) (C.2.2.2.2.1 _ (zAt_mem zwOI)) (C.2.2.2.2.1 _ (zAt_mem zwOC)) (g := F0 m pc ls (Value.ref (ad r) :: st'.map (zv b ad))) rfl ((zst_ls Z).1.trans C.2.2.1.symm) rfl hd
        (Nat.le_trans hf C.2.2.2.2.2.2.2.2.2.1) (by have := C.2.2.2.2.2.2.2.2.2.2.1; omega) K
  · cases hh
    exact (zch_0 hc).elim
theorem so_nar (C : zcx p R s m args meth c mi sc D cI cZ A) (hd : decode (zmC mi) pc = .ok (.newarray (if a = 7 then .int else .boolean), len)) (hk : len = 2) (ha : a = 7 ∨ a = 8) (hh : h_nar len a b2 d z ts pc pl st h = .inl ll) (hc : zch ll q) (hroom : q.2.2.2.1.length ≤ R.cells + k0 ∧ zsz q.2.2.2.1 ≤ R.slots + s0) (G : zG p l e R s m args below meth c Q mi sc b D cI cZ A k0 s0 ad0 q) : zG p l e R s m args below meth c Q mi sc b D cI cZ A k0 s0 ad0 (pc, pl, st, h) := by
  subst hk
  unfold h_nar at hh
  split at hh
  · rename_i n st'
    cases hh
    obtain ⟨hb, rfl⟩ := zch_1 hc
    simp only [Bool.and_eq_true, decide_eq_true_eq] at hb
    simp only [List.length_append, List.length_singleton, zsz_app] at hroom
    intro ad H locs ls cells slots Z
    obtain ⟨h0, h2⟩ := zok1 (zst_ok Z)
    have h0 : zin n := h0
    have e0 : (Int32.ofInt n).toNatClampNeg = n.toNat := zclamp h0
    have ec := Z.2.2.2.2.2.2.1
    have eS := Z.2.2.2.2.2.2.2.1
    simp only at ec eS
    have es : zsz [(a, n.toNat)] = n.toNat := by simp [zsz]
    have hneg : ¬ Int32.ofInt n < 0 := fun q => by have := (zilt h0 zin_0).mp q; omega
    have main : ∀ (ty : FieldType) (cA : ClassId) (q : Nat) (H1 : Heap), (∀ h' ad', h'.1 = h.1 ++ [(a, n.toNat)] → (∀ i, h'.2.1 h.1.length i = 0) → ze cI cZ ad' h' h.1.length (a, n.toNat) = .inl (cA, n.toNat, .inl (fun _ => 0))) →
        va_P D vwCl (zw cI cZ ad h ++ [(q, .inl (cA, n.toNat, .inl (fun _ => 0)))]) H1 → va_D A (zw cI cZ ad h ++ [(q, .inl (cA, n.toNat, .inl (fun _ => 0)))]) → va_S A s.heap H1 locs →
        W p l e R s m args below meth c H1 locs (cells + 1) (slots + n.toNat) Q (F0 m (pc + 2) ls (.ref q :: st'.map (zv b ad))) := by
      intro ty cA q H1 hze hP hD hS
      have had : ∀ k, k < h.1.length → (fun k => if k = h.1.length then q else ad k) k = ad k := fun k hk => by simp only; rw [if_neg (by omega)]
      have hI : ∀ k, k < h.1.length → ∀ i, (fun i => if i = h.1.length then (fun _ => (0 : Int)) else h.2.1 i) k i = h.2.1 k i := fun k hk i => by simp only; rw [if_neg (by omega)]
      have ew := zw_push (cI := cI) (cZ := cZ) (ad := ad) (ad' := fun k => if k = h.1.length then q else ad k) (h := h) (h' := (h.1 ++ [(a, n.toNat)], (fun i => if i = h.1.length then (fun _ => 0) else h.2.1 i), h.2.2)) (sh := (a, n.toNat)) (q := q) Z.1 rfl had (by simp) hI (fun k hk i => rfl)
      rw [hze _ _ rfl (fun i => by simp)] at ew
      rw [← ew] at hP hD
      have hwf : zwf (h.1 ++ [(a, n.toNat)], (fun i => if i = h.1.length then (fun _ => 0) else h.2.1 i), h.2.2) := by
        refine ⟨fun i j => ?_, fun i j r hr => ?_, fun k sh hk => ?_, Z.1.2.2.2⟩
        · show zin ((if i = h.1.length then (fun _ => 0) else h.2.1 i) j)
          split
          · exact zin_0
          · exact Z.1.1 _ _
        · have := Z.1.2.1 _ _ _ hr
          show r < (h.1 ++ [(a, n.toNat)]).length
          simp
          simp only at this
          omega
        · rcases List.mem_append.mp (List.mem_of_getElem? hk) with hm | hm
          · obtain ⟨k2, hk2⟩ := List.getElem?_of_mem hm
            exact Z.1.2.2.1 k2 sh hk2
          · have : sh = (a, n.toNat) := by simpa using hm
            subst this
            exact Or.inl ⟨ha, by simp only; omega⟩
      have K := G (fun k => if k = h.1.length then q else ad k) H1 locs ls (cells + 1) (slots + n.toNat) ⟨hwf, hP, hD, hS, zls_ad (zst_ls Z) (by simp) had, zok2 (v := .inr (.inl (some h.1.length))) (by show h.1.length < (h.1 ++ [(a, n.toNat)]).length; simp) (fun v hv => zok_mono (by simp) (h2 v hv)), by show cells + 1 + k0 = (h.1 ++ [(a, n.toNat)]).length; simp; omega, by show slots + n.toNat + s0 = zsz (h.1 ++ [(a, n.toNat)]); rw [zsz_app, es]; omega, fun k hk => by rw [had k (by omega)]; exact Z.2.2.2.2.2.2.2.2.1 k hk, Z.2.2.2.2.2.2.2.2.2⟩
      simp only [List.map_cons, zv, Option.map_some, if_true, va_rf] at K
      rw [zmap_ad h2 had] at K
      exact K
    have hA := C.2.2.2.2.2.2.1
    rcases ha with rfl | rfl
    · refine va_newa (atype := .int) (ty := .int) (N' := n.toNat) (a0 := (n.toNat, .inl (fun _ => 0))) C.1 C.2.1 (C.2.2.2.2.1 _ (zAt_mem zwAI)) rfl C.2.2.2.2.2.1 Z.2.1 Z.2.2.1 Z.2.2.2.1 hA (fun cA => rfl) hneg e0 (by show n.toNat * 4 ≤ _; omega) (by omega) (by omega) hd (fun q cA H1 hK hP hD hS => ?_)
      have e1 : cA = cI := by
        have g1 : s.vm.findClass ("[" ++ FieldType.int.toString) = some cA := (hK.2 2 _ rfl).2
        have g2 : s.vm.findClass ("[" ++ FieldType.int.toString) = some cI := (hK.2 0 _ rfl).2
        exact Option.some.inj (g1.symm.trans g2)
      subst e1
      exact main .int cA q H1 (fun h' ad' _ hz => by rw [ze_int]; simp only [hz]; rfl) hP hD hS
    · refine va_newa (atype := .boolean) (ty := .boolean) (N' := n.toNat) (a0 := (n.toNat, .inl (fun _ => 0))) C.1 C.2.1 (C.2.2.2.2.1 _ (zAt_mem zwAZ)) rfl C.2.2.2.2.2.1 Z.2.1 Z.2.2.1 Z.2.2.2.1 hA (fun cA => rfl) hneg e0 (by show n.toNat * 1 ≤ _; omega) (by omega) (by omega) hd (fun q cA H1 hK hP hD hS => ?_)
      have e1 : cA = cZ := by
        have g1 : s.vm.findClass ("[" ++ FieldType.boolean.toString) = some cA := (hK.2 2 _ rfl).2
        have g2 : s.vm.findClass ("[" ++ FieldType.boolean.toString) = some cZ := (hK.2 1 _ rfl).2
        exact Option.some.inj (g1.symm.trans g2)
      subst e1
      exact main .boolean cA q H1 (fun h' ad' _ hz => by rw [ze_bool]; simp only [hz]; rfl) hP hD hS
  · cases hh
    exact (zch_0 hc).elim
theorem so_new (C : zcx p R s m args meth c mi sc D cI cZ A) (hd : decode (zmC mi) pc = .ok (.new d, len)) (hk : len = 3) (hcl : clk.contains (zmO mi, d, a) = true) (hb2 : ∀ q, vwCl[a]? = some q → q.2.2 = b2) (hh : h_new len a b2 d z ts pc pl st h = .inl ll) (hc : zch ll q) (hroom : q.2.2.2.1.length ≤ R.cells + k0 ∧ zsz q.2.2.2.1 ≤ R.slots + s0) (G : zG p l e R s m args below meth c Q mi sc b D cI cZ A k0 s0 ad0 q) : zG p l e R s m args below meth c Q mi sc b D cI cZ A k0 s0 ad0 (pc, pl, st, h) := by
  subst hk
  cases hh
  obtain ⟨-, rfl⟩ := zch_1 hc
  obtain ⟨Cn, T, N, hv, hw1, hw2, hw3⟩ := clk_use hcl
  have eN : N = b2 := hb2 _ hv
  subst eN
  simp only [List.length_append, List.length_singleton, zsz_app] at hroom
  intro ad H locs ls cells slots Z
  have h2 := zst_ok Z
  have ec := Z.2.2.2.2.2.2.1
  have eS := Z.2.2.2.2.2.2.2.1
  simp only at ec eS
  have es : zsz [(a, N)] = N := by simp [zsz]
  obtain ⟨hin, ty0, hty0, -, hdef⟩ := zcl_ok a _ hv
  have hA := C.2.2.2.2.2.2.1
  refine va_new (ci := a) (fs := (List.range N).map (fun j => if zfr a j = true then Value.null else .int 0)) C.1 C.2.1 (Ts := WS) C.2.2.2.2.1 hin ty0 hty0 C.2.2.2.1 (C.2.2.2.2.1 _ hw1) (C.2.2.2.2.1 _ hw2) (C.2.2.2.2.1 _ hw3) C.2.2.2.2.2.1 Z.2.1 Z.2.2.1 Z.2.2.2.1 hA hv (fun j hj => by rw [hdef j hj]; simp [vp_V, hj]) (by omega) (by show slots + N ≤ R.slots; omega) hd (fun q H1 hP hD hS => ?_)
  have had : ∀ k, k < h.1.length → (fun k => if k = h.1.length then q else ad k) k = ad k := fun k hk => by simp only; rw [if_neg (by omega)]
  have ew := zw_push (cI := cI) (cZ := cZ) (ad := ad) (ad' := fun k => if k = h.1.length then q else ad k) (h := h) (h' := (h.1 ++ [(a, N)], (fun i => if i = h.1.length then (fun _ => 0) else h.2.1 i), (fun i => if i = h.1.length then (fun _ => none) else h.2.2.1 i), h.2.2.2)) (sh := (a, N)) (q := q) Z.1 rfl had (by simp) (fun k hk i => by simp only; rw [if_neg (by omega)]) (fun k hk i => by simp only; rw [if_neg (by omega)])
  have hze : ze cI cZ (fun k => if k = h.1.length then q else ad k) (h.1 ++ [(a, N)], (fun i => if i = h.1.length then (fun _ => 0) else h.2.1 i), (fun i => if i = h.1.length then (fun _ => none) else h.2.2.1 i), h.2.2.2) h.1.length (a, N) = .inr (a, (List.range N).map (fun j => if zfr a j = true then Value.null else .int 0)) := by
    rw [ze_obj (vwCl_lt hv)]
    congr 2
    apply List.map_congr_left
    intro j _
    simp only [zf, if_true]
    rfl
  rw [hze] at ew
  rw [← ew] at hP hD
  have hwf : zwf (h.1 ++ [(a, N)], (fun i => if i = h.1.length then (fun _ => 0) else h.2.1 i), (fun i => if i = h.1.length then (fun _ => none) else h.2.2.1 i), h.2.2.2) := by
    refine ⟨fun i j => ?_, fun i j r hr => ?_, fun k sh hk => ?_, Z.1.2.2.2⟩
    · show zin ((if i = h.1.length then (fun _ => 0) else h.2.1 i) j)
      split
      · exact zin_0
      · exact Z.1.1 _ _
    · have hr : (if i = h.1.length then (fun _ => none) else h.2.2.1 i) j = some r := hr
      split at hr
      · cases hr
      · have := Z.1.2.1 _ _ _ hr
        show r < (h.1 ++ [(a, N)]).length
        simp
        simp only at this
        omega
    · rcases List.mem_append.mp (List.mem_of_getElem? hk) with hm | hm
      · obtain ⟨k2, hk2⟩ := List.getElem?_of_mem hm
        exact Z.1.2.2.1 k2 sh hk2
      · have : sh = (a, N) := by simpa using hm
        subst this
        exact Or.inr ⟨_, hv, rfl⟩
  have K := G (fun k => if k = h.1.length then q else ad k) H1 locs ls (cells + 1) (slots + N) ⟨hwf, hP, hD, hS, zls_ad (zst_ls Z) (by simp) had, zok2 (v := .inr (.inl (some h.1.length))) (by show h.1.length < (h.1 ++ [(a, N)]).length; simp) (fun v hv => zok_mono (by simp) (h2 v hv)), by show cells + 1 + k0 = (h.1 ++ [(a, N)]).length; simp; omega, by show slots + N + s0 = zsz (h.1 ++ [(a, N)]); rw [zsz_app, es]; omega, fun k hk => by rw [had k (by omega)]; exact Z.2.2.2.2.2.2.2.2.1 k hk, Z.2.2.2.2.2.2.2.2.2⟩
  simp only [List.map_cons, zv, Option.map_some, if_true, va_rf] at K
  rw [zmap_ad h2 had] at K
  exact K
theorem so_ast (C : zcx p R s m args meth c mi sc D cI cZ A) (hd : decode (zmC mi) pc = .ok (if len = 1 then .astore_n (Fin.ofNat 4 a) else .astore a, len)) (hk : (len = 1 ∧ a < 4) ∨ len = 2) (hh : h_ast len a b2 d z ts pc pl st h = .inl ll) (hc : zch ll q) (G : zG p l e R s m args below meth c Q mi sc b D cI cZ A k0 s0 ad0 q) : zG p l e R s m args below meth c Q mi sc b D cI cZ A k0 s0 ad0 (pc, pl, st, h) := by
  unfold h_ast at hh
  split at hh
  · rename_i r st'
    cases hl : Nat.blt a pl.length with
    | false => rw [hl] at hh; cases hh; exact (zch_0 hc).elim
    | true =>
      rw [hl] at hh
      cases hh
      obtain ⟨-, rfl⟩ := zch_1 hc
      intro ad H locs ls cells slots Z
      obtain ⟨hx1, hs⟩ := zok1 (zst_ok Z)
      have hn : a < zmN mi := by rw [← (zst_ls Z).2.2.1]; exact Nat.ble_eq.mp hl
      cases r with
      | none =>
        rcases hk with ⟨rfl, ha⟩ | rfl
        · exact lv_astore_nN (lv := zlv b ad pl) C.1 C.2.1 hd (by simp [Fin.ofNat, Nat.mod_eq_of_lt ha]) (zls_has (zst_ls Z)) hn rfl (fun ls' h' => G ad H locs ls' cells slots (zst_loc Z hx1 hs h'))
        · exact lv_astoreN (lv := zlv b ad pl) C.1 C.2.1 hd (zls_has (zst_ls Z)) hn rfl (fun ls' h' => G ad H locs ls' cells slots (zst_loc Z hx1 hs h'))
      | some k =>
        rcases hk with ⟨rfl, ha⟩ | rfl
        · exact lv_astore_n (lv := zlv b ad pl) C.1 C.2.1 hd (by simp [Fin.ofNat, Nat.mod_eq_of_lt ha]) (zls_has (zst_ls Z)) hn rfl (fun ls' h' => G ad H locs ls' cells slots (zst_loc Z hx1 hs h'))
        · exact lv_astore (lv := zlv b ad pl) C.1 C.2.1 hd (zls_has (zst_ls Z)) hn rfl (fun ls' h' => G ad H locs ls' cells slots (zst_loc Z hx1 hs h'))
  · cases hh
    exact (zch_0 hc).elim
end MAKE
end
section
/-! the whole: what my machine does, the claim's does -/
theorem Met.ofWF {y : MethodName} {ws ws' : List Jvm.Cond} {l : Launch} {rm : Room} {Pc : Array Value → State → Prop} {Qc : Array Value → State → Outcome → State → Prop} {mc ms : Nat} {free : Addr → Prop} {cc : ByteArray} {maxL : Nat} {ret : Option FieldType}
    (hy : plainFor y = true) (hw : ws = Jvm.Cond.code y cc maxL ret :: ws')
    (body : ∀ p e s m args below meth c s₁, BodyLoose p l y (headSpec ws rm) cc maxL ret e s m args below meth c s₁ → c.maxLocals = maxL → Pc args s →
      W p l e (headSpec ws rm).room s m args below meth c s.heap [] 0 0 (MQ below Qc args s mc ms free) (entryFrame m args maxL)) : Met l y ws rm Pc Qc mc ms free := by
  refine MetFree.of_bodySF (code := cc) (maxLocals := maxL) (ret := ret) hy ?_ ?_
  · intro args s m h hn
    obtain ⟨meth, c, h1, h2, h3, h4, h5, h6, -, -⟩ := Cond.code_spec hn (atoms_spec (ws := ws) h _ (by rw [hw]; exact List.mem_cons_self))
    exact ⟨meth, c, h1, h2, h3, h4, h5, h6⟩
  · intro p e s m args below meth c s₁ B hml hP _
    have hh0 : s₁.heap = s.heap := by rw [B.state]; rfl
    obtain ⟨t, a1, o, b1, b2, b3⟩ := body p e s m args below meth c s₁ B hml hP s₁ hh0 (Stand.of_body B)
    exact ⟨t, o, a1, b1, b2, ⟨b3.1, b3.2⟩⟩
def zrk (mi pc : Nat) (st : List PV) (r : Option PV) : Prop :=
  (∃ x, st = [.inl x] ∧ r = some (.inl x) ∧ zmR mi = some .int ∧ decode (zmC mi) pc = .ok (.ireturn, 1)) ∨
  (∃ x, st = [.inl x] ∧ r = some (.inl x) ∧ zbb x = true ∧ zmR mi = some .boolean ∧ decode (zmC mi) pc = .ok (.ireturn, 1)) ∨
  (∃ q ty, st = [.inr (.inl q)] ∧ r = some (.inr (.inl q)) ∧ zmR mi = some ty ∧ ((∃ n, ty = .object n) ∨ ∃ t, ty = .array t) ∧ decode (zmC mi) pc = .ok (.areturn, 1)) ∨
  (st = [] ∧ r = none ∧ zmR mi = none ∧ decode (zmC mi) pc = .ok (.return_, 1))
def zTH (l : Launch) (n : Nat) : Prop := ∀ (mi : Nat) (t : PT) (r : Option PV) (h' : PH), pex n mi t = some (r, h') →
  ∀ {p : Program} {e : Env} {R : Room} {s : State} {m : MethodId} {args : Array Value} {below : List Frame} {meth : Method} {c : Code} {Q : State → Prop} {sc : Prop} {b : Nat} {D : va_G} {cI cZ : ClassId} {A : Nat → Prop} {k0 s0 : Nat} {ad0 : Nat → Nat},
  zcx p R s m args meth c mi sc D cI cZ A → h'.1.length ≤ R.cells + k0 → zsz h'.1 ≤ R.slots + s0 →
  (∀ (pc : Nat) (pl st : List PV) (ad : Nat → Nat) (H : Heap) (locs : List Loc) (ls : Array Slot) (cells slots : Nat), zst sc b D cI cZ A s (zmN mi) k0 s0 ad0 (pc, pl, st, h') ad H locs ls cells slots → zrk mi pc st r → W p l e R s m args below meth c H locs cells slots Q (F0 m pc ls (st.map (zv b ad)))) →
  zG p l e R s m args below meth c Q mi sc b D cI cZ A k0 s0 ad0 t
def zQ (b : Nat) (D : va_G) (cI cZ : ClassId) (ad : Nat → Nat) (n0 : Nat) (r1 : Option PV) (h1 : PH) (A1 : Nat → Prop) : Array Value → State → Outcome → State → Prop := fun _ st o t =>
  ∃ ad1 : Nat → Nat, (∀ k, k < n0 → ad1 k = ad k) ∧ o = .returned (r1.map (zv b ad1)) ∧ zwf h1 ∧ va_P D vwCl (zw cI cZ ad1 h1) t.heap ∧ va_D A1 (zw cI cZ ad1 h1) ∧ va_F A1 st t ∧ ∀ v, r1 = some v → zok False h1.1.length v
theorem lv_args_mem : ∀ (vs : List Value) (k i : Nat) (v : Value), (∀ w ∈ vs, w.category = 1) → vs[i]? = some v → (k + i, v) ∈ lv_args k vs
  | [], _, _, _, _, h => by simp at h
  | w :: vs, k, i, v, hc, h => by
    have h1 : w.category = 1 := hc w List.mem_cons_self
    rw [lv_args, if_neg (by omega)]
    cases i with
    | zero => simp at h; subst h; exact List.mem_cons_self
    | succ i =>
      have := lv_args_mem vs (k + 1) i v (fun w hw => hc w (List.mem_cons_of_mem _ hw)) (by simpa using h)
      rw [show k + (i + 1) = k + 1 + i by omega]
      exact List.mem_cons_of_mem _ this
theorem lg_sl_one (vs : List Value) (hc : ∀ w ∈ vs, w.category = 1) : (lg_sl vs).length = vs.length := by
  induction vs with
  | nil => rfl
  | cons w vs ih =>
    have h1 : w.category = 1 := hc w List.mem_cons_self
    have h2 := ih (fun w hw => hc w (List.mem_cons_of_mem _ hw))
    simp only [lg_sl, List.flatMap_cons, h1] at h2 ⊢
    simp
    simpa using h2
theorem zls_entry {b nL n : Nat} {ad : Nat → Nat} {as : List PV} {sc : Prop} (hl : as.length ≤ nL) (hk : ∀ v ∈ as, zok sc n v) :
    zls sc b ad n nL ((lg_sl (as.map (zv b ad)) ++ List.replicate (nL - (lg_sl (as.map (zv b ad))).length) Slot.unset).toArray) (as ++ List.replicate (nL - as.length) zU) := by
  have hc : ∀ w ∈ as.map (zv b ad), w.category = 1 := fun w hw => by
    obtain ⟨v, -, rfl⟩ := List.mem_map.mp hw
    exact zv_cat b ad v
  have hlen := lg_sl_one _ hc
  rw [List.length_map] at hlen
  obtain ⟨h1, h2, h3⟩ := lv_entry (as.map (zv b ad)) (n := nL) (by rw [hlen]; exact hl)
  refine ⟨h1, h2, by simp; omega, fun i v hv => ?_⟩
  by_cases hi : i < as.length
  · rw [List.getElem?_append_left hi] at hv
    refine Or.inr ⟨hk v (List.mem_of_getElem? hv), ?_⟩
    have := lv_args_mem (as.map (zv b ad)) 0 i (zv b ad v) hc (by rw [List.getElem?_map, hv]; rfl)
    rw [Nat.zero_add] at this
    exact h3 _ this
  · rw [List.getElem?_append_right (by omega)] at hv
    exact Or.inl (List.eq_of_mem_replicate (List.mem_of_getElem? hv))
/-- a method's contract at given values and cells -/
theorem zmet {l : Launch} {n m' b sz : Nat} {D : va_G} {cI cZ : ClassId} {A0 : Nat → Prop} {ad : Nat → Nat} {as : List PV} {h h1 : PH} {r1 : Option PV} (IH : zTH l n) (hx : pex n m' (0, pfr m' as, [], h) = some (r1, h1)) (hm : m' < 172) (hlen : as.length = zmP m')
    (hok : ∀ v ∈ as, zok False h.1.length v) (W0 : zwf h) (hD0 : va_D A0 (zw cI cZ ad h)) :
    Met l (zmY m') (.code (zmY m') (zmC m') (zmN m') (zmR m') :: WS) { frames := zmF m', cells := h1.1.length - h.1.length, slots := zsz h1.1 - zsz h.1, locals := zmL m' }
      (va_Pc (as.map (zv b ad)) (fun U => U.heap.size = sz ∧ va_P D vwCl (zw cI cZ ad h) U.heap ∧ va_K D vwCl [(cI, .int), (cZ, .boolean)] U ∧ zEX U))
      (zQ b D cI cZ ad h.1.length r1 h1 (va_A (zw cI cZ ad h) sz)) (h1.1.length - h.1.length) (zsz h1.1 - zsz h.1) (va_A (zw cI cZ ad h) sz) := by
  obtain ⟨i, hB⟩ := zmB_use hm
  simp only [zmB, Bool.and_eq_true, decide_eq_true_eq] at hB
  obtain ⟨⟨⟨⟨⟨⟨⟨⟨-, hpl⟩, -⟩, -⟩, hpn⟩, -⟩, hcls⟩, hk3⟩, hkk⟩ := hB
  obtain ⟨⟨ext, hext⟩, hS1⟩ := pex_gr _ _ _ _ hx
  simp only at hext hS1
  have hle : h.1.length ≤ h1.1.length := by rw [hext]; simp
  have hle2 : zsz h.1 ≤ zsz h1.1 := by rw [hext, zsz_app]; omega
  refine Met.ofWF (cc := zmC m') (maxL := zmN m') (ret := zmR m') hpl rfl ?_
  intro p e s m args below meth c s₁ B hml hv
  obtain ⟨rfl, hsz, hP, hK, hEX⟩ := hv
  have hts := atoms_spec (ws := .code (zmY m') (zmC m') (zmN m') (zmR m') :: WS) B.pre
  have hown : s.vm.findClass (zmY m').cls = some m.cls := findClass_of_methodNamed B.named
  have hlocks := B.notSynchronized
  have hin : meth.name = (zmY m').name := (name_of_methodNamed B.named B.method).1
  have hr := B.returns
  subst hsz
  rw [lg_entry_eq]
  have hD : va_D (va_A (zw cI cZ ad h) s.heap.size) (zw cI cZ ad h) := hD0.self
  have C : zcx p (headSpec (.code (zmY m') (zmC m') (zmN m') (zmR m') :: WS) { frames := zmF m', cells := h1.1.length - h.1.length, slots := zsz h1.1 - zsz h.1, locals := zmL m' }).room s m (as.map (zv b ad)).toArray meth c m' False D cI cZ (va_A (zw cI cZ ad h) s.heap.size) := by
    refine ⟨B.exec, B.bytes, hml, by rw [← hcls]; exact hown, fun w hw => hts w (List.mem_cons_of_mem _ hw), hK, fun q hq => Or.inr hq, fun h1 => ?_, fun h => absurd h (by omega), Nat.le_refl _, Nat.le_refl _, hEX⟩
    rw [if_neg (by omega), if_pos h1] at hkk
    simp only [Bool.and_eq_true, decide_eq_true_eq] at hkk
    rw [hin]
    exact hkk.1.2
  refine IH m' (0, pfr m' as, [], h) r1 h1 hx (k0 := h.1.length) (s0 := zsz h.1) (ad0 := ad) (b := b) C (by show h1.1.length ≤ h1.1.length - h.1.length + h.1.length; omega) (by show zsz h1.1 ≤ zsz h1.1 - zsz h.1 + zsz h.1; omega) ?_ ad s.heap [] _ 0 0
    ⟨W0, hP, hD, va_S.rf, zls_entry (by rw [hlen]; exact hpn) hok, fun v hv => by (cases hv), by show 0 + h.1.length = h.1.length; omega, by show 0 + zsz h.1 = zsz h.1; omega, fun k _ => rfl, fun h => h.elim⟩
  intro pc pl st ad1 H locs ls cells slots Z hrk
  have ec : cells = h1.1.length - h.1.length := by have := Z.2.2.2.2.2.2.1; simp only at this; omega
  have es : slots = zsz h1.1 - zsz h.1 := by have := Z.2.2.2.2.2.2.2.1; simp only at this; omega
  rw [← ec, ← es]
  have hf : ∀ q ∈ locs, va_A (zw cI cZ ad h) s.heap.size q.base := Z.2.2.2.1.2.2
  have hq : ∀ (o : Option Value) (t : State), o = r1.map (zv b ad1) → (∀ v, r1 = some v → zok False h1.1.length v) → t.heap = H → zQ b D cI cZ ad h.1.length r1 h1 (va_A (zw cI cZ ad h) s.heap.size) (as.map (zv b ad)).toArray s (.returned o) t := by
    intro o t ho hv ht
    refine ⟨ad1, fun k hk => Z.2.2.2.2.2.2.2.2.1 k hk, by rw [ho], Z.1, by rw [ht]; exact Z.2.1, Z.2.2.1, Z.2.2.2.1.F ht, hv⟩
  rcases hrk with ⟨x, rfl, rfl, hR, hdg⟩ | ⟨x, rfl, rfl, hb, hR, hdg⟩ | ⟨q, ty, rfl, rfl, hR, hty, hdg⟩ | ⟨rfl, rfl, hR, hdg⟩
  · exact W.iret (cc := zmC m') B.exec B.bytes (hr.trans hR) (fun t ht _ => hq _ t rfl (fun v hv => by cases hv; exact zok_sc (zok1 (zst_ok Z)).1) ht) hf hdg hlocks
  · exact W.zret (cc := zmC m') B.exec B.bytes (hr.trans hR) (zbb_nar hb).2.1 (fun t ht _ => hq _ t rfl (fun v hv => by cases hv; exact zok_sc (zok1 (zst_ok Z)).1) ht) hf hdg hlocks
  · exact W.aret (cc := zmC m') B.exec B.bytes (hr.trans hR) hty (by cases q with | none => exact Or.inl rfl | some k => exact Or.inr ⟨_, rfl⟩) (fun t ht _ => hq _ t rfl (fun v hv => by cases hv; exact zok_sc (zok1 (zst_ok Z)).1) ht) hf hdg hlocks
  · exact W.vret (cc := zmC m') B.exec B.bytes (hr.trans hR) (fun t ht _ => hq _ t rfl (fun v hv => by cases hv) ht) hf hdg hlocks
theorem inv_use {recv : Bool} {len a b2 d : Nat} {z : Int} {ts : List Nat} {pc : Nat} {pl st : List PV} {h : PH} {m' : Nat} {as rest : List PV} (hh : h_inv recv len a b2 d z ts pc pl st h = .inr (.inr (m', as, rest))) :
    m' = a ∧ rest.length ≤ 8 ∧ (∀ v ∈ as, zpl v = true) ∧ as.length = b2 ∧ st = as.reverse ++ rest ∧ (recv = true → ∃ r as' c n, as = zA r :: as' ∧ h.1[r]? = some (c, n) ∧ c = z.toNat) := by
  unfold h_inv at hh
  cases hg : (Nat.ble b2 st.length && (st.take b2).all zpl && Nat.blt (st.length - b2) 9) with
  | false => rw [hg] at hh; cases hh
  | true =>
    rw [hg] at hh
    simp only [Bool.and_eq_true] at hg
    obtain ⟨⟨g1, g2⟩, g3⟩ := hg
    have g1 : b2 ≤ st.length := Nat.ble_eq.mp g1
    have g3 : st.length - b2 < 9 := Nat.ble_eq.mp g3
    have g2 := List.all_eq_true.mp g2
    simp only [cond_true] at hh
    have key : as = (st.take b2).reverse → rest = st.drop b2 → rest.length ≤ 8 ∧ (∀ v ∈ as, zpl v = true) ∧ as.length = b2 ∧ st = as.reverse ++ rest := by
      intro e1 e2
      subst e1; subst e2
      refine ⟨by simp; omega, fun v hv => g2 v (List.mem_reverse.mp hv), by simp; omega, by simp⟩
    split at hh
    · rename_i ass hs
      cases hh
      obtain ⟨k1, k2, k3, k4⟩ := key rfl rfl
      exact ⟨rfl, k1, k2, k3, k4, fun h => by cases h⟩
    · rename_i r as' hs
      split at hh
      · rename_i c n hc
        cases hg4 : Nat.beq c z.toNat with
        | false => rw [hg4] at hh; cases hh
        | true =>
          rw [hg4] at hh
          cases hh
          obtain ⟨k1, k2, k3, k4⟩ := key hs.symm rfl
          exact ⟨rfl, k1, k2, k3, k4, fun _ => ⟨r, as', c, n, rfl, hc, Nat.eq_of_beq_eq_true hg4⟩⟩
      · cases hh
    · cases hh
section CALL
variable {p : Program} {l : Launch} {e : Env} {R : Room} {s : State} {m : MethodId} {args : Array Value} {below : List Frame} {meth : Method} {c : Code} {Q : State → Prop}
variable {mi : Nat} {sc : Prop} {b : Nat} {D : va_G} {cI cZ : ClassId} {A : Nat → Prop} {k0 s0 : Nat} {ad0 : Nat → Nat}
variable {len a b2 d : Nat} {z : Int} {ts : List Nat} {pc : Nat} {pl st : List PV} {h h1 : PH} {r1 : Option PV} {as rest : List PV}
theorem zcall_tail {ad : Nat → Nat} {H : Heap} {locs : List Loc} {ls : Array Slot} {cells slots : Nat} {st0 : List Value} {av : Array Value} (C : zcx p R s m args meth c mi sc D cI cZ A) (Z : zst sc b D cI cZ A s (zmN mi) k0 s0 ad0 (pc, pl, st, h) ad H locs ls cells slots) (hrest : ∀ v ∈ rest, zok sc h.1.length v)
    (hgr : (∃ ext, h1.1 = h.1 ++ ext) ∧ h1.2.2.2 = h.2.2.2) (G : zG p l e R s m args below meth c Q mi sc b D cI cZ A k0 s0 ad0 (pc + 3, pl, r1.toList ++ rest, h1))
    (hr : va_Run p l e R s m args below meth c H locs cells slots (h1.1.length - h.1.length) (zsz h1.1 - zsz h.1) (F0 m pc ls st0) (rest.map (zv b ad)) (zQ b D cI cZ ad h.1.length r1 h1 (va_A (zw cI cZ ad h) H.size) av) (va_A (zw cI cZ ad h) H.size)) :
    W p l e R s m args below meth c H locs cells slots Q (F0 m pc ls st0) := by
  intro T hT X
  obtain ⟨v, st₀, t, T', L, g0, X', hL, e1, e2, ⟨ad1, q1, q2, q3, q4, q5, q6, q7⟩, stp⟩ := hr T hT X
  obtain ⟨⟨ext, hext⟩, hSS⟩ := hgr
  have hle : h.1.length ≤ h1.1.length := by rw [hext]; simp
  have hle2 : zsz h.1 ≤ zsz h1.1 := by rw [hext, zsz_app]; omega
  have hA1 : ∀ q, va_A (zw cI cZ ad h) H.size q → A q := by
    intro q hq
    rcases hq with ⟨k, E, hk⟩ | hq
    · exact Z.2.2.1.2 k _ hk
    · exact C.2.2.2.2.2.2.1 q (Nat.le_trans Z.2.2.2.1.1 hq)
  have ev : v = r1.map (zv b ad1) := by cases q2; rfl
  have hS1 : va_S A s.heap T'.heap (locs ++ L) := by
    obtain ⟨f1, f2⟩ := q6
    rw [g0] at f1 f2
    refine ⟨Nat.le_trans Z.2.2.2.1.1 (by rw [e1]; exact f1), fun q hq1 hq2 => ?_, fun q hq => ?_⟩
    · rw [e1, f2 q (Nat.lt_of_lt_of_le hq1 Z.2.2.2.1.1) (fun w => hq2 (hA1 q w))]
      exact Z.2.2.2.1.2.1 q hq1 hq2
    · rcases List.mem_append.mp hq with hq | hq
      · exact Z.2.2.2.1.2.2 q hq
      · exact hA1 _ (hL q hq)
  have Z1 : zst sc b D cI cZ A s (zmN mi) k0 s0 ad0 (pc + 3, pl, r1.toList ++ rest, h1) ad1 T'.heap (locs ++ L) ls (cells + (h1.1.length - h.1.length)) (slots + (zsz h1.1 - zsz h.1)) := by
    refine ⟨q3, by show va_P D vwCl (zw cI cZ ad1 h1) T'.heap; rw [e1]; exact q4, q5.weaken (fun _ _ _ w => hA1 _ w), hS1, zls_ad (zst_ls Z) hle q1, fun w hw => ?_, ?_, ?_, fun k hk => ?_, fun hsc => ?_⟩
    · rcases List.mem_append.mp hw with hw | hw
      · exact zok_sc (q7 w (by simpa using hw))
      · exact zok_mono hle (hrest w hw)
    · have := Z.2.2.2.2.2.2.1; simp only at this ⊢; omega
    · have := Z.2.2.2.2.2.2.2.1; simp only at this ⊢; omega
    · have := Z.2.2.2.2.2.2.1
      simp only at this
      rw [q1 k (by omega)]
      exact Z.2.2.2.2.2.2.2.2.1 k hk
    · have := Z.2.2.2.2.2.2.2.2.2 hsc
      simp only at this ⊢
      rw [hSS]
      exact this
  obtain ⟨t2, a1, b1⟩ := G ad1 T'.heap (locs ++ L) ls _ _ Z1 T' rfl X'
  refine ⟨t2, stp t2 ?_, b1⟩
  have ek : (r1.toList ++ rest).map (zv b ad1) = v.toList ++ rest.map (zv b ad) := by
    rw [List.map_append, zmap_ad hrest q1, ev]
    cases r1 <;> rfl
  simp only at a1
  rw [ek] at a1
  exact a1
theorem zcall_in (mi' : Nat) (C : zcx p R s m args meth c mi sc D cI cZ A) (k : Nat) (hc : zcall k mi a b2 d = true) : Jvm.Cond.methodLink (zwn (zmO mi)) d (zmY a) ∈ WS ∧ zmK a = k ∧ b2 = zmP a ∧ a < 172 ∧ zmF a + 1 ≤ R.frames ∧ 8 + (zmN a + 11) + zmL a ≤ R.locals := by
  simp only [zcall, Bool.and_eq_true, decide_eq_true_eq] at hc
  obtain ⟨⟨⟨⟨⟨g1, g2⟩, g3⟩, g4⟩, g5⟩, g6⟩ := hc
  exact ⟨mlk_use g1, g2, g3, g4, Nat.le_trans g5 C.2.2.2.2.2.2.2.2.2.1, Nat.le_trans g6 C.2.2.2.2.2.2.2.2.2.2.1⟩
theorem zcallB (C : zcx p R s m args meth c mi sc D cI cZ A) {mc ms : Nat} (ha : a < 172) (hl : Jvm.Cond.methodLink (zwn (zmO mi)) d (zmY a) ∈ WS) (h1 : zmF a + 1 ≤ R.frames) (h2 : 8 + (zmN a + 11) + zmL a ≤ R.locals) :
    CallB R s args (zwn (zmO mi)) d (zmY a) (zmC a) (zmN a) (zmR a) (.code (zmY a) (zmC a) (zmN a) (zmR a) :: WS) { frames := zmF a, cells := mc, slots := ms, locals := zmL a } mc ms (zmP a - (if zmK a < 2 then 1 else 0)) := by
  obtain ⟨i, hB⟩ := zmB_use ha
  simp only [zmB, Bool.and_eq_true, decide_eq_true_eq] at hB
  obtain ⟨⟨⟨⟨⟨⟨⟨⟨hi, hpl⟩, hmh⟩, hpar⟩, hpn⟩, -⟩, hcls⟩, hk3⟩, hkk⟩ := hB
  exact callB_of (ws' := WS) _ C.2.2.2.2.1 (fun w hw => by
    rcases List.mem_cons.mp hw with rfl | hw
    · exact ⟨zcw_all a ha, WS_ok (zcw_all a ha)⟩
    · exact ⟨hw, WS_ok hw⟩) rfl rfl rfl (C.2.2.2.2.1 _ (zAt_mem hi)) (C.2.2.2.2.1 _ hl) ⟨hmh.1, hmh.2, hpar⟩ ⟨h1, h2⟩
theorem zblind {av : List Value} {sz : Nat} {ws : va_W} : FrameBlind (va_Pc av (fun U => U.heap.size = sz ∧ va_P D vwCl ws U.heap ∧ va_K D vwCl [(cI, .int), (cZ, .boolean)] U ∧ zEX U)) := fun a U g mk q => by
  obtain ⟨q1, q2, q3, q4, q5⟩ := q
  exact ⟨q1, q2, q3, va_K.moved (u := U) (U := U.calling g mk a) (Vm.Alike.refl U.vm) q4, va_Nw.same rfl (u := U) (U := U.calling g mk a) rfl q5.1, va_Nw.same rfl (u := U) (U := U.calling g mk a) rfl q5.2⟩
theorem zpre {ad : Nat → Nat} {H : Heap} {locs : List Loc} {ls : Array Slot} {cells slots : Nat} (C : zcx p R s m args meth c mi sc D cI cZ A) (Z : zst sc b D cI cZ A s (zmN mi) k0 s0 ad0 (pc, pl, st, h) ad H locs ls cells slots) (av : List Value) (U : State) (hU : U.heap = H) (hW : s.WarmedH U.vm) :
    va_Pc av (fun U => U.heap.size = H.size ∧ va_P D vwCl (zw cI cZ ad h) U.heap ∧ va_K D vwCl [(cI, .int), (cZ, .boolean)] U ∧ zEX U) av.toArray U := by
  refine ⟨rfl, by rw [hU], by rw [hU]; exact Z.2.1, va_K.moved hW.alike C.2.2.2.2.2.1, va_Nw.warmM hW C.2.2.2.2.2.2.2.2.2.2.2.1, va_Nw.warmM hW C.2.2.2.2.2.2.2.2.2.2.2.2⟩
end CALL
end
section
/-! every instruction, and the whole -/
def zil (r : PR) : Prop := ∃ l, r = .inl l
theorem zil_cond {c : Bool} {x y : PR} (h1 : zil x) (h2 : zil y) : zil (cond c x y) := by cases c <;> assumption
theorem zil_cm {c : Nat} {x y : Int} {pc1 pc2 : Nat} {ls st : List PV} {h : PH} : zil (zcm c x y pc1 pc2 ls st h) := by
  unfold zcm; split <;> exact ⟨_, rfl⟩
theorem zil_all : ∀ (op : Nat) (f : PF), ptab[op]? = some f → op ≠ 40 → op ≠ 41 → op ≠ 42 → op ≠ 43 → op ≠ 44 → op ≠ 48 → op ≠ 49 → op ≠ 50 → ∀ len a b d z ts pc ls st h, zil (f len a b d z ts pc ls st h) := by
  intro op f hf h40 h41 h42 h43 h44 h48 h49 h50 len a b d z ts pc ls st h
  match op, hf with
  | 0, hf => cases hf; exact ⟨_, rfl⟩
  | 1, hf =>
    cases hf
    unfold h_ilo
    (repeat' split)
    all_goals first | exact ⟨_, rfl⟩ | exact zil_cond ⟨_, rfl⟩ ⟨_, rfl⟩ | exact zil_cm
  | 2, hf =>
    cases hf
    unfold h_alo
    (repeat' split)
    all_goals first | exact ⟨_, rfl⟩ | exact zil_cond ⟨_, rfl⟩ ⟨_, rfl⟩ | exact zil_cm
  | 3, hf =>
    cases hf
    unfold h_ist
    (repeat' split)
    all_goals first | exact ⟨_, rfl⟩ | exact zil_cond ⟨_, rfl⟩ ⟨_, rfl⟩ | exact zil_cm
  | 4, hf =>
    cases hf
    unfold h_ast
    (repeat' split)
    all_goals first | exact ⟨_, rfl⟩ | exact zil_cond ⟨_, rfl⟩ ⟨_, rfl⟩ | exact zil_cm
  | 5, hf => cases hf; exact ⟨_, rfl⟩
  | 6, hf => cases hf; exact ⟨_, rfl⟩
  | 7, hf =>
    cases hf
    unfold h_gfi
    (repeat' split)
    all_goals first | exact ⟨_, rfl⟩ | exact zil_cond ⟨_, rfl⟩ ⟨_, rfl⟩ | exact zil_cm
  | 8, hf =>
    cases hf
    unfold h_gfr
    (repeat' split)
    all_goals first | exact ⟨_, rfl⟩ | exact zil_cond ⟨_, rfl⟩ ⟨_, rfl⟩ | exact zil_cm
  | 9, hf =>
    cases hf
    unfold h_pfi
    (repeat' split)
    all_goals first | exact ⟨_, rfl⟩ | exact zil_cond ⟨_, rfl⟩ ⟨_, rfl⟩ | exact zil_cm
  | 10, hf =>
    cases hf
    unfold h_pfr
    (repeat' split)
    all_goals first | exact ⟨_, rfl⟩ | exact zil_cond ⟨_, rfl⟩ ⟨_, rfl⟩ | exact zil_cm
  | 11, hf =>
    cases hf
    unfold h_ald
    (repeat' split)
    all_goals first | exact ⟨_, rfl⟩ | exact zil_cond ⟨_, rfl⟩ ⟨_, rfl⟩ | exact zil_cm
  | 12, hf =>
    cases hf
    unfold h_iast
    (repeat' split)
    all_goals first | exact ⟨_, rfl⟩ | exact zil_cond ⟨_, rfl⟩ ⟨_, rfl⟩ | exact zil_cm
  | 13, hf =>
    cases hf
    unfold h_ald
    (repeat' split)
    all_goals first | exact ⟨_, rfl⟩ | exact zil_cond ⟨_, rfl⟩ ⟨_, rfl⟩ | exact zil_cm
  | 14, hf =>
    cases hf
    unfold h_zast
    (repeat' split)
    all_goals first | exact ⟨_, rfl⟩ | exact zil_cond ⟨_, rfl⟩ ⟨_, rfl⟩ | exact zil_cm
  | 15, hf =>
    cases hf
    unfold h_aln
    (repeat' split)
    all_goals first | exact ⟨_, rfl⟩ | exact zil_cond ⟨_, rfl⟩ ⟨_, rfl⟩ | exact zil_cm
  | 16, hf =>
    cases hf
    unfold h_bin
    (repeat' split)
    all_goals first | exact ⟨_, rfl⟩ | exact zil_cond ⟨_, rfl⟩ ⟨_, rfl⟩ | exact zil_cm
  | 17, hf =>
    cases hf
    unfold h_bin
    (repeat' split)
    all_goals first | exact ⟨_, rfl⟩ | exact zil_cond ⟨_, rfl⟩ ⟨_, rfl⟩ | exact zil_cm
  | 18, hf =>
    cases hf
    unfold h_bin
    (repeat' split)
    all_goals first | exact ⟨_, rfl⟩ | exact zil_cond ⟨_, rfl⟩ ⟨_, rfl⟩ | exact zil_cm
  | 19, hf =>
    cases hf
    unfold h_bin0
    (repeat' split)
    all_goals first | exact ⟨_, rfl⟩ | exact zil_cond ⟨_, rfl⟩ ⟨_, rfl⟩ | exact zil_cm
  | 20, hf =>
    cases hf
    unfold h_bin0
    (repeat' split)
    all_goals first | exact ⟨_, rfl⟩ | exact zil_cond ⟨_, rfl⟩ ⟨_, rfl⟩ | exact zil_cm
  | 21, hf =>
    cases hf
    unfold h_bin
    (repeat' split)
    all_goals first | exact ⟨_, rfl⟩ | exact zil_cond ⟨_, rfl⟩ ⟨_, rfl⟩ | exact zil_cm
  | 22, hf =>
    cases hf
    unfold h_bin
    (repeat' split)
    all_goals first | exact ⟨_, rfl⟩ | exact zil_cond ⟨_, rfl⟩ ⟨_, rfl⟩ | exact zil_cm
  | 23, hf =>
    cases hf
    unfold h_bin
    (repeat' split)
    all_goals first | exact ⟨_, rfl⟩ | exact zil_cond ⟨_, rfl⟩ ⟨_, rfl⟩ | exact zil_cm
  | 24, hf =>
    cases hf
    unfold h_bin
    (repeat' split)
    all_goals first | exact ⟨_, rfl⟩ | exact zil_cond ⟨_, rfl⟩ ⟨_, rfl⟩ | exact zil_cm
  | 25, hf =>
    cases hf
    unfold h_bin
    (repeat' split)
    all_goals first | exact ⟨_, rfl⟩ | exact zil_cond ⟨_, rfl⟩ ⟨_, rfl⟩ | exact zil_cm
  | 26, hf =>
    cases hf
    unfold h_bin
    (repeat' split)
    all_goals first | exact ⟨_, rfl⟩ | exact zil_cond ⟨_, rfl⟩ ⟨_, rfl⟩ | exact zil_cm
  | 27, hf =>
    cases hf
    unfold h_inc
    (repeat' split)
    all_goals first | exact ⟨_, rfl⟩ | exact zil_cond ⟨_, rfl⟩ ⟨_, rfl⟩ | exact zil_cm
  | 28, hf => cases hf; exact ⟨_, rfl⟩
  | 29, hf =>
    cases hf
    unfold h_ifc
    (repeat' split)
    all_goals first | exact ⟨_, rfl⟩ | exact zil_cond ⟨_, rfl⟩ ⟨_, rfl⟩ | exact zil_cm
  | 30, hf =>
    cases hf
    unfold h_icm
    (repeat' split)
    all_goals first | exact ⟨_, rfl⟩ | exact zil_cond ⟨_, rfl⟩ ⟨_, rfl⟩ | exact zil_cm
  | 31, hf =>
    cases hf
    unfold h_ifn
    (repeat' split)
    all_goals first | exact ⟨_, rfl⟩ | exact zil_cond ⟨_, rfl⟩ ⟨_, rfl⟩ | exact zil_cm
  | 32, hf =>
    cases hf
    unfold h_inn
    (repeat' split)
    all_goals first | exact ⟨_, rfl⟩ | exact zil_cond ⟨_, rfl⟩ ⟨_, rfl⟩ | exact zil_cm
  | 33, hf =>
    cases hf
    unfold h_acn
    (repeat' split)
    all_goals first | exact ⟨_, rfl⟩ | exact zil_cond ⟨_, rfl⟩ ⟨_, rfl⟩ | exact zil_cm
  | 34, hf =>
    cases hf
    unfold h_tsw
    (repeat' split)
    all_goals first | exact ⟨_, rfl⟩ | exact zil_cond ⟨_, rfl⟩ ⟨_, rfl⟩ | exact zil_cm
  | 35, hf =>
    cases hf
    unfold h_nar
    (repeat' split)
    all_goals first | exact ⟨_, rfl⟩ | exact zil_cond ⟨_, rfl⟩ ⟨_, rfl⟩ | exact zil_cm
  | 36, hf => cases hf; exact ⟨_, rfl⟩
  | 37, hf =>
    cases hf
    unfold h_dup
    (repeat' split)
    all_goals first | exact ⟨_, rfl⟩ | exact zil_cond ⟨_, rfl⟩ ⟨_, rfl⟩ | exact zil_cm
  | 38, hf =>
    cases hf
    unfold h_du2
    (repeat' split)
    all_goals first | exact ⟨_, rfl⟩ | exact zil_cond ⟨_, rfl⟩ ⟨_, rfl⟩ | exact zil_cm
  | 39, hf =>
    cases hf
    unfold h_pop
    (repeat' split)
    all_goals first | exact ⟨_, rfl⟩ | exact zil_cond ⟨_, rfl⟩ ⟨_, rfl⟩ | exact zil_cm
  | 40, _ => exact absurd rfl h40
  | 41, _ => exact absurd rfl h41
  | 42, _ => exact absurd rfl h42
  | 43, _ => exact absurd rfl h43
  | 44, _ => exact absurd rfl h44
  | 45, hf =>
    cases hf
    unfold h_oin
    (repeat' split)
    all_goals first | exact ⟨_, rfl⟩ | exact zil_cond ⟨_, rfl⟩ ⟨_, rfl⟩ | exact zil_cm
  | 46, hf =>
    cases hf
    unfold h_sln
    (repeat' split)
    all_goals first | exact ⟨_, rfl⟩ | exact zil_cond ⟨_, rfl⟩ ⟨_, rfl⟩ | exact zil_cm
  | 47, hf =>
    cases hf
    unfold h_sld
    (repeat' split)
    all_goals first | exact ⟨_, rfl⟩ | exact zil_cond ⟨_, rfl⟩ ⟨_, rfl⟩ | exact zil_cm
  | 48, _ => exact absurd rfl h48
  | 49, _ => exact absurd rfl h49
  | 50, _ => exact absurd rfl h50
  | n + 51, hf => simp [ptab] at hf
theorem zinv_inl {recv : Bool} {len a b d : Nat} {z : Int} {ts : List Nat} {pc : Nat} {ls st : List PV} {h : PH} {ll : List (Bool × PT)} {q : PT} (hh : h_inv recv len a b d z ts pc ls st h = .inl ll) (hc : zch ll q) : False := by
  unfold h_inv at hh
  cases hg : (Nat.ble b st.length && (st.take b).all zpl && Nat.blt (st.length - b) 9) with
  | false => rw [hg] at hh; cases hh; exact zch_0 hc
  | true =>
    rw [hg] at hh
    simp only [cond_true] at hh
    split at hh
    · cases hh
    · split at hh
      · rename_i c n hcc
        cases hg4 : Nat.beq c z.toNat with
        | false => rw [hg4] at hh; cases hh; exact zch_0 hc
        | true => rw [hg4] at hh; cases hh
      · cases hh; exact zch_0 hc
    · cases hh; exact zch_0 hc
theorem zinv_ret {recv : Bool} {len a b d : Nat} {z : Int} {ts : List Nat} {pc : Nat} {ls st : List PV} {h : PH} {w : Bool × Option PV} (hh : h_inv recv len a b d z ts pc ls st h = .inr (.inl w)) : False := by
  unfold h_inv at hh
  cases hg : (Nat.ble b st.length && (st.take b).all zpl && Nat.blt (st.length - b) 9) with
  | false => rw [hg] at hh; cases hh
  | true =>
    rw [hg] at hh
    simp only [cond_true] at hh
    split at hh
    · cases hh
    · split at hh
      · rename_i c n hcc
        cases hg4 : Nat.beq c z.toNat with
        | false => rw [hg4] at hh; cases hh
        | true => rw [hg4] at hh; cases hh
      · cases hh
    · cases hh
/-- the row of the code table at a place, and what is known of it -/
theorem pst_row {mi pc : Nat} {ls st : List PV} {h : PH} {r : PR} (hp : pst mi pc ls st h = r) (hr : r ≠ pko) : ∃ (op len a b d : Nat) (z : Int) (ts : List Nat) (f : PF) (k : PK), ptab[op]? = some f ∧ f len a b d z ts pc ls st h = r ∧ zckt[op]? = some k ∧ k mi pc len a b d z ts = true ∧ decode (zmC mi) pc = .ok (zun pc (op, len, a, b, d, z, ts), len) := by
  unfold pst at hp
  split at hp
  · exact absurd hp.symm hr
  · rename_i L hL
    split at hp
    · rename_i op len a b d z ts hq
      split at hp
      · rename_i f hf
        have hck := zck_ok hL hq
        simp only [zck, Bool.and_eq_true, decide_eq_true_eq] at hck
        obtain ⟨h1, h2⟩ := hck
        split at h2
        · rename_i k hk
          exact ⟨op, len, a, b, d, z, ts, f, k, hf, hp, hk, h2, h1⟩
        · cases h2
      · exact absurd hp.symm hr
    · exact absurd hp.symm hr
section MAIN
variable {p : Program} {l : Launch} {e : Env} {R : Room} {s : State} {m : MethodId} {args : Array Value} {below : List Frame} {meth : Method} {c : Code} {Q : State → Prop}
variable {mi : Nat} {sc : Prop} {b : Nat} {D : va_G} {cI cZ : ClassId} {A : Nat → Prop} {k0 s0 : Nat} {ad0 : Nat → Nat}
variable {pc : Nat} {pl st : List PV} {h : PH} {q : PT} {ll : List (Bool × PT)}
theorem zstep (C : zcx p R s m args meth c mi sc D cI cZ A) (hp : pst mi pc pl st h = .inl ll) (hc : zch ll q) (hroom : q.2.2.2.1.length ≤ R.cells + k0 ∧ zsz q.2.2.2.1 ≤ R.slots + s0) (G : zG p l e R s m args below meth c Q mi sc b D cI cZ A k0 s0 ad0 q) : zG p l e R s m args below meth c Q mi sc b D cI cZ A k0 s0 ad0 (pc, pl, st, h) := by
  obtain ⟨op, len, a, b2, d, z, ts, f, k, hf, hh, hk, hck, hd⟩ := pst_row hp (fun w => by cases w; exact zch_0 hc)
  match op, hf, hk, hd with
  | 0, hf, hk, hd =>
    cases hf; cases hk
    cases hh
    exact (zch_0 hc).elim
  | 1, hf, hk, hd =>
    cases hf; cases hk
    simp only [zk_1, Bool.and_eq_true, Bool.or_eq_true, decide_eq_true_eq] at hck
    exact so_ilo C hd hck hh hc G
  | 2, hf, hk, hd =>
    cases hf; cases hk
    simp only [zk_2, Bool.and_eq_true, Bool.or_eq_true, decide_eq_true_eq] at hck
    exact so_alo C hd hck hh hc G
  | 3, hf, hk, hd =>
    cases hf; cases hk
    simp only [zk_3, Bool.and_eq_true, Bool.or_eq_true, decide_eq_true_eq] at hck
    exact so_ist C hd hck hh hc G
  | 4, hf, hk, hd =>
    cases hf; cases hk
    simp only [zk_4, Bool.and_eq_true, Bool.or_eq_true, decide_eq_true_eq] at hck
    exact so_ast C hd hck hh hc G
  | 5, hf, hk, hd =>
    cases hf; cases hk
    simp only [zk_5, Bool.and_eq_true, Bool.or_eq_true, decide_eq_true_eq] at hck
    obtain ⟨hz, hck⟩ := hck
    refine so_con C hd (zin_b hz) ?_ hh hc G
    by_cases h0 : d = 0
    · rw [if_pos h0] at hck ⊢
      simpa only [Bool.and_eq_true, Bool.or_eq_true, decide_eq_true_eq] using hck
    · rw [if_neg h0] at hck ⊢
      simp only [Bool.and_eq_true, Bool.or_eq_true, decide_eq_true_eq] at hck
      exact ⟨hck.1, klk_use hck.2⟩
  | 6, hf, hk, hd =>
    cases hf; cases hk
    simp only [zk_6, Bool.and_eq_true, Bool.or_eq_true, decide_eq_true_eq] at hck
    exact so_nul C hd hck hh hc G
  | 7, hf, hk, hd =>
    cases hf; cases hk
    simp only [zk_7, Bool.and_eq_true, decide_eq_true_eq, Bool.not_eq_true'] at hck
    exact so_gfi C hd hck.1.1 hck.1.2 hck.2 hh hc G
  | 8, hf, hk, hd =>
    cases hf; cases hk
    simp only [zk_8, Bool.and_eq_true, decide_eq_true_eq] at hck
    exact so_gfr C hd hck.1.1 hck.1.2 hck.2 hh hc G
  | 9, hf, hk, hd =>
    cases hf; cases hk
    simp only [zk_9, Bool.and_eq_true, decide_eq_true_eq, Bool.not_eq_true'] at hck
    refine so_pfi C hd hck.1.1.1 hck.1.1.2 hck.1.2 (fun q hq => ?_) hh hc G
    have g := hck.2
    rw [hq] at g
    simpa using g
  | 10, hf, hk, hd =>
    cases hf; cases hk
    simp only [zk_10, Bool.and_eq_true, decide_eq_true_eq] at hck
    refine so_pfr C hd hck.1.1.1.1 hck.1.1.1.2 hck.1.1.2 (fun q hq => ?_) hck.2 hh hc G
    have g := hck.1.2
    rw [hq] at g
    simpa using g
  | 11, hf, hk, hd =>
    cases hf; cases hk
    simp only [zk_11, Bool.and_eq_true, Bool.or_eq_true, decide_eq_true_eq] at hck
    exact so_iald C hd hck hh hc G
  | 12, hf, hk, hd =>
    cases hf; cases hk
    simp only [zk_12, Bool.and_eq_true, Bool.or_eq_true, decide_eq_true_eq] at hck
    exact so_iast C hd hck hh hc G
  | 13, hf, hk, hd =>
    cases hf; cases hk
    simp only [zk_13, Bool.and_eq_true, Bool.or_eq_true, decide_eq_true_eq] at hck
    exact so_zald C hd hck hh hc G
  | 14, hf, hk, hd =>
    cases hf; cases hk
    simp only [zk_14, Bool.and_eq_true, Bool.or_eq_true, decide_eq_true_eq] at hck
    exact so_zast C hd hck hh hc G
  | 15, hf, hk, hd =>
    cases hf; cases hk
    simp only [zk_15, Bool.and_eq_true, Bool.or_eq_true, decide_eq_true_eq] at hck
    exact so_aln C hd hck hh hc G
  | 16, hf, hk, hd =>
    cases hf; cases hk
    simp only [zk_16, Bool.and_eq_true, Bool.or_eq_true, decide_eq_true_eq] at hck
    exact so_bin (g := fun x y => x + y) .iadd (fun _ _ => rfl) (fun hd K => lv_iadd C.1 C.2.1 hd K) hd hck hh hc G
  | 17, hf, hk, hd =>
    cases hf; cases hk
    simp only [zk_17, Bool.and_eq_true, Bool.or_eq_true, decide_eq_true_eq] at hck
    exact so_bin (g := fun x y => x - y) .isub (fun _ _ => rfl) (fun hd K => lv_isub C.1 C.2.1 hd K) hd hck hh hc G
  | 18, hf, hk, hd =>
    cases hf; cases hk
    simp only [zk_18, Bool.and_eq_true, Bool.or_eq_true, decide_eq_true_eq] at hck
    exact so_bin (g := fun x y => x * y) .imul (fun _ _ => rfl) (fun hd K => lv_imul C.1 C.2.1 hd K) hd hck hh hc G
  | 21, hf, hk, hd =>
    cases hf; cases hk
    simp only [zk_21, Bool.and_eq_true, Bool.or_eq_true, decide_eq_true_eq] at hck
    exact so_bin (g := fun x y => x &&& y) .iand (fun _ _ => rfl) (fun hd K => lv_iand C.1 C.2.1 hd K) hd hck hh hc G
  | 22, hf, hk, hd =>
    cases hf; cases hk
    simp only [zk_22, Bool.and_eq_true, Bool.or_eq_true, decide_eq_true_eq] at hck
    exact so_bin (g := fun x y => x ||| y) .ior (fun _ _ => rfl) (fun hd K => lv_ior C.1 C.2.1 hd K) hd hck hh hc G
  | 23, hf, hk, hd =>
    cases hf; cases hk
    simp only [zk_23, Bool.and_eq_true, Bool.or_eq_true, decide_eq_true_eq] at hck
    exact so_bin (g := fun x y => x ^^^ y) .ixor (fun _ _ => rfl) (fun hd K => lv_ixor C.1 C.2.1 hd K) hd hck hh hc G
  | 24, hf, hk, hd =>
    cases hf; cases hk
    simp only [zk_24, Bool.and_eq_true, Bool.or_eq_true, decide_eq_true_eq] at hck
    exact so_bin (g := fun x y => x <<< (y &&& 31)) .ishl (fun _ _ => rfl) (fun hd K => lv_ishl C.1 C.2.1 hd K) hd hck hh hc G
  | 25, hf, hk, hd =>
    cases hf; cases hk
    simp only [zk_25, Bool.and_eq_true, Bool.or_eq_true, decide_eq_true_eq] at hck
    exact so_bin (g := fun x y => x >>> (y &&& 31)) .ishr (fun _ _ => rfl) (fun hd K => lv_ishr C.1 C.2.1 hd K) hd hck hh hc G
  | 26, hf, hk, hd =>
    cases hf; cases hk
    simp only [zk_26, Bool.and_eq_true, Bool.or_eq_true, decide_eq_true_eq] at hck
    exact so_bin (g := fun x y => (x.toUInt32 >>> (y.toUInt32 &&& Int32.toUInt32 31)).toInt32) .iushr (fun _ _ => rfl) (fun hd K => lv_iushr C.1 C.2.1 hd rfl K) hd hck hh hc G
  | 19, hf, hk, hd =>
    cases hf; cases hk
    simp only [zk_19, Bool.and_eq_true, Bool.or_eq_true, decide_eq_true_eq] at hck
    exact so_bin0 (g := fun x y => x / y) .idiv (fun _ _ => rfl) (fun hd n K => lv_idiv C.1 C.2.1 hd n K) hd hck hh hc G
  | 20, hf, hk, hd =>
    cases hf; cases hk
    simp only [zk_20, Bool.and_eq_true, Bool.or_eq_true, decide_eq_true_eq] at hck
    exact so_bin0 (g := fun x y => x - x / y * y) .irem (fun _ _ => rfl) (fun hd n K => lv_irem C.1 C.2.1 hd n K) hd hck hh hc G
  | 27, hf, hk, hd =>
    cases hf; cases hk
    simp only [zk_27, Bool.and_eq_true, Bool.or_eq_true, decide_eq_true_eq] at hck
    exact so_inc C hd hck.1.1 hck.2 hh hc G
  | 28, hf, hk, hd =>
    cases hf; cases hk
    simp only [zk_28, Bool.and_eq_true, Bool.or_eq_true, decide_eq_true_eq] at hck
    exact so_gto C hd hck hh hc G
  | 29, hf, hk, hd =>
    cases hf; cases hk
    simp only [zk_29, Bool.and_eq_true, Bool.or_eq_true, decide_eq_true_eq] at hck
    exact so_ifc C hd hck.1 hck.2 hh hc G
  | 30, hf, hk, hd =>
    cases hf; cases hk
    simp only [zk_30, Bool.and_eq_true, Bool.or_eq_true, decide_eq_true_eq] at hck
    exact so_icm C hd hck.1 hck.2 hh hc G
  | 31, hf, hk, hd =>
    cases hf; cases hk
    simp only [zk_31, Bool.and_eq_true, Bool.or_eq_true, decide_eq_true_eq] at hck
    exact so_ifn C hd hck hh hc G
  | 32, hf, hk, hd =>
    cases hf; cases hk
    simp only [zk_32, Bool.and_eq_true, Bool.or_eq_true, decide_eq_true_eq] at hck
    exact so_inn C hd hck hh hc G
  | 33, hf, hk, hd =>
    cases hf; cases hk
    simp only [zk_33, Bool.and_eq_true, Bool.or_eq_true, decide_eq_true_eq] at hck
    exact so_acn C hd hck hh hc G
  | 34, hf, hk, hd =>
    cases hf; cases hk
    simp only [zk_34, Bool.and_eq_true, Bool.or_eq_true, decide_eq_true_eq] at hck
    exact so_tsw C hd hck hh hc G
  | 35, hf, hk, hd =>
    cases hf; cases hk
    simp only [zk_35, Bool.and_eq_true, Bool.or_eq_true, decide_eq_true_eq] at hck
    exact so_nar C hd hck.1 hck.2 hh hc hroom G
  | 36, hf, hk, hd =>
    cases hf; cases hk
    simp only [zk_36, Bool.and_eq_true, decide_eq_true_eq] at hck
    refine so_new C hd hck.1.1 hck.1.2 (fun q hq => ?_) hh hc hroom G
    have g := hck.2
    rw [hq] at g
    simpa using g
  | 37, hf, hk, hd =>
    cases hf; cases hk
    simp only [zk_37, Bool.and_eq_true, Bool.or_eq_true, decide_eq_true_eq] at hck
    exact so_dup C hd hck hh hc G
  | 38, hf, hk, hd =>
    cases hf; cases hk
    simp only [zk_38, Bool.and_eq_true, Bool.or_eq_true, decide_eq_true_eq] at hck
    exact so_du2 C hd hck hh hc G
  | 39, hf, hk, hd =>
    cases hf; cases hk
    simp only [zk_39, Bool.and_eq_true, Bool.or_eq_true, decide_eq_true_eq] at hck
    exact so_pop C hd hck hh hc G
  | 40, hf, hk, hd =>
    cases hf; cases hk
    exact (zinv_inl hh hc).elim
  | 48, hf, hk, hd =>
    cases hf; cases hk
    exact (zinv_inl hh hc).elim
  | 49, hf, hk, hd =>
    cases hf; cases hk
    exact (zinv_inl hh hc).elim
  | 50, hf, hk, hd =>
    cases hf; cases hk
    exact (zinv_inl hh hc).elim
  | 41, hf, hk, hd =>
    cases hf; cases hk
    unfold h_irt at hh
    split at hh <;> cases hh
    exact (zch_0 hc).elim
  | 42, hf, hk, hd =>
    cases hf; cases hk
    unfold h_zrt at hh
    split at hh <;> cases hh
    exact (zch_0 hc).elim
  | 43, hf, hk, hd =>
    cases hf; cases hk
    unfold h_art at hh
    split at hh <;> cases hh
    exact (zch_0 hc).elim
  | 44, hf, hk, hd =>
    cases hf; cases hk
    unfold h_vrt at hh
    split at hh <;> cases hh
    exact (zch_0 hc).elim
  | 45, hf, hk, hd =>
    cases hf; cases hk
    simp only [zk_45, Bool.and_eq_true, decide_eq_true_eq] at hck
    exact so_oin C hd hck.1.1.1 hck.1.1.2 hck.1.2 hck.2 hh hc G
  | 46, hf, hk, hd =>
    cases hf; cases hk
    simp only [zk_46, Bool.and_eq_true, Bool.or_eq_true, decide_eq_true_eq] at hck
    exact so_sln C hd hck.1 hh hc G
  | 47, hf, hk, hd =>
    cases hf; cases hk
    simp only [zk_47, Bool.and_eq_true, Bool.or_eq_true, decide_eq_true_eq] at hck
    exact so_sld C hd hck.1 hh hc G
  | n + 51, hf, hk, hd => simp [ptab] at hf
theorem zreturn {r : Option PV} (hp : pst mi pc pl st h = .inr (.inl (true, r))) : zrk mi pc st r := by
  obtain ⟨op, len, a, b2, d, z, ts, f, k, hf, hh, hk, hck, hd⟩ := pst_row hp (fun w => by cases w)
  by_cases h41 : op = 41
  · subst h41; cases hf; cases hk
    simp only [zk_41, Bool.and_eq_true, decide_eq_true_eq] at hck
    obtain ⟨rfl, hR⟩ := hck
    unfold h_irt at hh
    split at hh
    · cases hh; exact Or.inl ⟨_, rfl, rfl, hR, hd⟩
    · cases hh
  by_cases h42 : op = 42
  · subst h42; cases hf; cases hk
    simp only [zk_42, Bool.and_eq_true, decide_eq_true_eq] at hck
    obtain ⟨rfl, hR⟩ := hck
    unfold h_zrt at hh
    split at hh
    · simp only [Sum.inr.injEq, Sum.inl.injEq, Prod.mk.injEq] at hh
      exact Or.inr (Or.inl ⟨_, rfl, hh.2.symm, hh.1, hR, hd⟩)
    · cases hh
  by_cases h43 : op = 43
  · subst h43; cases hf; cases hk
    simp only [zk_43, Bool.and_eq_true, decide_eq_true_eq] at hck
    obtain ⟨rfl, hR⟩ := hck
    unfold h_art at hh
    split at hh
    · cases hh
      split at hR
      · rename_i n hn; exact Or.inr (Or.inr (Or.inl ⟨_, _, rfl, rfl, hn, Or.inl ⟨n, rfl⟩, hd⟩))
      · rename_i n hn; exact Or.inr (Or.inr (Or.inl ⟨_, _, rfl, rfl, hn, Or.inr ⟨n, rfl⟩, hd⟩))
      · cases hR
    · cases hh
  by_cases h44 : op = 44
  · subst h44; cases hf; cases hk
    simp only [zk_44, Bool.and_eq_true, decide_eq_true_eq] at hck
    obtain ⟨rfl, hR⟩ := hck
    unfold h_vrt at hh
    split at hh
    · cases hh; exact Or.inr (Or.inr (Or.inr ⟨rfl, rfl, hR, hd⟩))
    · cases hh
  by_cases h40 : op = 40
  · subst h40; cases hf; exact (zinv_ret hh).elim
  by_cases h48 : op = 48
  · subst h48; cases hf; exact (zinv_ret hh).elim
  by_cases h49 : op = 49
  · subst h49; cases hf; exact (zinv_ret hh).elim
  by_cases h50 : op = 50
  · subst h50; cases hf; exact (zinv_ret hh).elim
  obtain ⟨l, hl⟩ := zil_all op f hf h40 h41 h42 h43 h44 h48 h49 h50 len a b2 d z ts pc pl st h
  rw [hl] at hh
  cases hh
theorem zcallT {n m' : Nat} {as rest : List PV} {r1 : Option PV} {h1 : PH} (IH : zTH l n) (C : zcx p R s m args meth c mi sc D cI cZ A) (hp : pst mi pc pl st h = .inr (.inr (m', as, rest))) (hx : pex n m' (0, pfr m' as, [], h) = some (r1, h1))
    (hroom : h1.1.length ≤ R.cells + k0 ∧ zsz h1.1 ≤ R.slots + s0) (G : zG p l e R s m args below meth c Q mi sc b D cI cZ A k0 s0 ad0 (pc + 3, pl, r1.toList ++ rest, h1)) : zG p l e R s m args below meth c Q mi sc b D cI cZ A k0 s0 ad0 (pc, pl, st, h) := by
  obtain ⟨op, len, a, b2, d, z, ts, f, k, hf, hh, hk, hck, hd⟩ := pst_row hp (fun w => by cases w)
  have hgr := pex_gr _ _ _ _ hx
  simp only at hgr
  have hle : h.1.length ≤ h1.1.length := by obtain ⟨⟨ext, e1⟩, -⟩ := hgr; rw [e1]; simp
  have hle2 : zsz h.1 ≤ zsz h1.1 := by obtain ⟨⟨ext, e1⟩, -⟩ := hgr; rw [e1, zsz_app]; omega
  by_cases h40 : op = 40
  · subst h40; cases hf; cases hk
    simp only [zk_40, Bool.and_eq_true, decide_eq_true_eq] at hck
    obtain ⟨⟨⟨rfl, hc0⟩, hz⟩, hz7⟩ := hck
    obtain ⟨hl, hK, hb2, ha, hF, hLL⟩ := zcall_in 0 C 0 hc0
    obtain ⟨rfl, i2, i3, i4, i5, i6⟩ := inv_use hh
    obtain ⟨r, as', cc, nn, rfl, hcell, hcc⟩ := i6 rfl
    intro ad H locs ls cells slots Z
    have ec := Z.2.2.2.2.2.2.1
    have eS := Z.2.2.2.2.2.2.2.1
    simp only at ec eS
    have hst := zst_ok Z
    rw [i5] at hst
    have hrest : ∀ v ∈ rest, zok sc h.1.length v := fun v hv => hst v (List.mem_append_right _ hv)
    have hok : ∀ v ∈ (zA r :: as'), zok False h.1.length v := fun v hv => zok_plain (hst v (List.mem_append_left _ (List.mem_reverse.mpr hv))) (i3 v hv)
    have hM := zmet (b := b) (D := D) (sz := H.size) IH hx ha (i4.trans hb2) hok Z.1 Z.2.2.1
    obtain ⟨i, hB⟩ := zmB_use ha
    simp only [zmB, Bool.and_eq_true, decide_eq_true_eq] at hB
    obtain ⟨⟨⟨⟨⟨⟨⟨⟨-, -⟩, -⟩, -⟩, -⟩, -⟩, -⟩, -⟩, hkk⟩ := hB
    rw [if_pos hK] at hkk
    simp only [Bool.and_eq_true] at hkk
    have hcc7 : ∃ q, vwCl[cc]? = some q ∧ q.1 = (zmY m').cls := by
      have : cc < vwCl.length := by rw [hcc]; exact hz7
      refine ⟨vwCl[cc], List.getElem?_eq_getElem this, ?_⟩
      rw [← hz, ← hcc]
      simp only [zcn, List.getElem?_eq_getElem this]
    obtain ⟨vq, hv, hvn⟩ := hcc7
    have he := zw_at (cI := cI) (cZ := cZ) (ad := ad) hcell
    rw [ze_obj (vwCl_lt hv)] at he
    refine zcall_tail (rest := rest) (h1 := h1) (r1 := r1) (av := (Value.ref (ad r) :: as'.map (zv b ad)).toArray) C Z hrest hgr G ?_
    refine va_runV (As := as'.map (zv b ad)) (C := (zmY m').cls) ⟨C.1, C.2.1, C.2.2.1, C.2.2.2.1, C.2.2.2.2.1⟩ hM ⟨zcallB C ha hl hF hLL, C.2.2.2.2.1 _ (zAt_mem hkk.1), C.2.2.2.2.1 _ (zAt_mem hkk.2)⟩ ⟨zblind, ?_, fun U hU hW => zpre C Z _ U hU hW⟩ rfl ?_ (zst_ls Z).1 ?_ (lv_room (by rw [zcats]; omega)) hd ⟨by omega, by omega⟩
    · rw [← hvn]; exact va_recv C.2.2.2.2.2.1 Z.2.1 hv he
    · rw [hK]; simp at i4 ⊢; omega
    · rw [i5]; simp [zv, va_rf]
  by_cases h48 : op = 48
  · subst h48; cases hf; cases hk
    simp only [zk_48, Bool.and_eq_true, decide_eq_true_eq] at hck
    obtain ⟨⟨⟨rfl, hc0⟩, hz⟩, hz7⟩ := hck
    obtain ⟨hl, hK, hb2, ha, hF, hLL⟩ := zcall_in 0 C 1 hc0
    obtain ⟨rfl, i2, i3, i4, i5, i6⟩ := inv_use hh
    obtain ⟨r, as', cc, nn, rfl, hcell, hcc⟩ := i6 rfl
    intro ad H locs ls cells slots Z
    have ec := Z.2.2.2.2.2.2.1
    have eS := Z.2.2.2.2.2.2.2.1
    simp only at ec eS
    have hst := zst_ok Z
    rw [i5] at hst
    have hrest : ∀ v ∈ rest, zok sc h.1.length v := fun v hv => hst v (List.mem_append_right _ hv)
    have hok : ∀ v ∈ (zA r :: as'), zok False h.1.length v := fun v hv => zok_plain (hst v (List.mem_append_left _ (List.mem_reverse.mpr hv))) (i3 v hv)
    have hM := zmet (b := b) (D := D) (sz := H.size) IH hx ha (i4.trans hb2) hok Z.1 Z.2.2.1
    obtain ⟨i, hB⟩ := zmB_use ha
    simp only [zmB, Bool.and_eq_true, decide_eq_true_eq] at hB
    obtain ⟨⟨⟨⟨⟨⟨⟨⟨-, -⟩, -⟩, -⟩, -⟩, -⟩, -⟩, -⟩, hkk⟩ := hB
    rw [if_neg (by omega), if_pos hK] at hkk
    simp only [Bool.and_eq_true, decide_eq_true_eq] at hkk
    have hCB := zcallB (mc := h1.1.length - h.1.length) (ms := zsz h1.1 - zsz h.1) C ha hl hF hLL
    rw [hkk.2] at hCB hM
    refine zcall_tail (rest := rest) (h1 := h1) (r1 := r1) (av := (Value.ref (ad r) :: as'.map (zv b ad)).toArray) C Z hrest hgr G ?_
    refine va_runI (As := as'.map (zv b ad)) ⟨C.1, C.2.1, C.2.2.1, C.2.2.2.1, C.2.2.2.2.1⟩ hM ⟨hCB, hkk.1.2, C.2.2.2.2.1 _ (zAt_mem hkk.1.1)⟩ ⟨zblind, fun U hU hW => zpre C Z _ U hU hW⟩ rfl ?_ (zst_ls Z).1 ?_ (lv_room (by rw [zcats]; omega)) hd ⟨by omega, by omega⟩
    · rw [hK]; simp at i4 ⊢; omega
    · rw [i5]; simp [zv, va_rf]
  by_cases h49 : op = 49
  · subst h49; cases hf; cases hk
    simp only [zk_49, Bool.and_eq_true, decide_eq_true_eq] at hck
    obtain ⟨rfl, hc0⟩ := hck
    obtain ⟨hl, hK, hb2, ha, hF, hLL⟩ := zcall_in 0 C 2 hc0
    obtain ⟨rfl, i2, i3, i4, i5, -⟩ := inv_use hh
    intro ad H locs ls cells slots Z
    have ec := Z.2.2.2.2.2.2.1
    have eS := Z.2.2.2.2.2.2.2.1
    simp only at ec eS
    have hst := zst_ok Z
    rw [i5] at hst
    have hrest : ∀ v ∈ rest, zok sc h.1.length v := fun v hv => hst v (List.mem_append_right _ hv)
    have hok : ∀ v ∈ as, zok False h.1.length v := fun v hv => zok_plain (hst v (List.mem_append_left _ (List.mem_reverse.mpr hv))) (i3 v hv)
    have hM := zmet (b := b) (D := D) (sz := H.size) IH hx ha (i4.trans hb2) hok Z.1 Z.2.2.1
    obtain ⟨i, hB⟩ := zmB_use ha
    simp only [zmB, Bool.and_eq_true, decide_eq_true_eq] at hB
    obtain ⟨⟨⟨⟨⟨⟨⟨⟨-, -⟩, -⟩, -⟩, -⟩, -⟩, -⟩, -⟩, hkk⟩ := hB
    rw [if_neg (by omega), if_neg (by omega)] at hkk
    refine zcall_tail (rest := rest) (h1 := h1) (r1 := r1) (av := (as.map (zv b ad)).toArray) C Z hrest hgr G ?_
    refine va_runS (As := as.map (zv b ad)) ⟨C.1, C.2.1, C.2.2.1, C.2.2.2.1, C.2.2.2.2.1⟩ hM ⟨zcallB C ha hl hF hLL, C.2.2.2.2.1 _ (zAt_mem hkk)⟩ ⟨zblind, fun U hU hW => zpre C Z _ U hU hW⟩ rfl ?_ (zst_ls Z).1 ?_ (lv_room (by rw [zcats]; omega)) hd ⟨by omega, by omega⟩
    · rw [hK]; simp at i4 ⊢; omega
    · rw [i5]; simp
  by_cases h50 : op = 50
  · subst h50; cases hf; cases hk
    simp only [zk_50, Bool.and_eq_true, Bool.or_eq_true, decide_eq_true_eq] at hck
    obtain ⟨⟨⟨⟨⟨⟨⟨⟨⟨rfl, hy⟩, hO⟩, hK⟩, hb2⟩, ha⟩, hF⟩, hLL⟩, hz⟩, hz7⟩ := hck
    have hF : zmF a + 1 ≤ R.frames := Nat.le_trans hF C.2.2.2.2.2.2.2.2.2.1
    have hLL : 8 + (zmN a + 11) + zmL a ≤ R.locals := Nat.le_trans hLL C.2.2.2.2.2.2.2.2.2.2.1
    have hnest : va_Nw (.methodLinkNest (zwn (zmO mi)) d (zmY a) RX5) s := by
      rw [hO]
      rcases hy with ⟨rfl, e2⟩ | ⟨rfl, e2⟩
      · rw [e2]; exact C.2.2.2.2.2.2.2.2.2.2.2.1
      · rw [e2]; exact C.2.2.2.2.2.2.2.2.2.2.2.2
    obtain ⟨rfl, i2, i3, i4, i5, i6⟩ := inv_use hh
    obtain ⟨r, as', cc, nn, rfl, hcell, hcc⟩ := i6 rfl
    intro ad H locs ls cells slots Z
    have ec := Z.2.2.2.2.2.2.1
    have eS := Z.2.2.2.2.2.2.2.1
    simp only at ec eS
    have hst := zst_ok Z
    rw [i5] at hst
    have hrest : ∀ v ∈ rest, zok sc h.1.length v := fun v hv => hst v (List.mem_append_right _ hv)
    have hok : ∀ v ∈ (zA r :: as'), zok False h.1.length v := fun v hv => zok_plain (hst v (List.mem_append_left _ (List.mem_reverse.mpr hv))) (i3 v hv)
    have hM := zmet (b := b) (D := D) (sz := H.size) IH hx ha (i4.trans hb2) hok Z.1 Z.2.2.1
    obtain ⟨i, hB⟩ := zmB_use ha
    simp only [zmB, Bool.and_eq_true, decide_eq_true_eq] at hB
    obtain ⟨⟨⟨⟨⟨⟨⟨⟨hi, -⟩, hmh⟩, hpar⟩, -⟩, -⟩, -⟩, -⟩, hkk⟩ := hB
    rw [if_neg (by omega), if_pos hK] at hkk
    simp only [Bool.and_eq_true, decide_eq_true_eq] at hkk
    have hcode := zcw_all m' ha
    rw [hkk.2] at hM hcode
    refine zcall_tail (rest := rest) (h1 := h1) (r1 := r1) (av := (Value.ref (ad r) :: as'.map (zv b ad)).toArray) C Z hrest hgr G ?_
    refine va_runIN (As := as'.map (zv b ad)) ⟨C.1, C.2.1, C.2.2.1, C.2.2.2.1, C.2.2.2.2.1⟩ hM ⟨va_cnB (ws' := WS) _ C.2.2.2.2.1 (fun w hw => by
      rcases List.mem_cons.mp hw with rfl | hw
      · exact ⟨hcode, WS_ok hcode⟩
      · exact ⟨hw, WS_ok hw⟩) rfl rfl rfl hnest (C.2.2.2.2.1 _ (zAt_mem hi)) ⟨hmh.1, hmh.2, hpar⟩ ⟨hF, hLL⟩, hkk.1.2, C.2.2.2.2.1 _ (zAt_mem hkk.1.1)⟩ ⟨zblind, fun U hU hW => zpre C Z _ U hU hW⟩ rfl ?_ (zst_ls Z).1 ?_ (lv_room (by rw [zcats]; omega)) hd ⟨by omega, by omega⟩
    · rw [hK]; simp at i4 ⊢; omega
    · rw [i5]; simp [zv, va_rf]
  by_cases h41 : op = 41
  · subst h41; cases hf; unfold h_irt at hh; split at hh <;> cases hh
  by_cases h42 : op = 42
  · subst h42; cases hf; unfold h_zrt at hh; split at hh <;> cases hh
  by_cases h43 : op = 43
  · subst h43; cases hf; unfold h_art at hh; split at hh <;> cases hh
  by_cases h44 : op = 44
  · subst h44; cases hf; unfold h_vrt at hh; split at hh <;> cases hh
  obtain ⟨l, hl⟩ := zil_all op f hf h40 h41 h42 h43 h44 h48 h49 h50 len a b2 d z ts pc pl st h
  rw [hl] at hh
  cases hh
end MAIN
/-- WHAT MY MACHINE DOES, THE CLAIM'S DOES -/
theorem zmain (l : Launch) : ∀ n, zTH l n := by
  intro n
  induction n with
  | zero => intro mi t r h' hx; cases hx
  | succ n ih =>
    intro mi t r h' hx p e R s m args below meth c Q sc b D cI cZ A k0 s0 ad0 C hR1 hR2 hret
    obtain ⟨pc, pl, st, h⟩ := t
    unfold pex at hx
    split at hx
    · rename_i ll hl
      obtain ⟨q, hq, hv⟩ := zch_of hx
      obtain ⟨⟨ext, e1⟩, -⟩ := pex_gr _ _ _ _ hv
      simp only at e1
      have g1 : q.2.2.2.1.length ≤ h'.1.length := by rw [e1]; simp
      have g2 : zsz q.2.2.2.1 ≤ zsz h'.1 := by rw [e1, zsz_app]; omega
      exact zstep C hl hq ⟨by omega, by omega⟩ (ih mi q r h' hv C hR1 hR2 hret)
    · rename_i cc r0 hl
      cases cc with
      | false => cases hx
      | true =>
        cases hx
        intro ad H locs ls cells slots Z
        exact hret pc pl st ad H locs ls cells slots Z (zreturn hl)
    · rename_i m' as rest hl
      obtain ⟨⟨r1, h1⟩, hw, hv⟩ := Option.bind_eq_some_iff.mp hx
      obtain ⟨⟨ext, e1⟩, -⟩ := pex_gr _ _ _ _ hv
      simp only at e1
      have g1 : h1.1.length ≤ h'.1.length := by rw [e1]; simp
      have g2 : zsz h1.1 ≤ zsz h'.1 := by rw [e1, zsz_app]; omega
      exact zcallT ih C hl hw ⟨by omega, by omega⟩ (ih mi _ r h' hv C hR1 hR2 hret)
end
section
/-! THE CLAIM OUT OF ONE WALK OF THE LAW'S BODY. Your part is whole_start (and what it stands on); all else here is the same for every law, but numbers. -/
def R_law : String := "MatchRowsLaw"
def lw_P (b : Addr) (xs : List Int32) (args : Array Value) (s : State) : Prop := args = #[.ref b] ∧ s.IntsAt b xs ∧ xs.length ≤ 2560 ∧ (Jvm.Cond.and given_1 narrow_1).before args s = true
def lw_Q (_ : Array Value) (s : State) (o : Outcome) (t : State) : Prop := o = .returned (some (.int 1)) ∧ Framed s o t [] 600000 7302250
def lw_Z (below : List Frame) (a : Array Value) (s : State) : State → Prop := fun t => ∃ o, t.status = .running ∧ Ended t below o ∧ lw_Q a s o t
/-- the law's own end, with 1 on the stack, nothing written that was there before, its room as the claim has it -/
theorem lw_ret {p : Program} {l : Launch} {e : Env} {s : State} {m : MethodId} {below : List Frame} {meth : Method} {c : Code} {b : Nat} (hx : p.tables.exec = Jvm.exec) (hb : c.code = code) (hr : meth.sig.returnType = ret) (hlocks : meth.locks = false) {pc : Nat} {H : Heap} {ls : Array Slot} (hdg : decode code pc = .ok (.ireturn, 1)) : W p l e room_1 s m #[Value.ref b] below meth c H [] 600000 7302250 (lw_Z below #[Value.ref b] s) (F0 m pc ls [.int 1]) := by
  intro T hT X
  obtain ⟨fs, hret, hrun, hended, hW, hframe⟩ := X.leave (v := some (.int 1)) (hlocks := hlocks) (fun h => by rw [hr] at h; cases h)
  have hmeth' : T.vm.method? m = some meth := X.method'
  refine ⟨T.setFrames fs, ?_, .returned (some (.int 1)), hrun, hended, rfl, ⟨_, rfl⟩, hW, hframe⟩
  jvm_step X.here [X.here.top, hx, hb, hdg, hmeth', hr, ret, narrow_b1]
  (try refine ⟨rfl, ?_⟩); (try refine ⟨rfl, ?_⟩)
  first | (intro acts; rw [hret _ acts rfl rfl rfl]) | rw [hret _ _ rfl rfl rfl]
  exact Steps.refl _
/-- what holds at the law's entry: the machine, the code, the tables' words (any of lw_tbl by 'hts w (by decide +kernel)'), the script of L ints xs at the cell b, what the Statement gives of the start (any of its parts by flat_of_before) -/
def lw_At (p : Program) (s : State) (m : MethodId) (meth : Method) (c : Code) (b L : Nat) (xs : Nat → Int32) : Prop :=
  p.tables.exec = Jvm.exec ∧ c.code = code ∧ meth.sig.returnType = ret ∧ c.maxLocals = 4 ∧ s.vm.findClass R_law = some m.cls ∧ (∀ w ∈ lw_tbl, w.before #[Value.ref b] s = true) ∧ va_X b L xs s s.heap ∧ b < s.heap.size ∧ meth.locks = false ∧ (Jvm.Cond.and given_1 narrow_1).before #[Value.ref b] s = true
theorem zinst_ok : vwCl.all (fun q => zIn (.instantiable q.1 q.2.2)) = true := by decide +kernel
theorem znest_ok : (zIn (.methodLinkNest RX5 37 yX0_init RX5) || decide ((Jvm.Cond.methodLinkNest RX5 37 yX0_init RX5) ∈ lw_tbl)) = true ∧ (zIn (.methodLinkNest RX5 44 yX1_init RX5) || decide ((Jvm.Cond.methodLinkNest RX5 44 yX1_init RX5) ∈ lw_tbl)) = true := by decide +kernel
theorem znest_in : (Jvm.Cond.methodLinkNest RX5 37 yX0_init RX5) ∈ lw_tbl ∧ (Jvm.Cond.methodLinkNest RX5 44 yX1_init RX5) ∈ lw_tbl := by
  have h := znest_ok
  simp only [Bool.or_eq_true, decide_eq_true_eq] at h
  refine ⟨?_, ?_⟩
  · rcases h.1 with q | q
    · exact (List.mem_filter.mp (zIn_mem q)).1
    · exact q
  · rcases h.2 with q | q
    · exact (List.mem_filter.mp (zIn_mem q)).1
    · exact q
/-- the start of the law, in my machine -/
def zS0 (L : Nat) (xs : Nat → Int32) : PT := (0, [zS, zU, zU, zU], [], ([], fun _ _ => 0, fun _ _ => none, (L, fun j => (xs j).toInt)))
theorem whole_of {p : Program} {e : Env} {s : State} {m : MethodId} {below : List Frame} {meth : Method} {c : Code} (l : Launch) {b L : Nat} {xs : Nat → Int32} (hL : L ≤ 2560) (C0 : lw_At p s m meth c b L xs)
    {n : Nat} {h' : PH} (hx : pex n 172 (zS0 L xs) = some (some (zI 1), h')) (hr1 : h'.1.length ≤ 600000) (hr2 : zsz h'.1 ≤ 7302250) :
    W p l e room_1 s m #[Value.ref b] below meth c s.heap [] 0 0 (lw_Z below #[Value.ref b] s) (entryFrame m ([Value.ref b] : List Value).toArray 4) := by
  obtain ⟨hx0, hb, hr, hml, hown, hts, hX, hbl, hlocks, hgv⟩ := id C0
  have htsW : ∀ w ∈ WS, w.before #[Value.ref b] s = true := fun w hw => hts w (List.mem_filter.mp hw).1
  have hk0 : ∀ k : Nat, ∃ x : ClassId × (Nat → Nat), ∀ q : vw_C, vwCl[k]? = some q → u_Kn s q.1 q.2.1 q.2.2 x.1 x.2 := by
    intro k
    cases hq : vwCl[k]? with
    | none => exact ⟨(0, fun _ => 0), fun q h => by cases h⟩
    | some q =>
      obtain ⟨cC, iS, h⟩ := u_known (ws := WS) (args := #[Value.ref b]) (n := q.2.2) htsW (zcl_ok k q hq).1 (htsW _ (zIn_mem (List.all_eq_true.mp zinst_ok q (List.mem_of_getElem? hq))))
      exact ⟨(cC, iS), fun q' h' => by cases h'; exact h⟩
  obtain ⟨f, hf⟩ := Classical.axiomOfChoice hk0
  obtain ⟨cI, kI, compI, i1, i2, i3⟩ := Cond.arrayClass_spec (htsW _ (zAt_mem zwAI))
  obtain ⟨cZ, kZ, compZ, z1, z2, z3⟩ := Cond.arrayClass_spec (htsW _ (zAt_mem zwAZ))
  have hK : va_K (fun k => (f k).1, fun k => (f k).2) vwCl [(cI, .int), (cZ, .boolean)] s := by
    refine ⟨fun k q hq => hf k q hq, fun k q hq => ?_⟩
    match k, hq with
    | 0, hq => cases hq; exact ⟨fun n z => ⟨fun k h => (by cases h), kI, i2, compI, i3⟩, i1⟩
    | 1, hq => cases hq; exact ⟨fun n z => ⟨fun k h => (by cases h), kZ, z2, compZ, z3⟩, z1⟩
    | k + 2, hq => simp at hq
  have C : zcx p room_1 s m #[Value.ref b] meth c 172 True (fun k => (f k).1, fun k => (f k).2) cI cZ (fun q => s.heap.size ≤ q) :=
    ⟨hx0, hb, hml, hown, htsW, hK, fun q h => h, fun h => absurd h (by decide), fun _ => trivial, by decide, by decide, va_Nw.of rfl (hts _ znest_in.1), va_Nw.of rfl (hts _ znest_in.2)⟩
  rw [lg_entry_eq]
  refine zmain l n 172 (zS0 L xs) _ h' hx (k0 := 0) (s0 := 0) (ad0 := fun _ => 0) (b := b) C (by show h'.1.length ≤ 600000 + 0; omega) (by show zsz h'.1 ≤ 7302250 + 0; omega) ?_ (fun _ => 0) s.heap [] _ 0 0 ?_
  · intro pc pl st ad H locs ls cells slots Z hrk
    have ec := Z.2.2.2.2.2.2.1
    have eS := Z.2.2.2.2.2.2.2.1
    simp only at ec eS
    rcases hrk with ⟨x, -, -, hR, -⟩ | ⟨x, rfl, hx1, -, -, hdg⟩ | ⟨q, ty, -, h2, -⟩ | ⟨-, h2, -⟩
    · exact absurd hR (by decide)
    · cases hx1
      refine va_forget (fun q hq => Z.2.2.2.1.2.2 q hq) ?_
      refine W.widen (k := 600000) (n := 7302250) (by omega) (by omega) ?_
      exact lw_ret hx0 hb hr hlocks hdg
    · cases h2
    · cases h2
  · refine ⟨⟨fun i j => zin_0, fun i j r h => (by cases h), fun k sh h => (by simp [zS0] at h), by show L < 2 ^ 31; omega, fun j => zin_I _⟩, fun k q h => (by simp [zw, zS0] at h), ⟨fun i j p q h => (by simp [zw, zS0] at h), fun k q h => (by simp [zw, zS0] at h)⟩, va_S.rf, ?_, fun v hv => (by cases hv), rfl, rfl, fun k h => absurd h (by omega), fun _ => ⟨?_, hbl, Nat.not_le.mpr hbl⟩⟩
    · exact zls_entry (as := [zS]) (b := b) (ad := fun _ => 0) (by show 1 ≤ 4; omega) (fun v hv => by rcases List.mem_singleton.mp hv with rfl; trivial)
    · show va_X b L (fun j => Int32.ofInt (xs j).toInt) s s.heap
      have : (fun j => Int32.ofInt (xs j).toInt) = xs := by funext j; exact zofI _
      rw [this]
      exact hX
end
section
/-! runs of the small machine, many steps at a time -/
abbrev PV1 : Type := Option PV × PH
def Run (m : Nat) (t : PT) (v : PV1) : Prop := ∃ n, pex n m t = some v
theorem pex_up : ∀ (n m : Nat) (t : PT) (v : PV1), pex n m t = some v → pex (n + 1) m t = some v := by
  intro n
  induction n with
  | zero => intro m t v h; cases h
  | succ n ih =>
    intro m t v h
    have e : pex (n + 1 + 1) m t = match pst m t.1 t.2.1 t.2.2.1 t.2.2.2 with
      | .inl l => l.foldr (fun q acc => cond q.1 (pex (n + 1) m q.2) acc) none
      | .inr (.inl (c, r)) => cond c (some (r, t.2.2.2)) none
      | .inr (.inr (m', as, rest)) => (pex (n + 1) m' (0, pfr m' as, [], t.2.2.2)).bind fun r => pex (n + 1) m (t.1 + 3, t.2.1, r.1.toList ++ rest, r.2) := rfl
    rw [e]
    unfold pex at h
    split at h
    · rename_i l hl
      simp only [hl]
      clear hl e
      induction l with
      | nil => cases h
      | cons a l ihl =>
        obtain ⟨c, x⟩ := a
        cases c with
        | true => exact ih _ _ _ h
        | false => exact ihl h
    · rename_i c r hl
      simp only [hl]
      exact h
    · rename_i m' as rest hl
      simp only [hl]
      obtain ⟨w, hw, hv⟩ := Option.bind_eq_some_iff.mp h
      exact Option.bind_eq_some_iff.mpr ⟨w, ih _ _ _ hw, ih _ _ _ hv⟩
theorem pex_le {n n' m : Nat} {t : PT} {v : PV1} (h : pex n m t = some v) (hn : n ≤ n') : pex n' m t = some v := by
  induction hn with
  | refl => exact h
  | step _ ih => exact pex_up _ _ _ _ ih
theorem Run_det {m : Nat} {t : PT} {v w : PV1} (h1 : Run m t v) (h2 : Run m t w) : v = w := by
  obtain ⟨n1, h1⟩ := h1
  obtain ⟨n2, h2⟩ := h2
  have a := pex_le h1 (Nat.le_max_left n1 n2)
  have b := pex_le h2 (Nat.le_max_right n1 n2)
  exact Option.some.inj (a.symm.trans b)
theorem Run_iff {m : Nat} {t : PT} {w : PV1} (h : Run m t w) (v : PV1) : Run m t v ↔ v = w := ⟨fun q => Run_det q h, fun q => q ▸ h⟩
def zmem (a : Nat) : List Nat → Bool
  | [] => false
  | b :: l => cond (Nat.beq a b) true (zmem a l)
def RunK (stops : List Nat) : Nat → Nat → PT → PV1 → Prop
  | 0, m, t, v => Run m t v
  | k + 1, m, t, v => match pst m t.1 t.2.1 t.2.2.1 t.2.2.2 with
    | .inl l => l.foldr (fun q acc => cond q.1 (cond (zmem q.2.1 stops) (Run m q.2 v) (RunK stops k m q.2 v)) acc) False
    | .inr (.inl (c, r)) => cond c (v = (r, t.2.2.2)) False
    | .inr (.inr (m', as, rest)) => ∃ w : PV1, Run m' (0, pfr m' as, [], t.2.2.2) w ∧ Run m (t.1 + 3, t.2.1, w.1.toList ++ rest, w.2) v
theorem Run_step (stops : List Nat) (m : Nat) (t : PT) (v : PV1) : RunK stops 1 m t v ↔ Run m t v := by
  unfold RunK
  constructor
  · intro h
    split at h
    · rename_i l hl
      have : ∃ n, l.foldr (fun q acc => cond q.1 (pex n m q.2) acc) none = some v := by
        clear hl
        induction l with
        | nil => exact h.elim
        | cons a l ihl =>
          obtain ⟨c, x⟩ := a
          cases c with
          | true =>
            have h2 : Run m x v := by
              simp only [List.foldr_cons, cond_true, RunK] at h
              cases hz : zmem x.1 stops <;> rw [hz] at h <;> exact h
            exact h2
          | false => exact ihl h
      obtain ⟨n, hn⟩ := this
      exact ⟨n + 1, by unfold pex; simp only [hl]; exact hn⟩
    · rename_i c r hl
      cases c with
      | true => exact ⟨1, by unfold pex; simp only [hl]; rw [show v = (r, t.2.2.2) from h]; rfl⟩
      | false => exact h.elim
    · rename_i m' as rest hl
      obtain ⟨w, ⟨n1, h1⟩, n2, h2⟩ := h
      refine ⟨max n1 n2 + 1, ?_⟩
      unfold pex
      simp only [hl]
      exact Option.bind_eq_some_iff.mpr ⟨w, pex_le h1 (Nat.le_max_left _ _), pex_le h2 (Nat.le_max_right _ _)⟩
  · rintro ⟨n, hn⟩
    cases n with
    | zero => cases hn
    | succ n =>
      unfold pex at hn
      split at hn
      · rename_i l hl
        simp only [hl]
        clear hl
        induction l with
        | nil => cases hn
        | cons a l ihl =>
          obtain ⟨c, x⟩ := a
          cases c with
          | true =>
            have h2 : Run m x v := ⟨n, hn⟩
            simp only [List.foldr_cons, cond_true, RunK]
            cases hz : zmem x.1 stops <;> exact h2
          | false => exact ihl hn
      · rename_i c r hl
        simp only [hl]
        cases c with
        | true => cases hn; rfl
        | false => cases hn
      · rename_i m' as rest hl
        simp only [hl]
        obtain ⟨w, hw, hv⟩ := Option.bind_eq_some_iff.mp hn
        exact ⟨w, ⟨n, hw⟩, n, hv⟩
theorem RunK_iff (stops : List Nat) : ∀ (k m : Nat) (t : PT) (v : PV1), RunK stops k m t v ↔ Run m t v := by
  intro k
  induction k with
  | zero => intro m t v; exact Iff.rfl
  | succ k ih =>
    intro m t v
    refine Iff.trans ?_ (Run_step stops m t v)
    show RunK stops (k + 1) m t v ↔ RunK stops (0 + 1) m t v
    unfold RunK
    split
    · rename_i l hl
      clear hl
      induction l with
      | nil => exact Iff.rfl
      | cons a l ihl =>
        obtain ⟨c, x⟩ := a
        simp only [List.foldr_cons]
        cases c with
        | true =>
          simp only [cond_true]
          cases hz : zmem x.1 stops
          · exact ih m x v
          · exact Iff.rfl
        | false => exact ihl
    · exact Iff.rfl
    · exact Iff.rfl
theorem zc_if {c : Prop} [Decidable c] {a b : Prop} : (cond (decide c) a b) = if c then a else b := by by_cases h : c <;> simp [h]
theorem zc_ib {i : Int} {n : Nat} {a : Prop} : (cond (zib i n) a False) = ((0 ≤ i ∧ i < (n : Int)) ∧ a) := by
  simp only [zib]
  by_cases h1 : 0 ≤ i <;> by_cases h2 : i < (n : Int) <;> simp [h1, h2]
theorem zc_bb {x : Int} {a : Prop} : (cond (zbb x) a False) = ((x = 0 ∨ x = 1) ∧ a) := by
  simp only [zbb]
  by_cases h1 : x = 0 <;> by_cases h2 : x = 1 <;> simp [h1, h2]
theorem zc_ibb {i x : Int} {n : Nat} {a : Prop} : (cond (zib i n && zbb x) a False) = ((0 ≤ i ∧ i < (n : Int)) ∧ (x = 0 ∨ x = 1) ∧ a) := by
  rw [← zc_bb, ← zc_ib]
  cases zib i n <;> rfl
theorem zc_n0 {y : Int} {a : Prop} : (cond (!decide (y = 0)) a False) = (y ≠ 0 ∧ a) := by by_cases h : y = 0 <;> simp [h]
def zSH : List (Nat × Nat) := [(5, 9), (2, 5), (7, 17), (7, 17), (7, 17), (7, 17), (7, 17), (4, 3), (7, 6), (4, 3), (7, 6), (3, 11), (7, 6), (7, 6), (7, 6), (7, 6), (7, 720), (7, 720), (7, 243), (0, 7), (7, 20), (7, 20), (7, 20), (7, 20), (7, 20), (1, 3), (7, 16), (7, 16), (1, 3), (7, 16), (7, 16), (7, 32), (6, 25), (8, 16), (7, 16), (7, 17), (7, 17), (7, 17), (7, 16), (7, 12), (7, 320), (8, 117649), (7, 2000), (7, 2000), (7, 2000), (7, 2000), (7, 6), (7, 6), (7, 2000), (7, 2000), (7, 32)]
def zPP : Nat → Nat → Option Nat := fun r k => match r with
  | 0 => match k with | 0 => some 1 | 1 => some 7 | 2 => some 9 | 3 => some 11 | 4 => some 19 | 5 => some 25 | 6 => some 28 | 7 => some 31 | _ => none
  | 1 => match k with | 0 => some 2 | 1 => some 3 | 2 => some 4 | 3 => some 5 | 4 => some 6 | _ => none
  | 7 => match k with | 0 => some 1 | 1 => some 8 | _ => none
  | 9 => match k with | 0 => some 1 | 1 => some 10 | _ => none
  | 11 => match k with | 0 => some 1 | 1 => some 12 | 2 => some 13 | 3 => some 14 | 4 => some 15 | 5 => some 16 | 6 => some 17 | 7 => some 18 | _ => none
  | 19 => match k with | 0 => some 20 | 1 => some 21 | 2 => some 22 | 3 => some 23 | 4 => some 24 | _ => none
  | 25 => match k with | 0 => some 26 | 1 => some 27 | _ => none
  | 28 => match k with | 0 => some 29 | 1 => some 30 | _ => none
  | 32 => match k with | 0 => some 33 | 1 => some 34 | 2 => some 35 | 3 => some 36 | 4 => some 37 | 5 => some 38 | 8 => some 39 | 10 => some 40 | 11 => some 41 | 12 => some 42 | 13 => some 43 | 14 => some 44 | 15 => some 45 | 17 => some 46 | 19 => some 47 | 22 => some 48 | 23 => some 49 | 24 => some 50 | _ => none
  | _ => none
abbrev zH (S : PS) (I : Nat → Nat → Int) : PH := (zSH, I, zPP, S)
/-- the run ends, and what stands then -/
def Wp (m : Nat) (t : PT) (Q : PV1 → Prop) : Prop := ∃ v, Run m t v ∧ Q v
theorem Wp_mono {m : Nat} {t : PT} {Q Q' : PV1 → Prop} (h : Wp m t Q) (k : ∀ v, Q v → Q' v) : Wp m t Q' := by
  obtain ⟨v, h1, h2⟩ := h
  exact ⟨v, h1, k v h2⟩
theorem Wp_of {m : Nat} {t : PT} {v : PV1} {Q : PV1 → Prop} (h : Run m t v) (k : Q v) : Wp m t Q := ⟨v, h, k⟩
theorem Run_of {m : Nat} {t : PT} {v : PV1} (h : Wp m t (fun w => w = v)) : Run m t v := by
  obtain ⟨w, h1, rfl⟩ := h
  exact h1
theorem Wp_det {m : Nat} {t : PT} {Q Q' : PV1 → Prop} (h : Wp m t Q) (h' : Wp m t Q') : Wp m t (fun v => Q v ∧ Q' v) := by
  obtain ⟨v, h1, h2⟩ := h
  obtain ⟨w, h3, h4⟩ := h'
  have e := Run_det h1 h3
  subst e
  exact ⟨v, h1, h2, h4⟩
def WpK (stops : List Nat) : Nat → Nat → PT → (PV1 → Prop) → Prop
  | 0, m, t, Q => Wp m t Q
  | k + 1, m, t, Q => match pst m t.1 t.2.1 t.2.2.1 t.2.2.2 with
    | .inl l => l.foldr (fun q acc => cond q.1 (cond (zmem q.2.1 stops) (Wp m q.2 Q) (WpK stops k m q.2 Q)) acc) False
    | .inr (.inl (c, r)) => cond c (Q (r, t.2.2.2)) False
    | .inr (.inr (m', as, rest)) => Wp m' (0, pfr m' as, [], t.2.2.2) (fun w => Wp m (t.1 + 3, t.2.1, w.1.toList ++ rest, w.2) Q)
theorem WpK_iff (stops : List Nat) : ∀ (k m : Nat) (t : PT) (Q : PV1 → Prop), WpK stops k m t Q ↔ Wp m t Q := by
  intro k
  induction k with
  | zero => intro m t Q; exact Iff.rfl
  | succ k ih =>
    intro m t Q
    have e : Wp m t Q ↔ ∃ v, RunK stops 1 m t v ∧ Q v := by
      simp only [Wp, Run_step]
    rw [e]
    unfold WpK RunK
    cases hp : pst m t.1 t.2.1 t.2.2.1 t.2.2.2 with
    | inl l =>
      simp only
      clear hp
      induction l with
      | nil => exact ⟨fun h => h.elim, fun ⟨v, h, _⟩ => h.elim⟩
      | cons a l ihl =>
        obtain ⟨c, x⟩ := a
        simp only [List.foldr_cons]
        cases c with
        | true =>
          simp only [cond_true, RunK]
          cases hz : zmem x.1 stops
          · exact ih m x Q
          · exact Iff.rfl
        | false => exact ihl
    | inr y =>
      cases y with
      | inl cr =>
        obtain ⟨c, r⟩ := cr
        cases c
        · exact ⟨fun h => h.elim, fun ⟨v, h, _⟩ => h.elim⟩
        · exact ⟨fun h => ⟨_, rfl, h⟩, fun ⟨v, h, k⟩ => by rw [show v = (r, t.2.2.2) from h] at k; exact k⟩
      | inr z =>
        obtain ⟨m', as, rest⟩ := z
        simp only
        constructor
        · rintro ⟨w, h1, v, h2, h3⟩
          exact ⟨v, ⟨w, h1, h2⟩, h3⟩
        · rintro ⟨v, ⟨w, h1, h2⟩, h3⟩
          exact ⟨w, h1, v, h2, h3⟩
end
section
/-! what each stretch of the code does (laid by a program; each is checked by unfolding) -/
set_option maxRecDepth 100000 in
theorem sg_X2_forgetAll_0_1 (S : PS) (I : Nat → Nat → Int)  (Q : PV1 → Prop) : Wp 20 (0, [zA 1], [], zH S I) Q ↔ (Wp 171 (0, [zA 2, zI ((-1)), zU, zU], [], zH S I) (fun w => Wp 20 (8, [zA 1], w.1.toList ++ [], w.2) Q)) := (WpK_iff [8] 4 20 _ Q).symm
set_option maxRecDepth 100000 in
theorem sg_X2_forgetAll_8 (S : PS) (I : Nat → Nat → Int) (w0 : PV) (Q : PV1 → Prop) : Wp 20 (8, [w0], [], zH S I) Q ↔ (Q (none, zH S I)) := (WpK_iff [8] 1 20 _ Q).symm
set_option maxRecDepth 100000 in
theorem sg_X0_forgetAll_0_19 (S : PS) (I : Nat → Nat → Int)  (Q : PV1 → Prop) : Wp 1 (0, [zA 19], [], zH S I) Q ↔ (Q (none, zH S (zs2 I 19 6 0))) := (WpK_iff [] 4 1 _ Q).symm
set_option maxRecDepth 100000 in
theorem sg_X1_forgetAll_0_25 (S : PS) (I : Nat → Nat → Int)  (Q : PV1 → Prop) : Wp 13 (0, [zA 25], [], zH S I) Q ↔ (Q (none, zH S (zs2 I 25 2 0))) := (WpK_iff [] 4 13 _ Q).symm
set_option maxRecDepth 100000 in
theorem sg_X2_unused_0_1 (S : PS) (I : Nat → Nat → Int) (w1 : PV) (w2 : PV) (Q : PV1 → Prop) : Wp 24 (0, [zA 1, w1, w2], [], zH S I) Q ↔ (Wp 24 (4, [zA 1, zI 0, zI 0], [], zH S I) Q) := (WpK_iff [4] 4 24 _ Q).symm
set_option maxRecDepth 100000 in
theorem sg_X2_unused_4_1 (S : PS) (I : Nat → Nat → Int) (x1 : Int) (x2 : Int) (Q : PV1 → Prop) : Wp 24 (4, [zA 1, zI x1, zI x2], [], zH S I) Q ↔ (cond (decide (x2 < 16)) (cond (zib x2 17) (cond (decide (I 2 (x2 : Int).toNat = (-1))) (Wp 24 (4, [zA 1, zI (zad x1 1), zI (zad x2 1)], [], zH S I) Q) (Wp 24 (4, [zA 1, zI x1, zI (zad x2 1)], [], zH S I) Q)) False) (Q (some (zI x1), zH S I))) := (WpK_iff [4] 12 24 _ Q).symm
set_option maxRecDepth 100000 in
theorem sg_X2_isInUse_0_1 (S : PS) (I : Nat → Nat → Int) (x1 : Int) (Q : PV1 → Prop) : Wp 23 (0, [zA 1, zI x1], [], zH S I) Q ↔ (cond (decide (x1 < 0)) (cond (zbb 0) (Q (some (zI 0), zH S I)) False) (cond (decide (x1 < 16)) (cond (zib x1 17) (cond (decide (I 2 (x1 : Int).toNat = (-1))) (cond (zbb 0) (Q (some (zI 0), zH S I)) False) (cond (zbb 1) (Q (some (zI 1), zH S I)) False)) False) (cond (zbb 0) (Q (some (zI 0), zH S I)) False))) := (WpK_iff [] 14 23 _ Q).symm
set_option maxRecDepth 100000 in
theorem sg_X2_kindOf_0_1 (S : PS) (I : Nat → Nat → Int) (x1 : Int) (Q : PV1 → Prop) : Wp 29 (0, [zA 1, zI x1], [], zH S I) Q ↔ (Wp 22 (0, [zA 1, zI x1], [], zH S I) (fun w => Wp 29 (5, [zA 1, zI x1], w.1.toList ++ [], w.2) Q)) := (WpK_iff [5] 3 29 _ Q).symm
set_option maxRecDepth 100000 in
theorem sg_X2_kindOf_5_1 (S : PS) (I : Nat → Nat → Int) (x1 : Int) (y0 : Int) (Q : PV1 → Prop) : Wp 29 (5, [zA 1, zI x1], [zI y0], zH S I) Q ↔ (cond (decide (y0 = 0)) (Q (some (zI ((-1))), zH S I)) (cond (zib x1 17) (Q (some (zI (I 2 (x1 : Int).toNat)), zH S I)) False)) := (WpK_iff [5] 7 29 _ Q).symm
set_option maxRecDepth 100000 in
theorem sg_X2_valueOf_0_1 (S : PS) (I : Nat → Nat → Int) (x1 : Int) (Q : PV1 → Prop) : Wp 30 (0, [zA 1, zI x1], [], zH S I) Q ↔ (Wp 22 (0, [zA 1, zI x1], [], zH S I) (fun w => Wp 30 (5, [zA 1, zI x1], w.1.toList ++ [], w.2) Q)) := (WpK_iff [5] 3 30 _ Q).symm
set_option maxRecDepth 100000 in
theorem sg_X2_valueOf_5_1 (S : PS) (I : Nat → Nat → Int) (x1 : Int) (y0 : Int) (Q : PV1 → Prop) : Wp 30 (5, [zA 1, zI x1], [zI y0], zH S I) Q ↔ (cond (decide (y0 = 0)) (Q (some (zI 0), zH S I)) (cond (zib x1 17) (cond (zib x1 17) (Q (some (zI (zan (I 3 (x1 : Int).toNat) (I 4 (x1 : Int).toNat))), zH S I)) False) False)) := (WpK_iff [5] 12 30 _ Q).symm
set_option maxRecDepth 100000 in
theorem sg_X2_maskOf_0_1 (S : PS) (I : Nat → Nat → Int) (x1 : Int) (Q : PV1 → Prop) : Wp 31 (0, [zA 1, zI x1], [], zH S I) Q ↔ (Wp 22 (0, [zA 1, zI x1], [], zH S I) (fun w => Wp 31 (5, [zA 1, zI x1], w.1.toList ++ [], w.2) Q)) := (WpK_iff [5] 3 31 _ Q).symm
set_option maxRecDepth 100000 in
theorem sg_X2_maskOf_5_1 (S : PS) (I : Nat → Nat → Int) (x1 : Int) (y0 : Int) (Q : PV1 → Prop) : Wp 31 (5, [zA 1, zI x1], [zI y0], zH S I) Q ↔ (cond (decide (y0 = 0)) (Q (some (zI 0), zH S I)) (cond (zib x1 17) (Q (some (zI (I 4 (x1 : Int).toNat)), zH S I)) False)) := (WpK_iff [5] 7 31 _ Q).symm
set_option maxRecDepth 100000 in
theorem sg_X2_rankOf_0_1 (S : PS) (I : Nat → Nat → Int) (x1 : Int) (Q : PV1 → Prop) : Wp 32 (0, [zA 1, zI x1], [], zH S I) Q ↔ (Wp 22 (0, [zA 1, zI x1], [], zH S I) (fun w => Wp 32 (5, [zA 1, zI x1], w.1.toList ++ [], w.2) Q)) := (WpK_iff [5] 3 32 _ Q).symm
set_option maxRecDepth 100000 in
theorem sg_X2_rankOf_5_1 (S : PS) (I : Nat → Nat → Int) (x1 : Int) (y0 : Int) (Q : PV1 → Prop) : Wp 32 (5, [zA 1, zI x1], [zI y0], zH S I) Q ↔ (cond (decide (y0 = 0)) (Q (some (zI 0), zH S I)) (cond (zib x1 17) (Q (some (zI (I 5 (x1 : Int).toNat)), zH S I)) False)) := (WpK_iff [5] 7 32 _ Q).symm
set_option maxRecDepth 100000 in
theorem sg_X2_actOf_0_1 (S : PS) (I : Nat → Nat → Int) (x1 : Int) (Q : PV1 → Prop) : Wp 33 (0, [zA 1, zI x1], [], zH S I) Q ↔ (Wp 22 (0, [zA 1, zI x1], [], zH S I) (fun w => Wp 33 (5, [zA 1, zI x1], w.1.toList ++ [], w.2) Q)) := (WpK_iff [5] 3 33 _ Q).symm
set_option maxRecDepth 100000 in
theorem sg_X2_actOf_5_1 (S : PS) (I : Nat → Nat → Int) (x1 : Int) (y0 : Int) (Q : PV1 → Prop) : Wp 33 (5, [zA 1, zI x1], [zI y0], zH S I) Q ↔ (cond (decide (y0 = 0)) (Q (some (zI ((-1))), zH S I)) (cond (zib x1 17) (Q (some (zI (I 6 (x1 : Int).toNat)), zH S I)) False)) := (WpK_iff [5] 7 33 _ Q).symm
set_option maxRecDepth 100000 in
theorem sg_X2_forget_0_1 (S : PS) (I : Nat → Nat → Int) (x1 : Int) (Q : PV1 → Prop) : Wp 21 (0, [zA 1, zI x1], [], zH S I) Q ↔ (Wp 22 (0, [zA 1, zI x1], [], zH S I) (fun w => Wp 21 (5, [zA 1, zI x1], w.1.toList ++ [], w.2) Q)) := (WpK_iff [5] 3 21 _ Q).symm
set_option maxRecDepth 100000 in
theorem sg_X2_forget_5_1 (S : PS) (I : Nat → Nat → Int) (x1 : Int) (y0 : Int) (Q : PV1 → Prop) : Wp 21 (5, [zA 1, zI x1], [zI y0], zH S I) Q ↔ (cond (decide (y0 = 0)) (Q (none, zH S I)) (cond (zib x1 17) (Q (none, zH S (zs2 I 2 (x1 : Int).toNat ((-1))))) False)) := (WpK_iff [5] 7 21 _ Q).symm
set_option maxRecDepth 100000 in
theorem sg_X2_setAct_0_1 (S : PS) (I : Nat → Nat → Int) (x1 : Int) (x2 : Int) (Q : PV1 → Prop) : Wp 28 (0, [zA 1, zI x1, zI x2], [], zH S I) Q ↔ (Wp 22 (0, [zA 1, zI x1], [], zH S I) (fun w => Wp 28 (5, [zA 1, zI x1, zI x2], w.1.toList ++ [], w.2) Q)) := (WpK_iff [5] 3 28 _ Q).symm
set_option maxRecDepth 100000 in
theorem sg_X2_setAct_5_1 (S : PS) (I : Nat → Nat → Int) (x1 : Int) (x2 : Int) (y0 : Int) (Q : PV1 → Prop) : Wp 28 (5, [zA 1, zI x1, zI x2], [zI y0], zH S I) Q ↔ (cond (decide (y0 = 0)) (Q (none, zH S I)) (cond (zib x1 17) (Q (none, zH S (zs2 I 6 (x1 : Int).toNat x2))) False)) := (WpK_iff [5] 7 28 _ Q).symm
set_option maxRecDepth 100000 in
theorem sg_X2_doOverlap_0_1 (S : PS) (I : Nat → Nat → Int) (x1 : Int) (x2 : Int) (Q : PV1 → Prop) : Wp 35 (0, [zA 1, zI x1, zI x2], [], zH S I) Q ↔ (Wp 22 (0, [zA 1, zI x1], [], zH S I) (fun w => Wp 35 (5, [zA 1, zI x1, zI x2], w.1.toList ++ [], w.2) Q)) := (WpK_iff [5, 13] 3 35 _ Q).symm
set_option maxRecDepth 100000 in
theorem sg_X2_doOverlap_5_1 (S : PS) (I : Nat → Nat → Int) (x1 : Int) (x2 : Int) (y0 : Int) (Q : PV1 → Prop) : Wp 35 (5, [zA 1, zI x1, zI x2], [zI y0], zH S I) Q ↔ (cond (decide (y0 = 0)) (cond (zbb 0) (Q (some (zI 0), zH S I)) False) (Wp 22 (0, [zA 1, zI x2], [], zH S I) (fun w => Wp 35 (13, [zA 1, zI x1, zI x2], w.1.toList ++ [], w.2) Q))) := (WpK_iff [5, 13] 4 35 _ Q).symm
set_option maxRecDepth 100000 in
theorem sg_X2_doOverlap_13_1 (S : PS) (I : Nat → Nat → Int) (x1 : Int) (x2 : Int) (y0 : Int) (Q : PV1 → Prop) : Wp 35 (13, [zA 1, zI x1, zI x2], [zI y0], zH S I) Q ↔ (cond (decide (y0 = 0)) (cond (zbb 0) (Q (some (zI 0), zH S I)) False) (cond (zib x1 17) (cond (zib x2 17) (cond (zib x1 17) (cond (zib x2 17) (cond (decide (zan (zan (zxr (I 3 (x1 : Int).toNat) (I 3 (x2 : Int).toNat)) (I 4 (x1 : Int).toNat)) (I 4 (x2 : Int).toNat) = 0)) (cond (zbb 1) (Q (some (zI 1), zH S I)) False) (cond (zbb 0) (Q (some (zI 0), zH S I)) False)) False) False) False) False)) := (WpK_iff [5, 13] 24 35 _ Q).symm
set_option maxRecDepth 100000 in
theorem sg_X2_isHigher_0_1 (S : PS) (I : Nat → Nat → Int) (x1 : Int) (x2 : Int) (Q : PV1 → Prop) : Wp 36 (0, [zA 1, zI x1, zI x2], [], zH S I) Q ↔ (Wp 22 (0, [zA 1, zI x1], [], zH S I) (fun w => Wp 36 (5, [zA 1, zI x1, zI x2], w.1.toList ++ [], w.2) Q)) := (WpK_iff [5, 13] 3 36 _ Q).symm
set_option maxRecDepth 100000 in
theorem sg_X2_isHigher_5_1 (S : PS) (I : Nat → Nat → Int) (x1 : Int) (x2 : Int) (y0 : Int) (Q : PV1 → Prop) : Wp 36 (5, [zA 1, zI x1, zI x2], [zI y0], zH S I) Q ↔ (cond (decide (y0 = 0)) (cond (zbb 0) (Q (some (zI 0), zH S I)) False) (Wp 22 (0, [zA 1, zI x2], [], zH S I) (fun w => Wp 36 (13, [zA 1, zI x1, zI x2], w.1.toList ++ [], w.2) Q))) := (WpK_iff [5, 13] 4 36 _ Q).symm
set_option maxRecDepth 100000 in
theorem sg_X2_isHigher_13_1 (S : PS) (I : Nat → Nat → Int) (x1 : Int) (x2 : Int) (y0 : Int) (Q : PV1 → Prop) : Wp 36 (13, [zA 1, zI x1, zI x2], [zI y0], zH S I) Q ↔ (cond (decide (y0 = 0)) (cond (zbb 0) (Q (some (zI 0), zH S I)) False) (cond (zib x1 17) (cond (zib x2 17) (cond (decide (I 5 (x2 : Int).toNat < I 5 (x1 : Int).toNat)) (cond (zbb 1) (Q (some (zI 1), zH S I)) False) (cond (zib x1 17) (cond (zib x2 17) (cond (decide (I 5 (x1 : Int).toNat = I 5 (x2 : Int).toNat)) (cond (decide (x1 < x2)) (cond (zbb 1) (Q (some (zI 1), zH S I)) False) (cond (zbb 0) (Q (some (zI 0), zH S I)) False)) (cond (zbb 0) (Q (some (zI 0), zH S I)) False)) False) False)) False) False)) := (WpK_iff [5, 13] 25 36 _ Q).symm
set_option maxRecDepth 100000 in
theorem sg_X1_length_0_25 (S : PS) (I : Nat → Nat → Int)  (Q : PV1 → Prop) : Wp 15 (0, [zA 25], [], zH S I) Q ↔ (Q (some (zI (I 25 2)), zH S I)) := (WpK_iff [] 3 15 _ Q).symm
set_option maxRecDepth 100000 in
theorem sg_X1_length_0_28 (S : PS) (I : Nat → Nat → Int)  (Q : PV1 → Prop) : Wp 15 (0, [zA 28], [], zH S I) Q ↔ (Q (some (zI (I 28 2)), zH S I)) := (WpK_iff [] 3 15 _ Q).symm
set_option maxRecDepth 100000 in
theorem sg_X1_ruleOf_0_25 (S : PS) (I : Nat → Nat → Int) (x1 : Int) (Q : PV1 → Prop) : Wp 17 (0, [zA 25, zI x1], [], zH S I) Q ↔ (cond (decide (x1 < 0)) (Q (some (zI ((-1))), zH S I)) (cond (decide (x1 < I 25 2)) (cond (decide (x1 < 16)) (cond (zib x1 16) (Q (some (zI (I 26 (x1 : Int).toNat)), zH S I)) False) (Q (some (zI ((-1))), zH S I))) (Q (some (zI ((-1))), zH S I)))) := (WpK_iff [] 17 17 _ Q).symm
set_option maxRecDepth 100000 in
theorem sg_X1_placeOf_0_25 (S : PS) (I : Nat → Nat → Int) (x1 : Int) (Q : PV1 → Prop) : Wp 18 (0, [zA 25, zI x1], [], zH S I) Q ↔ (cond (decide (x1 < 0)) (Q (some (zI ((-1))), zH S I)) (cond (decide (x1 < I 25 2)) (cond (decide (x1 < 16)) (cond (zib x1 16) (Q (some (zI (I 27 (x1 : Int).toNat)), zH S I)) False) (Q (some (zI ((-1))), zH S I))) (Q (some (zI ((-1))), zH S I)))) := (WpK_iff [] 17 18 _ Q).symm
set_option maxRecDepth 100000 in
theorem sg_X2_set_0_1 (S : PS) (I : Nat → Nat → Int) (x1 : Int) (x2 : Int) (x3 : Int) (x4 : Int) (x5 : Int) (x6 : Int) (Q : PV1 → Prop) : Wp 26 (0, [zA 1, zI x1, zI x2, zI x3, zI x4, zI x5, zI x6], [], zH S I) Q ↔ (Wp 22 (0, [zA 1, zI x1], [], zH S I) (fun w => Wp 26 (5, [zA 1, zI x1, zI x2, zI x3, zI x4, zI x5, zI x6], w.1.toList ++ [], w.2) Q)) := (WpK_iff [5] 3 26 _ Q).symm
set_option maxRecDepth 100000 in
theorem sg_X2_set_5_1 (S : PS) (I : Nat → Nat → Int) (x1 : Int) (x2 : Int) (x3 : Int) (x4 : Int) (x5 : Int) (x6 : Int) (y0 : Int) (Q : PV1 → Prop) : Wp 26 (5, [zA 1, zI x1, zI x2, zI x3, zI x4, zI x5, zI x6], [zI y0], zH S I) Q ↔ (cond (decide (y0 = 0)) (Q (none, zH S I)) (cond (zib x1 17) (cond (zib x1 17) (cond (zib x1 17) (cond (zib x1 17) (cond (zib x1 17) (Q (none, zH S (zs2 (zs2 (zs2 (zs2 (zs2 I 2 (x1 : Int).toNat x2) 3 (x1 : Int).toNat x3) 4 (x1 : Int).toNat x4) 5 (x1 : Int).toNat x5) 6 (x1 : Int).toNat x6))) False) False) False) False) False)) := (WpK_iff [5] 27 26 _ Q).symm
set_option maxRecDepth 100000 in
theorem sg_X2_bitApart_0_1 (S : PS) (I : Nat → Nat → Int) (x1 : Int) (x2 : Int) (w3 : PV) (Q : PV1 → Prop) : Wp 37 (0, [zA 1, zI x1, zI x2, w3], [], zH S I) Q ↔ (Wp 31 (0, [zA 1, zI x1], [], zH S I) (fun w => Wp 37 (5, [zA 1, zI x1, zI x2, w3], w.1.toList ++ [], w.2) Q)) := (WpK_iff [5, 10, 18, 23, 33, 38, 44] 3 37 _ Q).symm
set_option maxRecDepth 100000 in
theorem sg_X2_bitApart_5_1 (S : PS) (I : Nat → Nat → Int) (x1 : Int) (x2 : Int) (w3 : PV) (y0 : Int) (Q : PV1 → Prop) : Wp 37 (5, [zA 1, zI x1, zI x2, w3], [zI y0], zH S I) Q ↔ (Wp 31 (0, [zA 1, zI x2], [], zH S I) (fun w => Wp 37 (10, [zA 1, zI x1, zI x2, w3], w.1.toList ++ [zI y0], w.2) Q)) := (WpK_iff [5, 10, 18, 23, 33, 38, 44] 3 37 _ Q).symm
set_option maxRecDepth 100000 in
theorem sg_X2_bitApart_10_1 (S : PS) (I : Nat → Nat → Int) (x1 : Int) (x2 : Int) (w3 : PV) (y0 : Int) (y1 : Int) (Q : PV1 → Prop) : Wp 37 (10, [zA 1, zI x1, zI x2, w3], [zI y1, zI y0], zH S I) Q ↔ (cond (decide (y0 = y1)) (Wp 33 (0, [zA 1, zI x1], [], zH S I) (fun w => Wp 37 (18, [zA 1, zI x1, zI x2, w3], w.1.toList ++ [], w.2) Q)) (Q (some (zI 0), zH S I))) := (WpK_iff [5, 10, 18, 23, 33, 38, 44] 4 37 _ Q).symm
set_option maxRecDepth 100000 in
theorem sg_X2_bitApart_18_1 (S : PS) (I : Nat → Nat → Int) (x1 : Int) (x2 : Int) (w3 : PV) (y0 : Int) (Q : PV1 → Prop) : Wp 37 (18, [zA 1, zI x1, zI x2, w3], [zI y0], zH S I) Q ↔ (Wp 33 (0, [zA 1, zI x2], [], zH S I) (fun w => Wp 37 (23, [zA 1, zI x1, zI x2, w3], w.1.toList ++ [zI y0], w.2) Q)) := (WpK_iff [5, 10, 18, 23, 33, 38, 44] 3 37 _ Q).symm
set_option maxRecDepth 100000 in
theorem sg_X2_bitApart_23_1 (S : PS) (I : Nat → Nat → Int) (x1 : Int) (x2 : Int) (w3 : PV) (y0 : Int) (y1 : Int) (Q : PV1 → Prop) : Wp 37 (23, [zA 1, zI x1, zI x2, w3], [zI y1, zI y0], zH S I) Q ↔ (cond (decide (y0 = y1)) (Wp 30 (0, [zA 1, zI x1], [], zH S I) (fun w => Wp 37 (33, [zA 1, zI x1, zI x2, w3], w.1.toList ++ [], w.2) Q)) (Q (some (zI 0), zH S I))) := (WpK_iff [5, 10, 18, 23, 33, 38, 44] 4 37 _ Q).symm
set_option maxRecDepth 100000 in
theorem sg_X2_bitApart_33_1 (S : PS) (I : Nat → Nat → Int) (w1 : PV) (x2 : Int) (w3 : PV) (y0 : Int) (Q : PV1 → Prop) : Wp 37 (33, [zA 1, w1, zI x2, w3], [zI y0], zH S I) Q ↔ (Wp 30 (0, [zA 1, zI x2], [], zH S I) (fun w => Wp 37 (38, [zA 1, w1, zI x2, w3], w.1.toList ++ [zI y0], w.2) Q)) := (WpK_iff [5, 10, 18, 23, 33, 38, 44] 3 37 _ Q).symm
set_option maxRecDepth 100000 in
theorem sg_X2_bitApart_38 (S : PS) (I : Nat → Nat → Int) (w0 : PV) (w1 : PV) (w2 : PV) (w3 : PV) (y0 : Int) (y1 : Int) (Q : PV1 → Prop) : Wp 37 (38, [w0, w1, w2, w3], [zI y1, zI y0], zH S I) Q ↔ (Wp 167 (0, [zI (zxr y0 y1)], [], zH S I) (fun w => Wp 37 (44, [w0, w1, w2, zI (zxr y0 y1)], w.1.toList ++ [], w.2) Q)) := (WpK_iff [5, 10, 18, 23, 33, 38, 44] 4 37 _ Q).symm
set_option maxRecDepth 100000 in
theorem sg_X2_bitApart_44 (S : PS) (I : Nat → Nat → Int) (w0 : PV) (w1 : PV) (w2 : PV) (x3 : Int) (y0 : Int) (Q : PV1 → Prop) : Wp 37 (44, [w0, w1, w2, zI x3], [zI y0], zH S I) Q ↔ (cond (decide (y0 = 1)) (Q (some (zI x3), zH S I)) (Q (some (zI 0), zH S I))) := (WpK_iff [5, 10, 18, 23, 33, 38, 44] 5 37 _ Q).symm
set_option maxRecDepth 100000 in
theorem sg_X0_push_0_19 (S : PS) (I : Nat → Nat → Int) (x1 : Int) (x2 : Int) (x3 : Int) (x4 : Int) (x5 : Int) (Q : PV1 → Prop) : Wp 3 (0, [zA 19, zI x1, zI x2, zI x3, zI x4, zI x5], [], zH S I) Q ↔ (cond (decide (I 19 5 < 0)) (Q (none, zH S I)) (cond (decide (I 19 5 < 20)) (cond (zib (I 19 5) 20) (cond (zib ((zs2 I 20 (I 19 5 : Int).toNat x1) 19 5) 20) (cond (zib ((zs2 (zs2 I 20 (I 19 5 : Int).toNat x1) 21 ((zs2 I 20 (I 19 5 : Int).toNat x1) 19 5 : Int).toNat x2) 19 5) 20) (cond (zib ((zs2 (zs2 (zs2 I 20 (I 19 5 : Int).toNat x1) 21 ((zs2 I 20 (I 19 5 : Int).toNat x1) 19 5 : Int).toNat x2) 22 ((zs2 (zs2 I 20 (I 19 5 : Int).toNat x1) 21 ((zs2 I 20 (I 19 5 : Int).toNat x1) 19 5 : Int).toNat x2) 19 5 : Int).toNat x3) 19 5) 20) (cond (zib ((zs2 (zs2 (zs2 (zs2 I 20 (I 19 5 : Int).toNat x1) 21 ((zs2 I 20 (I 19 5 : Int).toNat x1) 19 5 : Int).toNat x2) 22 ((zs2 (zs2 I 20 (I 19 5 : Int).toNat x1) 21 ((zs2 I 20 (I 19 5 : Int).toNat x1) 19 5 : Int).toNat x2) 19 5 : Int).toNat x3) 23 ((zs2 (zs2 (zs2 I 20 (I 19 5 : Int).toNat x1) 21 ((zs2 I 20 (I 19 5 : Int).toNat x1) 19 5 : Int).toNat x2) 22 ((zs2 (zs2 I 20 (I 19 5 : Int).toNat x1) 21 ((zs2 I 20 (I 19 5 : Int).toNat x1) 19 5 : Int).toNat x2) 19 5 : Int).toNat x3) 19 5 : Int).toNat x4) 19 5) 20) (cond (!decide ((20 : Int) = 0)) (Wp 170 (0, [zI (zad ((zs2 (zs2 (zs2 (zs2 (zs2 (zs2 I 20 (I 19 5 : Int).toNat x1) 21 ((zs2 I 20 (I 19 5 : Int).toNat x1) 19 5 : Int).toNat x2) 22 ((zs2 (zs2 I 20 (I 19 5 : Int).toNat x1) 21 ((zs2 I 20 (I 19 5 : Int).toNat x1) 19 5 : Int).toNat x2) 19 5 : Int).toNat x3) 23 ((zs2 (zs2 (zs2 I 20 (I 19 5 : Int).toNat x1) 21 ((zs2 I 20 (I 19 5 : Int).toNat x1) 19 5 : Int).toNat x2) 22 ((zs2 (zs2 I 20 (I 19 5 : Int).toNat x1) 21 ((zs2 I 20 (I 19 5 : Int).toNat x1) 19 5 : Int).toNat x2) 19 5 : Int).toNat x3) 19 5 : Int).toNat x4) 24 ((zs2 (zs2 (zs2 (zs2 I 20 (I 19 5 : Int).toNat x1) 21 ((zs2 I 20 (I 19 5 : Int).toNat x1) 19 5 : Int).toNat x2) 22 ((zs2 (zs2 I 20 (I 19 5 : Int).toNat x1) 21 ((zs2 I 20 (I 19 5 : Int).toNat x1) 19 5 : Int).toNat x2) 19 5 : Int).toNat x3) 23 ((zs2 (zs2 (zs2 I 20 (I 19 5 : Int).toNat x1) 21 ((zs2 I 20 (I 19 5 : Int).toNat x1) 19 5 : Int).toNat x2) 22 ((zs2 (zs2 I 20 (I 19 5 : Int).toNat x1) 21 ((zs2 I 20 (I 19 5 : Int).toNat x1) 19 5 : Int).toNat x2) 19 5 : Int).toNat x3) 19 5 : Int).toNat x4) 19 5 : Int).toNat x5) 19 5 (zrm (zad ((zs2 (zs2 (zs2 (zs2 (zs2 I 20 (I 19 5 : Int).toNat x1) 21 ((zs2 I 20 (I 19 5 : Int).toNat x1) 19 5 : Int).toNat x2) 22 ((zs2 (zs2 I 20 (I 19 5 : Int).toNat x1) 21 ((zs2 I 20 (I 19 5 : Int).toNat x1) 19 5 : Int).toNat x2) 19 5 : Int).toNat x3) 23 ((zs2 (zs2 (zs2 I 20 (I 19 5 : Int).toNat x1) 21 ((zs2 I 20 (I 19 5 : Int).toNat x1) 19 5 : Int).toNat x2) 22 ((zs2 (zs2 I 20 (I 19 5 : Int).toNat x1) 21 ((zs2 I 20 (I 19 5 : Int).toNat x1) 19 5 : Int).toNat x2) 19 5 : Int).toNat x3) 19 5 : Int).toNat x4) 24 ((zs2 (zs2 (zs2 (zs2 I 20 (I 19 5 : Int).toNat x1) 21 ((zs2 I 20 (I 19 5 : Int).toNat x1) 19 5 : Int).toNat x2) 22 ((zs2 (zs2 I 20 (I 19 5 : Int).toNat x1) 21 ((zs2 I 20 (I 19 5 : Int).toNat x1) 19 5 : Int).toNat x2) 19 5 : Int).toNat x3) 23 ((zs2 (zs2 (zs2 I 20 (I 19 5 : Int).toNat x1) 21 ((zs2 I 20 (I 19 5 : Int).toNat x1) 19 5 : Int).toNat x2) 22 ((zs2 (zs2 I 20 (I 19 5 : Int).toNat x1) 21 ((zs2 I 20 (I 19 5 : Int).toNat x1) 19 5 : Int).toNat x2) 19 5 : Int).toNat x3) 19 5 : Int).toNat x4) 19 5 : Int).toNat x5) 19 5) 1) 20)) 19 6) 1), zI 20], [], zH S (zs2 (zs2 (zs2 (zs2 (zs2 (zs2 I 20 (I 19 5 : Int).toNat x1) 21 ((zs2 I 20 (I 19 5 : Int).toNat x1) 19 5 : Int).toNat x2) 22 ((zs2 (zs2 I 20 (I 19 5 : Int).toNat x1) 21 ((zs2 I 20 (I 19 5 : Int).toNat x1) 19 5 : Int).toNat x2) 19 5 : Int).toNat x3) 23 ((zs2 (zs2 (zs2 I 20 (I 19 5 : Int).toNat x1) 21 ((zs2 I 20 (I 19 5 : Int).toNat x1) 19 5 : Int).toNat x2) 22 ((zs2 (zs2 I 20 (I 19 5 : Int).toNat x1) 21 ((zs2 I 20 (I 19 5 : Int).toNat x1) 19 5 : Int).toNat x2) 19 5 : Int).toNat x3) 19 5 : Int).toNat x4) 24 ((zs2 (zs2 (zs2 (zs2 I 20 (I 19 5 : Int).toNat x1) 21 ((zs2 I 20 (I 19 5 : Int).toNat x1) 19 5 : Int).toNat x2) 22 ((zs2 (zs2 I 20 (I 19 5 : Int).toNat x1) 21 ((zs2 I 20 (I 19 5 : Int).toNat x1) 19 5 : Int).toNat x2) 19 5 : Int).toNat x3) 23 ((zs2 (zs2 (zs2 I 20 (I 19 5 : Int).toNat x1) 21 ((zs2 I 20 (I 19 5 : Int).toNat x1) 19 5 : Int).toNat x2) 22 ((zs2 (zs2 I 20 (I 19 5 : Int).toNat x1) 21 ((zs2 I 20 (I 19 5 : Int).toNat x1) 19 5 : Int).toNat x2) 19 5 : Int).toNat x3) 19 5 : Int).toNat x4) 19 5 : Int).toNat x5) 19 5 (zrm (zad ((zs2 (zs2 (zs2 (zs2 (zs2 I 20 (I 19 5 : Int).toNat x1) 21 ((zs2 I 20 (I 19 5 : Int).toNat x1) 19 5 : Int).toNat x2) 22 ((zs2 (zs2 I 20 (I 19 5 : Int).toNat x1) 21 ((zs2 I 20 (I 19 5 : Int).toNat x1) 19 5 : Int).toNat x2) 19 5 : Int).toNat x3) 23 ((zs2 (zs2 (zs2 I 20 (I 19 5 : Int).toNat x1) 21 ((zs2 I 20 (I 19 5 : Int).toNat x1) 19 5 : Int).toNat x2) 22 ((zs2 (zs2 I 20 (I 19 5 : Int).toNat x1) 21 ((zs2 I 20 (I 19 5 : Int).toNat x1) 19 5 : Int).toNat x2) 19 5 : Int).toNat x3) 19 5 : Int).toNat x4) 24 ((zs2 (zs2 (zs2 (zs2 I 20 (I 19 5 : Int).toNat x1) 21 ((zs2 I 20 (I 19 5 : Int).toNat x1) 19 5 : Int).toNat x2) 22 ((zs2 (zs2 I 20 (I 19 5 : Int).toNat x1) 21 ((zs2 I 20 (I 19 5 : Int).toNat x1) 19 5 : Int).toNat x2) 19 5 : Int).toNat x3) 23 ((zs2 (zs2 (zs2 I 20 (I 19 5 : Int).toNat x1) 21 ((zs2 I 20 (I 19 5 : Int).toNat x1) 19 5 : Int).toNat x2) 22 ((zs2 (zs2 I 20 (I 19 5 : Int).toNat x1) 21 ((zs2 I 20 (I 19 5 : Int).toNat x1) 19 5 : Int).toNat x2) 19 5 : Int).toNat x3) 19 5 : Int).toNat x4) 19 5 : Int).toNat x5) 19 5) 1) 20))) (fun w => Wp 3 (94, [zA 19, zI x1, zI x2, zI x3, zI x4, zI x5], w.1.toList ++ [zA 19], w.2) Q)) False) False) False) False) False) False) (Q (none, zH S I)))) := (WpK_iff [94] 52 3 _ Q).symm
set_option maxRecDepth 100000 in
theorem sg_X0_push_94_19 (S : PS) (I : Nat → Nat → Int) (w0 : PV) (w1 : PV) (w2 : PV) (w3 : PV) (w4 : PV) (w5 : PV) (y1 : Int) (Q : PV1 → Prop) : Wp 3 (94, [w0, w1, w2, w3, w4, w5], [zI y1, zA 19], zH S I) Q ↔ (Q (none, zH S (zs2 I 19 6 y1))) := (WpK_iff [94] 2 3 _ Q).symm
set_option maxRecDepth 100000 in
theorem sg_X2_setMask_0_1 (S : PS) (I : Nat → Nat → Int) (x1 : Int) (x2 : Int) (Q : PV1 → Prop) : Wp 27 (0, [zA 1, zI x1, zI x2], [], zH S I) Q ↔ (Wp 22 (0, [zA 1, zI x1], [], zH S I) (fun w => Wp 27 (5, [zA 1, zI x1, zI x2], w.1.toList ++ [], w.2) Q)) := (WpK_iff [5] 3 27 _ Q).symm
set_option maxRecDepth 100000 in
theorem sg_X2_setMask_5_1 (S : PS) (I : Nat → Nat → Int) (x1 : Int) (x2 : Int) (y0 : Int) (Q : PV1 → Prop) : Wp 27 (5, [zA 1, zI x1, zI x2], [zI y0], zH S I) Q ↔ (cond (decide (y0 = 0)) (Q (none, zH S I)) (cond (zib x1 17) (Q (none, zH S (zs2 I 4 (x1 : Int).toNat x2))) False)) := (WpK_iff [5] 7 27 _ Q).symm
set_option maxRecDepth 100000 in
theorem sg_X0_length_0_19 (S : PS) (I : Nat → Nat → Int)  (Q : PV1 → Prop) : Wp 2 (0, [zA 19], [], zH S I) Q ↔ (Q (some (zI (I 19 6)), zH S I)) := (WpK_iff [] 3 2 _ Q).symm
set_option maxRecDepth 100000 in
theorem sg_X0_firstTable_0_19 (S : PS) (I : Nat → Nat → Int)  (Q : PV1 → Prop) : Wp 7 (0, [zA 19], [], zH S I) Q ↔ (Wp 6 (0, [zA 19, zA 20, zU], [], zH S I) (fun w => Wp 7 (8, [zA 19], w.1.toList ++ [], w.2) Q)) := (WpK_iff [8] 4 7 _ Q).symm
set_option maxRecDepth 100000 in
theorem sg_X0_firstTable_8 (S : PS) (I : Nat → Nat → Int) (w0 : PV) (y0 : Int) (Q : PV1 → Prop) : Wp 7 (8, [w0], [zI y0], zH S I) Q ↔ (Q (some (zI y0), zH S I)) := (WpK_iff [8] 1 7 _ Q).symm
set_option maxRecDepth 100000 in
theorem sg_X0_secondTable_0_19 (S : PS) (I : Nat → Nat → Int)  (Q : PV1 → Prop) : Wp 8 (0, [zA 19], [], zH S I) Q ↔ (Wp 6 (0, [zA 19, zA 21, zU], [], zH S I) (fun w => Wp 8 (8, [zA 19], w.1.toList ++ [], w.2) Q)) := (WpK_iff [8] 4 8 _ Q).symm
set_option maxRecDepth 100000 in
theorem sg_X0_secondTable_8 (S : PS) (I : Nat → Nat → Int) (w0 : PV) (y0 : Int) (Q : PV1 → Prop) : Wp 8 (8, [w0], [zI y0], zH S I) Q ↔ (Q (some (zI y0), zH S I)) := (WpK_iff [8] 1 8 _ Q).symm
set_option maxRecDepth 100000 in
theorem sg_X0_liveTable_0_19 (S : PS) (I : Nat → Nat → Int)  (Q : PV1 → Prop) : Wp 9 (0, [zA 19], [], zH S I) Q ↔ (Wp 6 (0, [zA 19, zA 22, zU], [], zH S I) (fun w => Wp 9 (8, [zA 19], w.1.toList ++ [], w.2) Q)) := (WpK_iff [8] 4 9 _ Q).symm
set_option maxRecDepth 100000 in
theorem sg_X0_liveTable_8 (S : PS) (I : Nat → Nat → Int) (w0 : PV) (y0 : Int) (Q : PV1 → Prop) : Wp 9 (8, [w0], [zI y0], zH S I) Q ↔ (Q (some (zI y0), zH S I)) := (WpK_iff [8] 1 9 _ Q).symm
set_option maxRecDepth 100000 in
theorem sg_X0_meltedRule_0_19 (S : PS) (I : Nat → Nat → Int)  (Q : PV1 → Prop) : Wp 10 (0, [zA 19], [], zH S I) Q ↔ (Wp 6 (0, [zA 19, zA 23, zU], [], zH S I) (fun w => Wp 10 (8, [zA 19], w.1.toList ++ [], w.2) Q)) := (WpK_iff [8] 4 10 _ Q).symm
set_option maxRecDepth 100000 in
theorem sg_X0_meltedRule_8 (S : PS) (I : Nat → Nat → Int) (w0 : PV) (y0 : Int) (Q : PV1 → Prop) : Wp 10 (8, [w0], [zI y0], zH S I) Q ↔ (Q (some (zI y0), zH S I)) := (WpK_iff [8] 1 10 _ Q).symm
set_option maxRecDepth 100000 in
theorem sg_X0_pop_0_19 (S : PS) (I : Nat → Nat → Int)  (Q : PV1 → Prop) : Wp 4 (0, [zA 19], [], zH S I) Q ↔ (Wp 5 (0, [zA 19], [], zH S I) (fun w => Wp 4 (5, [zA 19], w.1.toList ++ [zA 19], w.2) Q)) := (WpK_iff [5, 19] 3 4 _ Q).symm
set_option maxRecDepth 100000 in
theorem sg_X0_pop_5_19_19 (S : PS) (I : Nat → Nat → Int) (y1 : Int) (Q : PV1 → Prop) : Wp 4 (5, [zA 19], [zI y1, zA 19], zH S I) Q ↔ (Wp 169 (0, [zI (zsb ((zs2 I 19 5 y1) 19 6) 1), zI 0], [], zH S (zs2 I 19 5 y1)) (fun w => Wp 4 (19, [zA 19], w.1.toList ++ [zA 19], w.2) Q)) := (WpK_iff [5, 19] 8 4 _ Q).symm
set_option maxRecDepth 100000 in
theorem sg_X0_pop_19_19 (S : PS) (I : Nat → Nat → Int) (w0 : PV) (y1 : Int) (Q : PV1 → Prop) : Wp 4 (19, [w0], [zI y1, zA 19], zH S I) Q ↔ (Q (none, zH S (zs2 I 19 6 y1))) := (WpK_iff [5, 19] 2 4 _ Q).symm
set_option maxRecDepth 100000 in
theorem sg_X0_meltedMask_0_19 (S : PS) (I : Nat → Nat → Int)  (Q : PV1 → Prop) : Wp 11 (0, [zA 19], [], zH S I) Q ↔ (Wp 6 (0, [zA 19, zA 24, zU], [], zH S I) (fun w => Wp 11 (8, [zA 19], w.1.toList ++ [], w.2) Q)) := (WpK_iff [8] 4 11 _ Q).symm
set_option maxRecDepth 100000 in
theorem sg_X0_meltedMask_8 (S : PS) (I : Nat → Nat → Int) (w0 : PV) (y0 : Int) (Q : PV1 → Prop) : Wp 11 (8, [w0], [zI y0], zH S I) Q ↔ (Q (some (zI y0), zH S I)) := (WpK_iff [8] 1 11 _ Q).symm
set_option maxRecDepth 100000 in
theorem sg_J7_fill_53178_0_2 (S : PS) (I : Nat → Nat → Int) (x1 : Int) (w2 : PV) (w3 : PV) (Q : PV1 → Prop) : Wp 171 (0, [zA 2, zI x1, w2, w3], [], zH S I) Q ↔ (Wp 171 (5, [zA 2, zI x1, zI 0, zI 17], [], zH S I) Q) := (WpK_iff [5] 5 171 _ Q).symm
set_option maxRecDepth 100000 in
theorem sg_J7_fill_53178_5_2 (S : PS) (I : Nat → Nat → Int) (x1 : Int) (x2 : Int) (x3 : Int) (Q : PV1 → Prop) : Wp 171 (5, [zA 2, zI x1, zI x2, zI x3], [], zH S I) Q ↔ (cond (decide (x2 < x3)) (cond (zib x2 17) (Wp 171 (5, [zA 2, zI x1, zI (zad x2 1), zI x3], [], zH S (zs2 I 2 (x2 : Int).toNat x1)) Q) False) (Q (none, zH S I))) := (WpK_iff [5] 9 171 _ Q).symm
set_option maxRecDepth 100000 in
theorem sg_J7_fill_53178_0_8 (S : PS) (I : Nat → Nat → Int) (x1 : Int) (w2 : PV) (w3 : PV) (Q : PV1 → Prop) : Wp 171 (0, [zA 8, zI x1, w2, w3], [], zH S I) Q ↔ (Wp 171 (5, [zA 8, zI x1, zI 0, zI 6], [], zH S I) Q) := (WpK_iff [5] 5 171 _ Q).symm
set_option maxRecDepth 100000 in
theorem sg_J7_fill_53178_5_8 (S : PS) (I : Nat → Nat → Int) (x1 : Int) (x2 : Int) (x3 : Int) (Q : PV1 → Prop) : Wp 171 (5, [zA 8, zI x1, zI x2, zI x3], [], zH S I) Q ↔ (cond (decide (x2 < x3)) (cond (zib x2 6) (Wp 171 (5, [zA 8, zI x1, zI (zad x2 1), zI x3], [], zH S (zs2 I 8 (x2 : Int).toNat x1)) Q) False) (Q (none, zH S I))) := (WpK_iff [5] 9 171 _ Q).symm
set_option maxRecDepth 100000 in
theorem sg_J7_fill_53178_0_10 (S : PS) (I : Nat → Nat → Int) (x1 : Int) (w2 : PV) (w3 : PV) (Q : PV1 → Prop) : Wp 171 (0, [zA 10, zI x1, w2, w3], [], zH S I) Q ↔ (Wp 171 (5, [zA 10, zI x1, zI 0, zI 6], [], zH S I) Q) := (WpK_iff [5] 5 171 _ Q).symm
set_option maxRecDepth 100000 in
theorem sg_J7_fill_53178_5_10 (S : PS) (I : Nat → Nat → Int) (x1 : Int) (x2 : Int) (x3 : Int) (Q : PV1 → Prop) : Wp 171 (5, [zA 10, zI x1, zI x2, zI x3], [], zH S I) Q ↔ (cond (decide (x2 < x3)) (cond (zib x2 6) (Wp 171 (5, [zA 10, zI x1, zI (zad x2 1), zI x3], [], zH S (zs2 I 10 (x2 : Int).toNat x1)) Q) False) (Q (none, zH S I))) := (WpK_iff [5] 9 171 _ Q).symm
set_option maxRecDepth 100000 in
theorem sg_X2_leastUnused_0_1 (S : PS) (I : Nat → Nat → Int) (w1 : PV) (Q : PV1 → Prop) : Wp 25 (0, [zA 1, w1], [], zH S I) Q ↔ (Wp 25 (2, [zA 1, zI 0], [], zH S I) Q) := (WpK_iff [2] 2 25 _ Q).symm
set_option maxRecDepth 100000 in
theorem sg_X2_leastUnused_2_1 (S : PS) (I : Nat → Nat → Int) (x1 : Int) (Q : PV1 → Prop) : Wp 25 (2, [zA 1, zI x1], [], zH S I) Q ↔ (cond (decide (x1 < 16)) (cond (zib x1 17) (cond (decide (I 2 (x1 : Int).toNat = (-1))) (Q (some (zI x1), zH S I)) (Wp 25 (2, [zA 1, zI (zad x1 1)], [], zH S I) Q)) False) (Q (some (zI ((-1))), zH S I))) := (WpK_iff [2] 11 25 _ Q).symm
set_option maxRecDepth 100000 in
theorem sg_X2_isNumber_0 (S : PS) (I : Nat → Nat → Int) (w0 : PV) (x1 : Int) (Q : PV1 → Prop) : Wp 22 (0, [w0, zI x1], [], zH S I) Q ↔ (cond (decide (x1 < 0)) (cond (zbb 0) (Q (some (zI 0), zH S I)) False) (cond (decide (16 < x1)) (cond (zbb 0) (Q (some (zI 0), zH S I)) False) (cond (zbb 1) (Q (some (zI 1), zH S I)) False))) := (WpK_iff [] 8 22 _ Q).symm
set_option maxRecDepth 100000 in
theorem sg_J7_fill_53178_0_18 (S : PS) (I : Nat → Nat → Int) (x1 : Int) (w2 : PV) (w3 : PV) (Q : PV1 → Prop) : Wp 171 (0, [zA 18, zI x1, w2, w3], [], zH S I) Q ↔ (Wp 171 (5, [zA 18, zI x1, zI 0, zI 243], [], zH S I) Q) := (WpK_iff [5] 5 171 _ Q).symm
set_option maxRecDepth 100000 in
theorem sg_J7_fill_53178_5_18 (S : PS) (I : Nat → Nat → Int) (x1 : Int) (x2 : Int) (x3 : Int) (Q : PV1 → Prop) : Wp 171 (5, [zA 18, zI x1, zI x2, zI x3], [], zH S I) Q ↔ (cond (decide (x2 < x3)) (cond (zib x2 243) (Wp 171 (5, [zA 18, zI x1, zI (zad x2 1), zI x3], [], zH S (zs2 I 18 (x2 : Int).toNat x1)) Q) False) (Q (none, zH S I))) := (WpK_iff [5] 9 171 _ Q).symm
set_option maxRecDepth 100000 in
theorem sg_X1_set_0_25 (S : PS) (I : Nat → Nat → Int) (x1 : Int) (x2 : Int) (x3 : Int) (Q : PV1 → Prop) : Wp 16 (0, [zA 25, zI x1, zI x2, zI x3], [], zH S I) Q ↔ (cond (decide (x1 < 0)) (Q (none, zH S I)) (cond (decide (x1 < I 25 2)) (cond (decide (x1 < 16)) (cond (decide (x1 < 16)) (cond (zib x1 16) (cond (zib x1 16) (Q (none, zH S (zs2 (zs2 I 26 (x1 : Int).toNat x2) 27 (x1 : Int).toNat x3))) False) False) (Q (none, zH S I))) (Q (none, zH S I))) (Q (none, zH S I)))) := (WpK_iff [] 27 16 _ Q).symm
set_option maxRecDepth 100000 in
theorem sg_X1_forgetAll_0_28 (S : PS) (I : Nat → Nat → Int)  (Q : PV1 → Prop) : Wp 13 (0, [zA 28], [], zH S I) Q ↔ (Q (none, zH S (zs2 I 28 2 0))) := (WpK_iff [] 4 13 _ Q).symm
set_option maxRecDepth 100000 in
theorem sg_X1_set_0_28 (S : PS) (I : Nat → Nat → Int) (x1 : Int) (x2 : Int) (x3 : Int) (Q : PV1 → Prop) : Wp 16 (0, [zA 28, zI x1, zI x2, zI x3], [], zH S I) Q ↔ (cond (decide (x1 < 0)) (Q (none, zH S I)) (cond (decide (x1 < I 28 2)) (cond (decide (x1 < 16)) (cond (decide (x1 < 16)) (cond (zib x1 16) (cond (zib x1 16) (Q (none, zH S (zs2 (zs2 I 29 (x1 : Int).toNat x2) 30 (x1 : Int).toNat x3))) False) False) (Q (none, zH S I))) (Q (none, zH S I))) (Q (none, zH S I)))) := (WpK_iff [] 27 16 _ Q).symm
set_option maxRecDepth 100000 in
theorem sg_X2_doesFit_0_1 (S : PS) (I : Nat → Nat → Int) (x1 : Int) (x2 : Int) (Q : PV1 → Prop) : Wp 34 (0, [zA 1, zI x1, zI x2], [], zH S I) Q ↔ (Wp 22 (0, [zA 1, zI x1], [], zH S I) (fun w => Wp 34 (5, [zA 1, zI x1, zI x2], w.1.toList ++ [], w.2) Q)) := (WpK_iff [5] 3 34 _ Q).symm
set_option maxRecDepth 100000 in
theorem sg_X2_doesFit_5_1 (S : PS) (I : Nat → Nat → Int) (x1 : Int) (x2 : Int) (y0 : Int) (Q : PV1 → Prop) : Wp 34 (5, [zA 1, zI x1, zI x2], [zI y0], zH S I) Q ↔ (cond (decide (y0 = 0)) (cond (zbb 0) (Q (some (zI 0), zH S I)) False) (cond (zib x1 17) (cond (zib x1 17) (cond (decide (zan (zxr (I 3 (x1 : Int).toNat) x2) (I 4 (x1 : Int).toNat) = 0)) (cond (zbb 1) (Q (some (zI 1), zH S I)) False) (cond (zbb 0) (Q (some (zI 0), zH S I)) False)) False) False)) := (WpK_iff [5] 16 34 _ Q).symm
set_option maxRecDepth 100000 in
theorem sg_J6_bitCount_0f7a4_0 (S : PS) (I : Nat → Nat → Int) (x0 : Int) (Q : PV1 → Prop) : Wp 167 (0, [zI x0], [], zH S I) Q ↔ (Q (some (zI (zan (zad (zad (zan (zad (zad (zan (zsb x0 (zan (zus x0 1) 1431655765)) 858993459) (zan (zus (zsb x0 (zan (zus x0 1) 1431655765)) 2) 858993459)) (zus (zad (zan (zsb x0 (zan (zus x0 1) 1431655765)) 858993459) (zan (zus (zsb x0 (zan (zus x0 1) 1431655765)) 2) 858993459)) 4)) 252645135) (zus (zan (zad (zad (zan (zsb x0 (zan (zus x0 1) 1431655765)) 858993459) (zan (zus (zsb x0 (zan (zus x0 1) 1431655765)) 2) 858993459)) (zus (zad (zan (zsb x0 (zan (zus x0 1) 1431655765)) 858993459) (zan (zus (zsb x0 (zan (zus x0 1) 1431655765)) 2) 858993459)) 4)) 252645135) 8)) (zus (zad (zan (zad (zad (zan (zsb x0 (zan (zus x0 1) 1431655765)) 858993459) (zan (zus (zsb x0 (zan (zus x0 1) 1431655765)) 2) 858993459)) (zus (zad (zan (zsb x0 (zan (zus x0 1) 1431655765)) 858993459) (zan (zus (zsb x0 (zan (zus x0 1) 1431655765)) 2) 858993459)) 4)) 252645135) (zus (zan (zad (zad (zan (zsb x0 (zan (zus x0 1) 1431655765)) 858993459) (zan (zus (zsb x0 (zan (zus x0 1) 1431655765)) 2) 858993459)) (zus (zad (zan (zsb x0 (zan (zus x0 1) 1431655765)) 858993459) (zan (zus (zsb x0 (zan (zus x0 1) 1431655765)) 2) 858993459)) 4)) 252645135) 8)) 16)) 63)), zH S I)) := (WpK_iff [] 42 167 _ Q).symm
set_option maxRecDepth 100000 in
theorem sg_J9_min_7cf53_0 (S : PS) (I : Nat → Nat → Int) (x0 : Int) (x1 : Int) (Q : PV1 → Prop) : Wp 170 (0, [zI x0, zI x1], [], zH S I) Q ↔ (cond (decide (x1 < x0)) (Q (some (zI x1), zH S I)) (Q (some (zI x0), zH S I))) := (WpK_iff [] 6 170 _ Q).symm
set_option maxRecDepth 100000 in
theorem sg_X1_ruleOf_0_28 (S : PS) (I : Nat → Nat → Int) (x1 : Int) (Q : PV1 → Prop) : Wp 17 (0, [zA 28, zI x1], [], zH S I) Q ↔ (cond (decide (x1 < 0)) (Q (some (zI ((-1))), zH S I)) (cond (decide (x1 < I 28 2)) (cond (decide (x1 < 16)) (cond (zib x1 16) (Q (some (zI (I 29 (x1 : Int).toNat)), zH S I)) False) (Q (some (zI ((-1))), zH S I))) (Q (some (zI ((-1))), zH S I)))) := (WpK_iff [] 17 17 _ Q).symm
set_option maxRecDepth 100000 in
theorem sg_X1_placeOf_0_28 (S : PS) (I : Nat → Nat → Int) (x1 : Int) (Q : PV1 → Prop) : Wp 18 (0, [zA 28, zI x1], [], zH S I) Q ↔ (cond (decide (x1 < 0)) (Q (some (zI ((-1))), zH S I)) (cond (decide (x1 < I 28 2)) (cond (decide (x1 < 16)) (cond (zib x1 16) (Q (some (zI (I 30 (x1 : Int).toNat)), zH S I)) False) (Q (some (zI ((-1))), zH S I))) (Q (some (zI ((-1))), zH S I)))) := (WpK_iff [] 17 18 _ Q).symm
set_option maxRecDepth 100000 in
theorem sg_X0_latestOf_0_19_20 (S : PS) (I : Nat → Nat → Int) (w2 : PV) (Q : PV1 → Prop) : Wp 6 (0, [zA 19, zA 20, w2], [], zH S I) Q ↔ (Wp 5 (0, [zA 19], [], zH S I) (fun w => Wp 6 (4, [zA 19, zA 20, w2], w.1.toList ++ [], w.2) Q)) := (WpK_iff [4] 2 6 _ Q).symm
set_option maxRecDepth 100000 in
theorem sg_X0_latestOf_4_20 (S : PS) (I : Nat → Nat → Int) (w0 : PV) (w2 : PV) (y0 : Int) (Q : PV1 → Prop) : Wp 6 (4, [w0, zA 20, w2], [zI y0], zH S I) Q ↔ (cond (decide (y0 < 0)) (Q (some (zI 0), zH S I)) (cond (decide (y0 < 20)) (cond (zib y0 20) (Q (some (zI (I 20 (y0 : Int).toNat)), zH S I)) False) (Q (some (zI 0), zH S I)))) := (WpK_iff [4] 12 6 _ Q).symm
set_option maxRecDepth 100000 in
theorem sg_X0_latestOf_0_19_21 (S : PS) (I : Nat → Nat → Int) (w2 : PV) (Q : PV1 → Prop) : Wp 6 (0, [zA 19, zA 21, w2], [], zH S I) Q ↔ (Wp 5 (0, [zA 19], [], zH S I) (fun w => Wp 6 (4, [zA 19, zA 21, w2], w.1.toList ++ [], w.2) Q)) := (WpK_iff [4] 2 6 _ Q).symm
set_option maxRecDepth 100000 in
theorem sg_X0_latestOf_4_21 (S : PS) (I : Nat → Nat → Int) (w0 : PV) (w2 : PV) (y0 : Int) (Q : PV1 → Prop) : Wp 6 (4, [w0, zA 21, w2], [zI y0], zH S I) Q ↔ (cond (decide (y0 < 0)) (Q (some (zI 0), zH S I)) (cond (decide (y0 < 20)) (cond (zib y0 20) (Q (some (zI (I 21 (y0 : Int).toNat)), zH S I)) False) (Q (some (zI 0), zH S I)))) := (WpK_iff [4] 12 6 _ Q).symm
set_option maxRecDepth 100000 in
theorem sg_X0_latestOf_0_19_22 (S : PS) (I : Nat → Nat → Int) (w2 : PV) (Q : PV1 → Prop) : Wp 6 (0, [zA 19, zA 22, w2], [], zH S I) Q ↔ (Wp 5 (0, [zA 19], [], zH S I) (fun w => Wp 6 (4, [zA 19, zA 22, w2], w.1.toList ++ [], w.2) Q)) := (WpK_iff [4] 2 6 _ Q).symm
set_option maxRecDepth 100000 in
theorem sg_X0_latestOf_4_22 (S : PS) (I : Nat → Nat → Int) (w0 : PV) (w2 : PV) (y0 : Int) (Q : PV1 → Prop) : Wp 6 (4, [w0, zA 22, w2], [zI y0], zH S I) Q ↔ (cond (decide (y0 < 0)) (Q (some (zI 0), zH S I)) (cond (decide (y0 < 20)) (cond (zib y0 20) (Q (some (zI (I 22 (y0 : Int).toNat)), zH S I)) False) (Q (some (zI 0), zH S I)))) := (WpK_iff [4] 12 6 _ Q).symm
set_option maxRecDepth 100000 in
theorem sg_X0_latestOf_0_19_23 (S : PS) (I : Nat → Nat → Int) (w2 : PV) (Q : PV1 → Prop) : Wp 6 (0, [zA 19, zA 23, w2], [], zH S I) Q ↔ (Wp 5 (0, [zA 19], [], zH S I) (fun w => Wp 6 (4, [zA 19, zA 23, w2], w.1.toList ++ [], w.2) Q)) := (WpK_iff [4] 2 6 _ Q).symm
set_option maxRecDepth 100000 in
theorem sg_X0_latestOf_4_23 (S : PS) (I : Nat → Nat → Int) (w0 : PV) (w2 : PV) (y0 : Int) (Q : PV1 → Prop) : Wp 6 (4, [w0, zA 23, w2], [zI y0], zH S I) Q ↔ (cond (decide (y0 < 0)) (Q (some (zI 0), zH S I)) (cond (decide (y0 < 20)) (cond (zib y0 20) (Q (some (zI (I 23 (y0 : Int).toNat)), zH S I)) False) (Q (some (zI 0), zH S I)))) := (WpK_iff [4] 12 6 _ Q).symm
set_option maxRecDepth 100000 in
theorem sg_X0_latest_0_19 (S : PS) (I : Nat → Nat → Int)  (Q : PV1 → Prop) : Wp 5 (0, [zA 19], [], zH S I) Q ↔ (Wp 168 (0, [zI (zsb (I 19 5) 1), zI 20, zU], [], zH S I) (fun w => Wp 5 (11, [zA 19], w.1.toList ++ [], w.2) Q)) := (WpK_iff [11] 6 5 _ Q).symm
set_option maxRecDepth 100000 in
theorem sg_X0_latest_11 (S : PS) (I : Nat → Nat → Int) (w0 : PV) (y0 : Int) (Q : PV1 → Prop) : Wp 5 (11, [w0], [zI y0], zH S I) Q ↔ (Q (some (zI y0), zH S I)) := (WpK_iff [11] 1 5 _ Q).symm
set_option maxRecDepth 100000 in
theorem sg_J9_max_7cf53_0 (S : PS) (I : Nat → Nat → Int) (x0 : Int) (x1 : Int) (Q : PV1 → Prop) : Wp 169 (0, [zI x0, zI x1], [], zH S I) Q ↔ (cond (decide (x0 < x1)) (Q (some (zI x1), zH S I)) (Q (some (zI x0), zH S I))) := (WpK_iff [] 6 169 _ Q).symm
set_option maxRecDepth 100000 in
theorem sg_X0_latestOf_0_19_24 (S : PS) (I : Nat → Nat → Int) (w2 : PV) (Q : PV1 → Prop) : Wp 6 (0, [zA 19, zA 24, w2], [], zH S I) Q ↔ (Wp 5 (0, [zA 19], [], zH S I) (fun w => Wp 6 (4, [zA 19, zA 24, w2], w.1.toList ++ [], w.2) Q)) := (WpK_iff [4] 2 6 _ Q).symm
set_option maxRecDepth 100000 in
theorem sg_X0_latestOf_4_24 (S : PS) (I : Nat → Nat → Int) (w0 : PV) (w2 : PV) (y0 : Int) (Q : PV1 → Prop) : Wp 6 (4, [w0, zA 24, w2], [zI y0], zH S I) Q ↔ (cond (decide (y0 < 0)) (Q (some (zI 0), zH S I)) (cond (decide (y0 < 20)) (cond (zib y0 20) (Q (some (zI (I 24 (y0 : Int).toNat)), zH S I)) False) (Q (some (zI 0), zH S I)))) := (WpK_iff [4] 12 6 _ Q).symm
set_option maxRecDepth 100000 in
theorem sg_X1_setLength_0_25 (S : PS) (I : Nat → Nat → Int) (x1 : Int) (Q : PV1 → Prop) : Wp 14 (0, [zA 25, zI x1], [], zH S I) Q ↔ (Wp 170 (0, [zI x1, zI 16], [], zH S I) (fun w => Wp 14 (8, [zA 25, zI x1], w.1.toList ++ [zI 0, zA 25], w.2) Q)) := (WpK_iff [8, 11] 5 14 _ Q).symm
set_option maxRecDepth 100000 in
theorem sg_X1_setLength_8_25 (S : PS) (I : Nat → Nat → Int) (w0 : PV) (w1 : PV) (y1 : Int) (y2 : Int) (Q : PV1 → Prop) : Wp 14 (8, [w0, w1], [zI y2, zI y1, zA 25], zH S I) Q ↔ (Wp 169 (0, [zI y1, zI y2], [], zH S I) (fun w => Wp 14 (11, [w0, w1], w.1.toList ++ [zA 25], w.2) Q)) := (WpK_iff [8, 11] 1 14 _ Q).symm
set_option maxRecDepth 100000 in
theorem sg_X1_setLength_11_25 (S : PS) (I : Nat → Nat → Int) (w0 : PV) (w1 : PV) (y1 : Int) (Q : PV1 → Prop) : Wp 14 (11, [w0, w1], [zI y1, zA 25], zH S I) Q ↔ (Q (none, zH S (zs2 I 25 2 y1))) := (WpK_iff [8, 11] 2 14 _ Q).symm
set_option maxRecDepth 100000 in
theorem sg_X1_setLength_0_28 (S : PS) (I : Nat → Nat → Int) (x1 : Int) (Q : PV1 → Prop) : Wp 14 (0, [zA 28, zI x1], [], zH S I) Q ↔ (Wp 170 (0, [zI x1, zI 16], [], zH S I) (fun w => Wp 14 (8, [zA 28, zI x1], w.1.toList ++ [zI 0, zA 28], w.2) Q)) := (WpK_iff [8, 11] 5 14 _ Q).symm
set_option maxRecDepth 100000 in
theorem sg_X1_setLength_8_28 (S : PS) (I : Nat → Nat → Int) (w0 : PV) (w1 : PV) (y1 : Int) (y2 : Int) (Q : PV1 → Prop) : Wp 14 (8, [w0, w1], [zI y2, zI y1, zA 28], zH S I) Q ↔ (Wp 169 (0, [zI y1, zI y2], [], zH S I) (fun w => Wp 14 (11, [w0, w1], w.1.toList ++ [zA 28], w.2) Q)) := (WpK_iff [8, 11] 1 14 _ Q).symm
set_option maxRecDepth 100000 in
theorem sg_X1_setLength_11_28 (S : PS) (I : Nat → Nat → Int) (w0 : PV) (w1 : PV) (y1 : Int) (Q : PV1 → Prop) : Wp 14 (11, [w0, w1], [zI y1, zA 28], zH S I) Q ↔ (Q (none, zH S (zs2 I 28 2 y1))) := (WpK_iff [8, 11] 2 14 _ Q).symm
set_option maxRecDepth 100000 in
theorem sg_J9_floorMod_7cf53_0 (S : PS) (I : Nat → Nat → Int) (x0 : Int) (x1 : Int) (w2 : PV) (Q : PV1 → Prop) : Wp 168 (0, [zI x0, zI x1, w2], [], zH S I) Q ↔ (cond (!decide ((x1 : Int) = 0)) (cond (decide (zxr x0 x1 < 0)) (cond (decide (zrm x0 x1 = 0)) (Q (some (zI (zrm x0 x1)), zH S I)) (Q (some (zI (zad (zrm x0 x1) x1)), zH S I))) (Q (some (zI (zrm x0 x1)), zH S I))) False) := (WpK_iff [] 14 168 _ Q).symm
end
section
/-! what each stretch of the code does (laid by a program; each is checked by unfolding) -/
set_option maxRecDepth 100000 in
theorem sg_X4_size_0_7 (S : PS) (I : Nat → Nat → Int)  (Q : PV1 → Prop) : Wp 57 (0, [zA 7], [], zH S I) Q ↔ (Q (some (zI (I 7 2)), zH S I)) := (WpK_iff [] 3 57 _ Q).symm
set_option maxRecDepth 100000 in
theorem sg_X4_empty_0_7 (S : PS) (I : Nat → Nat → Int) (x1 : Int) (Q : PV1 → Prop) : Wp 56 (0, [zA 7, zI x1], [], zH S I) Q ↔ (Wp 171 (0, [zA 8, zI ((-1)), zU, zU], [], zH S I) (fun w => Wp 56 (8, [zA 7, zI x1], w.1.toList ++ [], w.2) Q)) := (WpK_iff [8] 4 56 _ Q).symm
set_option maxRecDepth 100000 in
theorem sg_X4_empty_8_7 (S : PS) (I : Nat → Nat → Int) (x1 : Int) (Q : PV1 → Prop) : Wp 56 (8, [zA 7, zI x1], [], zH S I) Q ↔ (Q (none, zH S (zs2 I 7 2 x1))) := (WpK_iff [8] 4 56 _ Q).symm
set_option maxRecDepth 100000 in
theorem sg_X4_empty_0_9 (S : PS) (I : Nat → Nat → Int) (x1 : Int) (Q : PV1 → Prop) : Wp 56 (0, [zA 9, zI x1], [], zH S I) Q ↔ (Wp 171 (0, [zA 10, zI ((-1)), zU, zU], [], zH S I) (fun w => Wp 56 (8, [zA 9, zI x1], w.1.toList ++ [], w.2) Q)) := (WpK_iff [8] 4 56 _ Q).symm
set_option maxRecDepth 100000 in
theorem sg_X4_empty_8_9 (S : PS) (I : Nat → Nat → Int) (x1 : Int) (Q : PV1 → Prop) : Wp 56 (8, [zA 9, zI x1], [], zH S I) Q ↔ (Q (none, zH S (zs2 I 9 2 x1))) := (WpK_iff [8] 4 56 _ Q).symm
set_option maxRecDepth 100000 in
theorem sg_X4_placeOf_0_7 (S : PS) (I : Nat → Nat → Int) (x1 : Int) (w2 : PV) (Q : PV1 → Prop) : Wp 60 (0, [zA 7, zI x1, w2], [], zH S I) Q ↔ (Wp 60 (2, [zA 7, zI x1, zI 0], [], zH S I) Q) := (WpK_iff [2] 2 60 _ Q).symm
set_option maxRecDepth 100000 in
theorem sg_X4_placeOf_2_7 (S : PS) (I : Nat → Nat → Int) (x1 : Int) (x2 : Int) (Q : PV1 → Prop) : Wp 60 (2, [zA 7, zI x1, zI x2], [], zH S I) Q ↔ (cond (decide (x2 < 6)) (cond (decide (x1 = (-1))) (Wp 60 (2, [zA 7, zI x1, zI (zad x2 1)], [], zH S I) Q) (cond (zib x2 6) (cond (decide (I 8 (x2 : Int).toNat = x1)) (Q (some (zI x2), zH S I)) (Wp 60 (2, [zA 7, zI x1, zI (zad x2 1)], [], zH S I) Q)) False)) (Q (some (zI ((-1))), zH S I))) := (WpK_iff [2] 16 60 _ Q).symm
set_option maxRecDepth 100000 in
theorem sg_X4_placeOf_0_9 (S : PS) (I : Nat → Nat → Int) (x1 : Int) (w2 : PV) (Q : PV1 → Prop) : Wp 60 (0, [zA 9, zI x1, w2], [], zH S I) Q ↔ (Wp 60 (2, [zA 9, zI x1, zI 0], [], zH S I) Q) := (WpK_iff [2] 2 60 _ Q).symm
set_option maxRecDepth 100000 in
theorem sg_X4_placeOf_2_9 (S : PS) (I : Nat → Nat → Int) (x1 : Int) (x2 : Int) (Q : PV1 → Prop) : Wp 60 (2, [zA 9, zI x1, zI x2], [], zH S I) Q ↔ (cond (decide (x2 < 6)) (cond (decide (x1 = (-1))) (Wp 60 (2, [zA 9, zI x1, zI (zad x2 1)], [], zH S I) Q) (cond (zib x2 6) (cond (decide (I 10 (x2 : Int).toNat = x1)) (Q (some (zI x2), zH S I)) (Wp 60 (2, [zA 9, zI x1, zI (zad x2 1)], [], zH S I) Q)) False)) (Q (some (zI ((-1))), zH S I))) := (WpK_iff [2] 16 60 _ Q).symm
set_option maxRecDepth 100000 in
theorem sg_X4_hasRule_0_7 (S : PS) (I : Nat → Nat → Int) (x1 : Int) (Q : PV1 → Prop) : Wp 61 (0, [zA 7, zI x1], [], zH S I) Q ↔ (Wp 60 (0, [zA 7, zI x1, zU], [], zH S I) (fun w => Wp 61 (5, [zA 7, zI x1], w.1.toList ++ [], w.2) Q)) := (WpK_iff [5] 3 61 _ Q).symm
set_option maxRecDepth 100000 in
theorem sg_X4_hasRule_5 (S : PS) (I : Nat → Nat → Int) (w0 : PV) (w1 : PV) (y0 : Int) (Q : PV1 → Prop) : Wp 61 (5, [w0, w1], [zI y0], zH S I) Q ↔ (cond (decide (y0 = (-1))) (cond (zbb 0) (Q (some (zI 0), zH S I)) False) (cond (zbb 1) (Q (some (zI 1), zH S I)) False)) := (WpK_iff [5] 5 61 _ Q).symm
set_option maxRecDepth 100000 in
theorem sg_X4_hasRule_0_9 (S : PS) (I : Nat → Nat → Int) (x1 : Int) (Q : PV1 → Prop) : Wp 61 (0, [zA 9, zI x1], [], zH S I) Q ↔ (Wp 60 (0, [zA 9, zI x1, zU], [], zH S I) (fun w => Wp 61 (5, [zA 9, zI x1], w.1.toList ++ [], w.2) Q)) := (WpK_iff [5] 3 61 _ Q).symm
set_option maxRecDepth 100000 in
theorem sg_X4_carryOut_0_7_25 (S : PS) (I : Nat → Nat → Int) (w2 : PV) (Q : PV1 → Prop) : Wp 66 (0, [zA 7, zA 25, w2], [], zH S I) Q ↔ (Wp 66 (2, [zA 7, zA 25, zI 0], [], zH S I) Q) := (WpK_iff [2, 13, 22, 27, 30] 2 66 _ Q).symm
set_option maxRecDepth 100000 in
theorem sg_X4_carryOut_2_7_25 (S : PS) (I : Nat → Nat → Int) (x2 : Int) (Q : PV1 → Prop) : Wp 66 (2, [zA 7, zA 25, zI x2], [], zH S I) Q ↔ (cond (decide (x2 < 16)) (Wp 15 (0, [zA 25], [], zH S I) (fun w => Wp 66 (13, [zA 7, zA 25, zI x2], w.1.toList ++ [zI x2], w.2) Q)) (Q (none, zH S I))) := (WpK_iff [2, 13, 22, 27, 30] 6 66 _ Q).symm
set_option maxRecDepth 100000 in
theorem sg_X4_carryOut_13_7_25 (S : PS) (I : Nat → Nat → Int) (x2 : Int) (y0 : Int) (y1 : Int) (Q : PV1 → Prop) : Wp 66 (13, [zA 7, zA 25, zI x2], [zI y1, zI y0], zH S I) Q ↔ (cond (decide (y0 < y1)) (Wp 17 (0, [zA 25, zI x2], [], zH S I) (fun w => Wp 66 (22, [zA 7, zA 25, zI x2], w.1.toList ++ [zA 7], w.2) Q)) (Q (none, zH S I))) := (WpK_iff [2, 13, 22, 27, 30] 5 66 _ Q).symm
set_option maxRecDepth 100000 in
theorem sg_X4_carryOut_22_7_25_7 (S : PS) (I : Nat → Nat → Int) (x2 : Int) (y1 : Int) (Q : PV1 → Prop) : Wp 66 (22, [zA 7, zA 25, zI x2], [zI y1, zA 7], zH S I) Q ↔ (Wp 18 (0, [zA 25, zI x2], [], zH S I) (fun w => Wp 66 (27, [zA 7, zA 25, zI x2], w.1.toList ++ [zI y1, zA 7], w.2) Q)) := (WpK_iff [2, 13, 22, 27, 30] 3 66 _ Q).symm
set_option maxRecDepth 100000 in
theorem sg_X4_carryOut_27_7_25_7 (S : PS) (I : Nat → Nat → Int) (x2 : Int) (y1 : Int) (y2 : Int) (Q : PV1 → Prop) : Wp 66 (27, [zA 7, zA 25, zI x2], [zI y2, zI y1, zA 7], zH S I) Q ↔ (Wp 65 (0, [zA 7, zI y1, zI y2], [], zH S I) (fun w => Wp 66 (30, [zA 7, zA 25, zI x2], w.1.toList ++ [], w.2) Q)) := (WpK_iff [2, 13, 22, 27, 30] 1 66 _ Q).symm
set_option maxRecDepth 100000 in
theorem sg_X4_carryOut_30_7_25 (S : PS) (I : Nat → Nat → Int) (x2 : Int) (Q : PV1 → Prop) : Wp 66 (30, [zA 7, zA 25, zI x2], [], zH S I) Q ↔ (Wp 66 (2, [zA 7, zA 25, zI (zad x2 1)], [], zH S I) Q) := (WpK_iff [2, 13, 22, 27, 30] 2 66 _ Q).symm
set_option maxRecDepth 100000 in
theorem sg_X4_carryOut_0_9_25 (S : PS) (I : Nat → Nat → Int) (w2 : PV) (Q : PV1 → Prop) : Wp 66 (0, [zA 9, zA 25, w2], [], zH S I) Q ↔ (Wp 66 (2, [zA 9, zA 25, zI 0], [], zH S I) Q) := (WpK_iff [2, 13, 22, 27, 30] 2 66 _ Q).symm
set_option maxRecDepth 100000 in
theorem sg_X4_carryOut_2_9_25 (S : PS) (I : Nat → Nat → Int) (x2 : Int) (Q : PV1 → Prop) : Wp 66 (2, [zA 9, zA 25, zI x2], [], zH S I) Q ↔ (cond (decide (x2 < 16)) (Wp 15 (0, [zA 25], [], zH S I) (fun w => Wp 66 (13, [zA 9, zA 25, zI x2], w.1.toList ++ [zI x2], w.2) Q)) (Q (none, zH S I))) := (WpK_iff [2, 13, 22, 27, 30] 6 66 _ Q).symm
set_option maxRecDepth 100000 in
theorem sg_X4_carryOut_13_9_25 (S : PS) (I : Nat → Nat → Int) (x2 : Int) (y0 : Int) (y1 : Int) (Q : PV1 → Prop) : Wp 66 (13, [zA 9, zA 25, zI x2], [zI y1, zI y0], zH S I) Q ↔ (cond (decide (y0 < y1)) (Wp 17 (0, [zA 25, zI x2], [], zH S I) (fun w => Wp 66 (22, [zA 9, zA 25, zI x2], w.1.toList ++ [zA 9], w.2) Q)) (Q (none, zH S I))) := (WpK_iff [2, 13, 22, 27, 30] 5 66 _ Q).symm
set_option maxRecDepth 100000 in
theorem sg_X4_carryOut_22_9_25_9 (S : PS) (I : Nat → Nat → Int) (x2 : Int) (y1 : Int) (Q : PV1 → Prop) : Wp 66 (22, [zA 9, zA 25, zI x2], [zI y1, zA 9], zH S I) Q ↔ (Wp 18 (0, [zA 25, zI x2], [], zH S I) (fun w => Wp 66 (27, [zA 9, zA 25, zI x2], w.1.toList ++ [zI y1, zA 9], w.2) Q)) := (WpK_iff [2, 13, 22, 27, 30] 3 66 _ Q).symm
set_option maxRecDepth 100000 in
theorem sg_X4_carryOut_27_9_25_9 (S : PS) (I : Nat → Nat → Int) (x2 : Int) (y1 : Int) (y2 : Int) (Q : PV1 → Prop) : Wp 66 (27, [zA 9, zA 25, zI x2], [zI y2, zI y1, zA 9], zH S I) Q ↔ (Wp 65 (0, [zA 9, zI y1, zI y2], [], zH S I) (fun w => Wp 66 (30, [zA 9, zA 25, zI x2], w.1.toList ++ [], w.2) Q)) := (WpK_iff [2, 13, 22, 27, 30] 1 66 _ Q).symm
set_option maxRecDepth 100000 in
theorem sg_X4_carryOut_30_9_25 (S : PS) (I : Nat → Nat → Int) (x2 : Int) (Q : PV1 → Prop) : Wp 66 (30, [zA 9, zA 25, zI x2], [], zH S I) Q ↔ (Wp 66 (2, [zA 9, zA 25, zI (zad x2 1)], [], zH S I) Q) := (WpK_iff [2, 13, 22, 27, 30] 2 66 _ Q).symm
set_option maxRecDepth 100000 in
theorem sg_X4_makeFree_0_7 (S : PS) (I : Nat → Nat → Int) (x1 : Int) (Q : PV1 → Prop) : Wp 64 (0, [zA 7, zI x1], [], zH S I) Q ↔ (Wp 58 (0, [zA 7, zI x1], [], zH S I) (fun w => Wp 64 (5, [zA 7, zI x1], w.1.toList ++ [], w.2) Q)) := (WpK_iff [5] 3 64 _ Q).symm
set_option maxRecDepth 100000 in
theorem sg_X4_makeFree_5_7 (S : PS) (I : Nat → Nat → Int) (x1 : Int) (y0 : Int) (Q : PV1 → Prop) : Wp 64 (5, [zA 7, zI x1], [zI y0], zH S I) Q ↔ (cond (decide (y0 = 0)) (Q (none, zH S I)) (cond (zib x1 6) (Q (none, zH S (zs2 I 8 (x1 : Int).toNat ((-1))))) False)) := (WpK_iff [5] 7 64 _ Q).symm
set_option maxRecDepth 100000 in
theorem sg_X4_makeFree_0_9 (S : PS) (I : Nat → Nat → Int) (x1 : Int) (Q : PV1 → Prop) : Wp 64 (0, [zA 9, zI x1], [], zH S I) Q ↔ (Wp 58 (0, [zA 9, zI x1], [], zH S I) (fun w => Wp 64 (5, [zA 9, zI x1], w.1.toList ++ [], w.2) Q)) := (WpK_iff [5] 3 64 _ Q).symm
set_option maxRecDepth 100000 in
theorem sg_X4_makeFree_5_9 (S : PS) (I : Nat → Nat → Int) (x1 : Int) (y0 : Int) (Q : PV1 → Prop) : Wp 64 (5, [zA 9, zI x1], [zI y0], zH S I) Q ↔ (cond (decide (y0 = 0)) (Q (none, zH S I)) (cond (zib x1 6) (Q (none, zH S (zs2 I 10 (x1 : Int).toNat ((-1))))) False)) := (WpK_iff [5] 7 64 _ Q).symm
set_option maxRecDepth 100000 in
theorem sg_X4_ruleAt_0_7 (S : PS) (I : Nat → Nat → Int) (x1 : Int) (Q : PV1 → Prop) : Wp 59 (0, [zA 7, zI x1], [], zH S I) Q ↔ (Wp 58 (0, [zA 7, zI x1], [], zH S I) (fun w => Wp 59 (5, [zA 7, zI x1], w.1.toList ++ [], w.2) Q)) := (WpK_iff [5] 3 59 _ Q).symm
set_option maxRecDepth 100000 in
theorem sg_X4_ruleAt_5_7 (S : PS) (I : Nat → Nat → Int) (x1 : Int) (y0 : Int) (Q : PV1 → Prop) : Wp 59 (5, [zA 7, zI x1], [zI y0], zH S I) Q ↔ (cond (decide (y0 = 0)) (Q (some (zI ((-1))), zH S I)) (cond (zib x1 6) (Q (some (zI (I 8 (x1 : Int).toNat)), zH S I)) False)) := (WpK_iff [5] 7 59 _ Q).symm
set_option maxRecDepth 100000 in
theorem sg_X4_size_0_9 (S : PS) (I : Nat → Nat → Int)  (Q : PV1 → Prop) : Wp 57 (0, [zA 9], [], zH S I) Q ↔ (Q (some (zI (I 9 2)), zH S I)) := (WpK_iff [] 3 57 _ Q).symm
set_option maxRecDepth 100000 in
theorem sg_X4_ruleAt_0_9 (S : PS) (I : Nat → Nat → Int) (x1 : Int) (Q : PV1 → Prop) : Wp 59 (0, [zA 9, zI x1], [], zH S I) Q ↔ (Wp 58 (0, [zA 9, zI x1], [], zH S I) (fun w => Wp 59 (5, [zA 9, zI x1], w.1.toList ++ [], w.2) Q)) := (WpK_iff [5] 3 59 _ Q).symm
set_option maxRecDepth 100000 in
theorem sg_X4_ruleAt_5_9 (S : PS) (I : Nat → Nat → Int) (x1 : Int) (y0 : Int) (Q : PV1 → Prop) : Wp 59 (5, [zA 9, zI x1], [zI y0], zH S I) Q ↔ (cond (decide (y0 = 0)) (Q (some (zI ((-1))), zH S I)) (cond (zib x1 6) (Q (some (zI (I 10 (x1 : Int).toNat)), zH S I)) False)) := (WpK_iff [5] 7 59 _ Q).symm
set_option maxRecDepth 100000 in
theorem sg_X4_actFor_0_7 (S : PS) (I : Nat → Nat → Int) (x1 : Int) (w2 : PV) (Q : PV1 → Prop) : Wp 67 (0, [zA 7, zI x1, w2], [], zH S I) Q ↔ (Wp 67 (2, [zA 7, zI x1, zI 0], [], zH S I) Q) := (WpK_iff [2, 25, 41] 2 67 _ Q).symm
set_option maxRecDepth 100000 in
theorem sg_X4_actFor_2_7 (S : PS) (I : Nat → Nat → Int) (x1 : Int) (x2 : Int) (Q : PV1 → Prop) : Wp 67 (2, [zA 7, zI x1, zI x2], [], zH S I) Q ↔ (cond (decide (x2 < 6)) (cond (zib x2 6) (Wp 34 (0, [zA 1, zI (I 8 (x2 : Int).toNat), zI x1], [], zH S I) (fun w => Wp 67 (25, [zA 7, zI x1, zI x2], w.1.toList ++ [], w.2) Q)) False) (Q (some (zI ((-1))), zH S I))) := (WpK_iff [2, 25, 41] 13 67 _ Q).symm
set_option maxRecDepth 100000 in
theorem sg_X4_actFor_25_7 (S : PS) (I : Nat → Nat → Int) (x1 : Int) (x2 : Int) (y0 : Int) (Q : PV1 → Prop) : Wp 67 (25, [zA 7, zI x1, zI x2], [zI y0], zH S I) Q ↔ (cond (decide (y0 = 0)) (Wp 67 (2, [zA 7, zI x1, zI (zad x2 1)], [], zH S I) Q) (cond (zib x2 6) (Wp 33 (0, [zA 1, zI (I 8 (x2 : Int).toNat)], [], zH S I) (fun w => Wp 67 (41, [zA 7, zI x1, zI x2], w.1.toList ++ [], w.2) Q)) False)) := (WpK_iff [2, 25, 41] 8 67 _ Q).symm
set_option maxRecDepth 100000 in
theorem sg_X4_actFor_41 (S : PS) (I : Nat → Nat → Int) (w0 : PV) (w1 : PV) (w2 : PV) (y0 : Int) (Q : PV1 → Prop) : Wp 67 (41, [w0, w1, w2], [zI y0], zH S I) Q ↔ (Q (some (zI y0), zH S I)) := (WpK_iff [2, 25, 41] 1 67 _ Q).symm
set_option maxRecDepth 100000 in
theorem sg_X4_actFor_0_9 (S : PS) (I : Nat → Nat → Int) (x1 : Int) (w2 : PV) (Q : PV1 → Prop) : Wp 67 (0, [zA 9, zI x1, w2], [], zH S I) Q ↔ (Wp 67 (2, [zA 9, zI x1, zI 0], [], zH S I) Q) := (WpK_iff [2, 25, 41] 2 67 _ Q).symm
set_option maxRecDepth 100000 in
theorem sg_X4_actFor_2_9 (S : PS) (I : Nat → Nat → Int) (x1 : Int) (x2 : Int) (Q : PV1 → Prop) : Wp 67 (2, [zA 9, zI x1, zI x2], [], zH S I) Q ↔ (cond (decide (x2 < 6)) (cond (zib x2 6) (Wp 34 (0, [zA 1, zI (I 10 (x2 : Int).toNat), zI x1], [], zH S I) (fun w => Wp 67 (25, [zA 9, zI x1, zI x2], w.1.toList ++ [], w.2) Q)) False) (Q (some (zI ((-1))), zH S I))) := (WpK_iff [2, 25, 41] 13 67 _ Q).symm
set_option maxRecDepth 100000 in
theorem sg_X4_actFor_25_9 (S : PS) (I : Nat → Nat → Int) (x1 : Int) (x2 : Int) (y0 : Int) (Q : PV1 → Prop) : Wp 67 (25, [zA 9, zI x1, zI x2], [zI y0], zH S I) Q ↔ (cond (decide (y0 = 0)) (Wp 67 (2, [zA 9, zI x1, zI (zad x2 1)], [], zH S I) Q) (cond (zib x2 6) (Wp 33 (0, [zA 1, zI (I 10 (x2 : Int).toNat)], [], zH S I) (fun w => Wp 67 (41, [zA 9, zI x1, zI x2], w.1.toList ++ [], w.2) Q)) False)) := (WpK_iff [2, 25, 41] 8 67 _ Q).symm
set_option maxRecDepth 100000 in
theorem sg_X4_dueActFor_0_7 (S : PS) (I : Nat → Nat → Int) (x1 : Int) (w2 : PV) (w3 : PV) (w4 : PV) (Q : PV1 → Prop) : Wp 68 (0, [zA 7, zI x1, w2, w3, w4], [], zH S I) Q ↔ (Wp 68 (4, [zA 7, zI x1, zI ((-1)), zI 0, w4], [], zH S I) Q) := (WpK_iff [4, 31, 49, 69] 4 68 _ Q).symm
set_option maxRecDepth 100000 in
theorem sg_X4_dueActFor_4_7 (S : PS) (I : Nat → Nat → Int) (x1 : Int) (x2 : Int) (x3 : Int) (w4 : PV) (Q : PV1 → Prop) : Wp 68 (4, [zA 7, zI x1, zI x2, zI x3, w4], [], zH S I) Q ↔ (cond (decide (x3 < 6)) (cond (zib x3 6) (Wp 34 (0, [zA 1, zI (I 8 (x3 : Int).toNat), zI x1], [], zH S I) (fun w => Wp 68 (31, [zA 7, zI x1, zI x2, zI x3, zI (I 8 (x3 : Int).toNat)], w.1.toList ++ [], w.2) Q)) False) (Wp 33 (0, [zA 1, zI x2], [], zH S I) (fun w => Wp 68 (69, [zA 7, zI x1, zI x2, zI x3, w4], w.1.toList ++ [], w.2) Q))) := (WpK_iff [4, 31, 49, 69] 15 68 _ Q).symm
set_option maxRecDepth 100000 in
theorem sg_X4_dueActFor_31_7 (S : PS) (I : Nat → Nat → Int) (x1 : Int) (x2 : Int) (x3 : Int) (x4 : Int) (y0 : Int) (Q : PV1 → Prop) : Wp 68 (31, [zA 7, zI x1, zI x2, zI x3, zI x4], [zI y0], zH S I) Q ↔ (cond (decide (y0 = 0)) (Wp 68 (4, [zA 7, zI x1, zI x2, zI (zad x3 1), zI x4], [], zH S I) Q) (cond (decide (x2 = (-1))) (Wp 68 (4, [zA 7, zI x1, zI x4, zI (zad x3 1), zI x4], [], zH S I) Q) (Wp 36 (0, [zA 1, zI x4, zI x2], [], zH S I) (fun w => Wp 68 (49, [zA 7, zI x1, zI x2, zI x3, zI x4], w.1.toList ++ [], w.2) Q)))) := (WpK_iff [4, 31, 49, 69] 9 68 _ Q).symm
set_option maxRecDepth 100000 in
theorem sg_X4_dueActFor_49_7 (S : PS) (I : Nat → Nat → Int) (x1 : Int) (x2 : Int) (x3 : Int) (x4 : Int) (y0 : Int) (Q : PV1 → Prop) : Wp 68 (49, [zA 7, zI x1, zI x2, zI x3, zI x4], [zI y0], zH S I) Q ↔ (cond (decide (y0 = 0)) (Wp 68 (4, [zA 7, zI x1, zI x2, zI (zad x3 1), zI x4], [], zH S I) Q) (Wp 68 (4, [zA 7, zI x1, zI x4, zI (zad x3 1), zI x4], [], zH S I) Q)) := (WpK_iff [4, 31, 49, 69] 5 68 _ Q).symm
set_option maxRecDepth 100000 in
theorem sg_X4_dueActFor_69 (S : PS) (I : Nat → Nat → Int) (w0 : PV) (w1 : PV) (w2 : PV) (w3 : PV) (w4 : PV) (y0 : Int) (Q : PV1 → Prop) : Wp 68 (69, [w0, w1, w2, w3, w4], [zI y0], zH S I) Q ↔ (Q (some (zI y0), zH S I)) := (WpK_iff [4, 31, 49, 69] 1 68 _ Q).symm
set_option maxRecDepth 100000 in
theorem sg_X4_dueActFor_0_9 (S : PS) (I : Nat → Nat → Int) (x1 : Int) (w2 : PV) (w3 : PV) (w4 : PV) (Q : PV1 → Prop) : Wp 68 (0, [zA 9, zI x1, w2, w3, w4], [], zH S I) Q ↔ (Wp 68 (4, [zA 9, zI x1, zI ((-1)), zI 0, w4], [], zH S I) Q) := (WpK_iff [4, 31, 49, 69] 4 68 _ Q).symm
set_option maxRecDepth 100000 in
theorem sg_X4_dueActFor_4_9 (S : PS) (I : Nat → Nat → Int) (x1 : Int) (x2 : Int) (x3 : Int) (w4 : PV) (Q : PV1 → Prop) : Wp 68 (4, [zA 9, zI x1, zI x2, zI x3, w4], [], zH S I) Q ↔ (cond (decide (x3 < 6)) (cond (zib x3 6) (Wp 34 (0, [zA 1, zI (I 10 (x3 : Int).toNat), zI x1], [], zH S I) (fun w => Wp 68 (31, [zA 9, zI x1, zI x2, zI x3, zI (I 10 (x3 : Int).toNat)], w.1.toList ++ [], w.2) Q)) False) (Wp 33 (0, [zA 1, zI x2], [], zH S I) (fun w => Wp 68 (69, [zA 9, zI x1, zI x2, zI x3, w4], w.1.toList ++ [], w.2) Q))) := (WpK_iff [4, 31, 49, 69] 15 68 _ Q).symm
set_option maxRecDepth 100000 in
theorem sg_X4_dueActFor_31_9 (S : PS) (I : Nat → Nat → Int) (x1 : Int) (x2 : Int) (x3 : Int) (x4 : Int) (y0 : Int) (Q : PV1 → Prop) : Wp 68 (31, [zA 9, zI x1, zI x2, zI x3, zI x4], [zI y0], zH S I) Q ↔ (cond (decide (y0 = 0)) (Wp 68 (4, [zA 9, zI x1, zI x2, zI (zad x3 1), zI x4], [], zH S I) Q) (cond (decide (x2 = (-1))) (Wp 68 (4, [zA 9, zI x1, zI x4, zI (zad x3 1), zI x4], [], zH S I) Q) (Wp 36 (0, [zA 1, zI x4, zI x2], [], zH S I) (fun w => Wp 68 (49, [zA 9, zI x1, zI x2, zI x3, zI x4], w.1.toList ++ [], w.2) Q)))) := (WpK_iff [4, 31, 49, 69] 9 68 _ Q).symm
set_option maxRecDepth 100000 in
theorem sg_X4_dueActFor_49_9 (S : PS) (I : Nat → Nat → Int) (x1 : Int) (x2 : Int) (x3 : Int) (x4 : Int) (y0 : Int) (Q : PV1 → Prop) : Wp 68 (49, [zA 9, zI x1, zI x2, zI x3, zI x4], [zI y0], zH S I) Q ↔ (cond (decide (y0 = 0)) (Wp 68 (4, [zA 9, zI x1, zI x2, zI (zad x3 1), zI x4], [], zH S I) Q) (Wp 68 (4, [zA 9, zI x1, zI x4, zI (zad x3 1), zI x4], [], zH S I) Q)) := (WpK_iff [4, 31, 49, 69] 5 68 _ Q).symm
set_option maxRecDepth 100000 in
theorem sg_X4_firstKeyShown_0_7 (S : PS) (I : Nat → Nat → Int) (x1 : Int) (w2 : PV) (Q : PV1 → Prop) : Wp 72 (0, [zA 7, zI x1, w2], [], zH S I) Q ↔ (Wp 72 (2, [zA 7, zI x1, zI 0], [], zH S I) Q) := (WpK_iff [2, 17, 26] 2 72 _ Q).symm
set_option maxRecDepth 100000 in
theorem sg_X4_firstKeyShown_2_7 (S : PS) (I : Nat → Nat → Int) (x1 : Int) (x2 : Int) (Q : PV1 → Prop) : Wp 72 (2, [zA 7, zI x1, zI x2], [], zH S I) Q ↔ (cond (decide (x2 < 32)) (Wp 34 (0, [zA 1, zI x1, zI x2], [], zH S I) (fun w => Wp 72 (17, [zA 7, zI x1, zI x2], w.1.toList ++ [], w.2) Q)) (Q (some (zI ((-2))), zH S I))) := (WpK_iff [2, 17, 26] 8 72 _ Q).symm
set_option maxRecDepth 100000 in
theorem sg_X4_firstKeyShown_17_7 (S : PS) (I : Nat → Nat → Int) (x1 : Int) (x2 : Int) (y0 : Int) (Q : PV1 → Prop) : Wp 72 (17, [zA 7, zI x1, zI x2], [zI y0], zH S I) Q ↔ (cond (decide (y0 = 0)) (Wp 72 (2, [zA 7, zI x1, zI (zad x2 1)], [], zH S I) Q) (Wp 73 (0, [zA 7, zI x2, zI x1, zU], [], zH S I) (fun w => Wp 72 (26, [zA 7, zI x1, zI x2], w.1.toList ++ [], w.2) Q))) := (WpK_iff [2, 17, 26] 5 72 _ Q).symm
set_option maxRecDepth 100000 in
theorem sg_X4_firstKeyShown_26_7 (S : PS) (I : Nat → Nat → Int) (x1 : Int) (x2 : Int) (y0 : Int) (Q : PV1 → Prop) : Wp 72 (26, [zA 7, zI x1, zI x2], [zI y0], zH S I) Q ↔ (cond (decide (y0 = 0)) (Q (some (zI x2), zH S I)) (Wp 72 (2, [zA 7, zI x1, zI (zad x2 1)], [], zH S I) Q)) := (WpK_iff [2, 17, 26] 3 72 _ Q).symm
set_option maxRecDepth 100000 in
theorem sg_X4_firstKeyShown_0_9 (S : PS) (I : Nat → Nat → Int) (x1 : Int) (w2 : PV) (Q : PV1 → Prop) : Wp 72 (0, [zA 9, zI x1, w2], [], zH S I) Q ↔ (Wp 72 (2, [zA 9, zI x1, zI 0], [], zH S I) Q) := (WpK_iff [2, 17, 26] 2 72 _ Q).symm
set_option maxRecDepth 100000 in
theorem sg_X4_firstKeyShown_2_9 (S : PS) (I : Nat → Nat → Int) (x1 : Int) (x2 : Int) (Q : PV1 → Prop) : Wp 72 (2, [zA 9, zI x1, zI x2], [], zH S I) Q ↔ (cond (decide (x2 < 32)) (Wp 34 (0, [zA 1, zI x1, zI x2], [], zH S I) (fun w => Wp 72 (17, [zA 9, zI x1, zI x2], w.1.toList ++ [], w.2) Q)) (Q (some (zI ((-2))), zH S I))) := (WpK_iff [2, 17, 26] 8 72 _ Q).symm
set_option maxRecDepth 100000 in
theorem sg_X4_firstKeyShown_17_9 (S : PS) (I : Nat → Nat → Int) (x1 : Int) (x2 : Int) (y0 : Int) (Q : PV1 → Prop) : Wp 72 (17, [zA 9, zI x1, zI x2], [zI y0], zH S I) Q ↔ (cond (decide (y0 = 0)) (Wp 72 (2, [zA 9, zI x1, zI (zad x2 1)], [], zH S I) Q) (Wp 73 (0, [zA 9, zI x2, zI x1, zU], [], zH S I) (fun w => Wp 72 (26, [zA 9, zI x1, zI x2], w.1.toList ++ [], w.2) Q))) := (WpK_iff [2, 17, 26] 5 72 _ Q).symm
set_option maxRecDepth 100000 in
theorem sg_X4_firstKeyShown_26_9 (S : PS) (I : Nat → Nat → Int) (x1 : Int) (x2 : Int) (y0 : Int) (Q : PV1 → Prop) : Wp 72 (26, [zA 9, zI x1, zI x2], [zI y0], zH S I) Q ↔ (cond (decide (y0 = 0)) (Q (some (zI x2), zH S I)) (Wp 72 (2, [zA 9, zI x1, zI (zad x2 1)], [], zH S I) Q)) := (WpK_iff [2, 17, 26] 3 72 _ Q).symm
set_option maxRecDepth 100000 in
theorem sg_X4_isFull_0_7 (S : PS) (I : Nat → Nat → Int)  (Q : PV1 → Prop) : Wp 63 (0, [zA 7], [], zH S I) Q ↔ (Wp 62 (0, [zA 7, zU, zU], [], zH S I) (fun w => Wp 63 (4, [zA 7], w.1.toList ++ [], w.2) Q)) := (WpK_iff [4] 2 63 _ Q).symm
set_option maxRecDepth 100000 in
theorem sg_X4_isFull_4_7 (S : PS) (I : Nat → Nat → Int) (y0 : Int) (Q : PV1 → Prop) : Wp 63 (4, [zA 7], [zI y0], zH S I) Q ↔ (cond (decide (y0 < I 7 2)) (cond (zbb 0) (Q (some (zI 0), zH S I)) False) (cond (zbb 1) (Q (some (zI 1), zH S I)) False)) := (WpK_iff [4] 6 63 _ Q).symm
set_option maxRecDepth 100000 in
theorem sg_X4_isFull_0_9 (S : PS) (I : Nat → Nat → Int)  (Q : PV1 → Prop) : Wp 63 (0, [zA 9], [], zH S I) Q ↔ (Wp 62 (0, [zA 9, zU, zU], [], zH S I) (fun w => Wp 63 (4, [zA 9], w.1.toList ++ [], w.2) Q)) := (WpK_iff [4] 2 63 _ Q).symm
set_option maxRecDepth 100000 in
theorem sg_X4_isFull_4_9 (S : PS) (I : Nat → Nat → Int) (y0 : Int) (Q : PV1 → Prop) : Wp 63 (4, [zA 9], [zI y0], zH S I) Q ↔ (cond (decide (y0 < I 9 2)) (cond (zbb 0) (Q (some (zI 0), zH S I)) False) (cond (zbb 1) (Q (some (zI 1), zH S I)) False)) := (WpK_iff [4] 6 63 _ Q).symm
set_option maxRecDepth 100000 in
theorem sg_X4_packed_0_7 (S : PS) (I : Nat → Nat → Int) (w1 : PV) (w2 : PV) (Q : PV1 → Prop) : Wp 75 (0, [zA 7, w1, w2], [], zH S I) Q ↔ (Wp 75 (10, [zA 7, zI 0, zI (zsb 6 1)], [], zH S I) Q) := (WpK_iff [10] 8 75 _ Q).symm
set_option maxRecDepth 100000 in
theorem sg_X4_packed_10_7 (S : PS) (I : Nat → Nat → Int) (x1 : Int) (x2 : Int) (Q : PV1 → Prop) : Wp 75 (10, [zA 7, zI x1, zI x2], [], zH S I) Q ↔ (cond (decide (x2 < 0)) (Q (some (zI x1), zH S I)) (cond (zib x2 6) (Wp 75 (10, [zA 7, zI (zad (zad (zml x1 17) (I 8 (x2 : Int).toNat)) 1), zI (zad x2 (-1))], [], zH S I) Q) False)) := (WpK_iff [10] 15 75 _ Q).symm
set_option maxRecDepth 100000 in
theorem sg_X4_packed_0_9 (S : PS) (I : Nat → Nat → Int) (w1 : PV) (w2 : PV) (Q : PV1 → Prop) : Wp 75 (0, [zA 9, w1, w2], [], zH S I) Q ↔ (Wp 75 (10, [zA 9, zI 0, zI (zsb 6 1)], [], zH S I) Q) := (WpK_iff [10] 8 75 _ Q).symm
set_option maxRecDepth 100000 in
theorem sg_X4_packed_10_9 (S : PS) (I : Nat → Nat → Int) (x1 : Int) (x2 : Int) (Q : PV1 → Prop) : Wp 75 (10, [zA 9, zI x1, zI x2], [], zH S I) Q ↔ (cond (decide (x2 < 0)) (Q (some (zI x1), zH S I)) (cond (zib x2 6) (Wp 75 (10, [zA 9, zI (zad (zad (zml x1 17) (I 10 (x2 : Int).toNat)) 1), zI (zad x2 (-1))], [], zH S I) Q) False)) := (WpK_iff [10] 15 75 _ Q).symm
set_option maxRecDepth 100000 in
theorem sg_X4_standing_0_7 (S : PS) (I : Nat → Nat → Int) (w1 : PV) (w2 : PV) (Q : PV1 → Prop) : Wp 62 (0, [zA 7, w1, w2], [], zH S I) Q ↔ (Wp 62 (4, [zA 7, zI 0, zI 0], [], zH S I) Q) := (WpK_iff [4] 4 62 _ Q).symm
set_option maxRecDepth 100000 in
theorem sg_X4_standing_4_7 (S : PS) (I : Nat → Nat → Int) (x1 : Int) (x2 : Int) (Q : PV1 → Prop) : Wp 62 (4, [zA 7, zI x1, zI x2], [], zH S I) Q ↔ (cond (decide (x2 < 6)) (cond (zib x2 6) (cond (decide (I 8 (x2 : Int).toNat = (-1))) (Wp 62 (4, [zA 7, zI x1, zI (zad x2 1)], [], zH S I) Q) (Wp 62 (4, [zA 7, zI (zad x1 1), zI (zad x2 1)], [], zH S I) Q)) False) (Q (some (zI x1), zH S I))) := (WpK_iff [4] 14 62 _ Q).symm
set_option maxRecDepth 100000 in
theorem sg_X4_highestBelow_0_7 (S : PS) (I : Nat → Nat → Int) (x1 : Int) (w2 : PV) (w3 : PV) (w4 : PV) (w5 : PV) (Q : PV1 → Prop) : Wp 74 (0, [zA 7, zI x1, w2, w3, w4, w5], [], zH S I) Q ↔ (Wp 74 (4, [zA 7, zI x1, zI ((-1)), zI 0, w4, w5], [], zH S I) Q) := (WpK_iff [4, 36, 72] 4 74 _ Q).symm
set_option maxRecDepth 100000 in
theorem sg_X4_highestBelow_4_7 (S : PS) (I : Nat → Nat → Int) (x1 : Int) (x2 : Int) (x3 : Int) (w4 : PV) (w5 : PV) (Q : PV1 → Prop) : Wp 74 (4, [zA 7, zI x1, zI x2, zI x3, w4, w5], [], zH S I) Q ↔ (cond (decide (x3 < 6)) (cond (zib x3 6) (cond (decide (x1 = (-1))) (cond (decide (I 8 (x3 : Int).toNat = (-1))) (Wp 74 (4, [zA 7, zI x1, zI x2, zI (zad x3 1), zI (I 8 (x3 : Int).toNat), zI 1], [], zH S I) Q) (cond (decide (1 = 0)) (Wp 74 (4, [zA 7, zI x1, zI x2, zI (zad x3 1), zI (I 8 (x3 : Int).toNat), zI 1], [], zH S I) Q) (cond (decide (x2 = (-1))) (Wp 74 (4, [zA 7, zI x1, zI (I 8 (x3 : Int).toNat), zI (zad x3 1), zI (I 8 (x3 : Int).toNat), zI 1], [], zH S I) Q) (Wp 36 (0, [zA 1, zI (I 8 (x3 : Int).toNat), zI x2], [], zH S I) (fun w => Wp 74 (72, [zA 7, zI x1, zI x2, zI x3, zI (I 8 (x3 : Int).toNat), zI 1], w.1.toList ++ [], w.2) Q))))) (Wp 36 (0, [zA 1, zI x1, zI (I 8 (x3 : Int).toNat)], [], zH S I) (fun w => Wp 74 (36, [zA 7, zI x1, zI x2, zI x3, zI (I 8 (x3 : Int).toNat), w5], w.1.toList ++ [], w.2) Q))) False) (Q (some (zI x2), zH S I))) := (WpK_iff [4, 36, 72] 29 74 _ Q).symm
set_option maxRecDepth 100000 in
theorem sg_X4_highestBelow_72_7 (S : PS) (I : Nat → Nat → Int) (x1 : Int) (x2 : Int) (x3 : Int) (x4 : Int) (w5 : PV) (y0 : Int) (Q : PV1 → Prop) : Wp 74 (72, [zA 7, zI x1, zI x2, zI x3, zI x4, w5], [zI y0], zH S I) Q ↔ (cond (decide (y0 = 0)) (Wp 74 (4, [zA 7, zI x1, zI x2, zI (zad x3 1), zI x4, w5], [], zH S I) Q) (Wp 74 (4, [zA 7, zI x1, zI x4, zI (zad x3 1), zI x4, w5], [], zH S I) Q)) := (WpK_iff [4, 36, 72] 5 74 _ Q).symm
set_option maxRecDepth 100000 in
theorem sg_X4_highestBelow_36_7 (S : PS) (I : Nat → Nat → Int) (x1 : Int) (x2 : Int) (x3 : Int) (x4 : Int) (w5 : PV) (y0 : Int) (Q : PV1 → Prop) : Wp 74 (36, [zA 7, zI x1, zI x2, zI x3, zI x4, w5], [zI y0], zH S I) Q ↔ (cond (decide (y0 = 0)) (cond (decide (x4 = (-1))) (Wp 74 (4, [zA 7, zI x1, zI x2, zI (zad x3 1), zI x4, zI 0], [], zH S I) Q) (cond (decide (0 = 0)) (Wp 74 (4, [zA 7, zI x1, zI x2, zI (zad x3 1), zI x4, zI 0], [], zH S I) Q) (cond (decide (x2 = (-1))) (Wp 74 (4, [zA 7, zI x1, zI x4, zI (zad x3 1), zI x4, zI 0], [], zH S I) Q) (Wp 36 (0, [zA 1, zI x4, zI x2], [], zH S I) (fun w => Wp 74 (72, [zA 7, zI x1, zI x2, zI x3, zI x4, zI 0], w.1.toList ++ [], w.2) Q))))) (cond (decide (x4 = (-1))) (Wp 74 (4, [zA 7, zI x1, zI x2, zI (zad x3 1), zI x4, zI 1], [], zH S I) Q) (cond (decide (1 = 0)) (Wp 74 (4, [zA 7, zI x1, zI x2, zI (zad x3 1), zI x4, zI 1], [], zH S I) Q) (cond (decide (x2 = (-1))) (Wp 74 (4, [zA 7, zI x1, zI x4, zI (zad x3 1), zI x4, zI 1], [], zH S I) Q) (Wp 36 (0, [zA 1, zI x4, zI x2], [], zH S I) (fun w => Wp 74 (72, [zA 7, zI x1, zI x2, zI x3, zI x4, zI 1], w.1.toList ++ [], w.2) Q)))))) := (WpK_iff [4, 36, 72] 17 74 _ Q).symm
set_option maxRecDepth 100000 in
theorem sg_X4_carryOut_0_7_28 (S : PS) (I : Nat → Nat → Int) (w2 : PV) (Q : PV1 → Prop) : Wp 66 (0, [zA 7, zA 28, w2], [], zH S I) Q ↔ (Wp 66 (2, [zA 7, zA 28, zI 0], [], zH S I) Q) := (WpK_iff [2, 13, 22, 27, 30] 2 66 _ Q).symm
set_option maxRecDepth 100000 in
theorem sg_X4_carryOut_2_7_28 (S : PS) (I : Nat → Nat → Int) (x2 : Int) (Q : PV1 → Prop) : Wp 66 (2, [zA 7, zA 28, zI x2], [], zH S I) Q ↔ (cond (decide (x2 < 16)) (Wp 15 (0, [zA 28], [], zH S I) (fun w => Wp 66 (13, [zA 7, zA 28, zI x2], w.1.toList ++ [zI x2], w.2) Q)) (Q (none, zH S I))) := (WpK_iff [2, 13, 22, 27, 30] 6 66 _ Q).symm
set_option maxRecDepth 100000 in
theorem sg_X4_carryOut_13_7_28 (S : PS) (I : Nat → Nat → Int) (x2 : Int) (y0 : Int) (y1 : Int) (Q : PV1 → Prop) : Wp 66 (13, [zA 7, zA 28, zI x2], [zI y1, zI y0], zH S I) Q ↔ (cond (decide (y0 < y1)) (Wp 17 (0, [zA 28, zI x2], [], zH S I) (fun w => Wp 66 (22, [zA 7, zA 28, zI x2], w.1.toList ++ [zA 7], w.2) Q)) (Q (none, zH S I))) := (WpK_iff [2, 13, 22, 27, 30] 5 66 _ Q).symm
set_option maxRecDepth 100000 in
theorem sg_X4_carryOut_22_7_28_7 (S : PS) (I : Nat → Nat → Int) (x2 : Int) (y1 : Int) (Q : PV1 → Prop) : Wp 66 (22, [zA 7, zA 28, zI x2], [zI y1, zA 7], zH S I) Q ↔ (Wp 18 (0, [zA 28, zI x2], [], zH S I) (fun w => Wp 66 (27, [zA 7, zA 28, zI x2], w.1.toList ++ [zI y1, zA 7], w.2) Q)) := (WpK_iff [2, 13, 22, 27, 30] 3 66 _ Q).symm
set_option maxRecDepth 100000 in
theorem sg_X4_carryOut_27_7_28_7 (S : PS) (I : Nat → Nat → Int) (x2 : Int) (y1 : Int) (y2 : Int) (Q : PV1 → Prop) : Wp 66 (27, [zA 7, zA 28, zI x2], [zI y2, zI y1, zA 7], zH S I) Q ↔ (Wp 65 (0, [zA 7, zI y1, zI y2], [], zH S I) (fun w => Wp 66 (30, [zA 7, zA 28, zI x2], w.1.toList ++ [], w.2) Q)) := (WpK_iff [2, 13, 22, 27, 30] 1 66 _ Q).symm
set_option maxRecDepth 100000 in
theorem sg_X4_carryOut_30_7_28 (S : PS) (I : Nat → Nat → Int) (x2 : Int) (Q : PV1 → Prop) : Wp 66 (30, [zA 7, zA 28, zI x2], [], zH S I) Q ↔ (Wp 66 (2, [zA 7, zA 28, zI (zad x2 1)], [], zH S I) Q) := (WpK_iff [2, 13, 22, 27, 30] 2 66 _ Q).symm
set_option maxRecDepth 100000 in
theorem sg_X4_standing_0_9 (S : PS) (I : Nat → Nat → Int) (w1 : PV) (w2 : PV) (Q : PV1 → Prop) : Wp 62 (0, [zA 9, w1, w2], [], zH S I) Q ↔ (Wp 62 (4, [zA 9, zI 0, zI 0], [], zH S I) Q) := (WpK_iff [4] 4 62 _ Q).symm
set_option maxRecDepth 100000 in
theorem sg_X4_standing_4_9 (S : PS) (I : Nat → Nat → Int) (x1 : Int) (x2 : Int) (Q : PV1 → Prop) : Wp 62 (4, [zA 9, zI x1, zI x2], [], zH S I) Q ↔ (cond (decide (x2 < 6)) (cond (zib x2 6) (cond (decide (I 10 (x2 : Int).toNat = (-1))) (Wp 62 (4, [zA 9, zI x1, zI (zad x2 1)], [], zH S I) Q) (Wp 62 (4, [zA 9, zI (zad x1 1), zI (zad x2 1)], [], zH S I) Q)) False) (Q (some (zI x1), zH S I))) := (WpK_iff [4] 14 62 _ Q).symm
set_option maxRecDepth 100000 in
theorem sg_X4_carryOut_0_9_28 (S : PS) (I : Nat → Nat → Int) (w2 : PV) (Q : PV1 → Prop) : Wp 66 (0, [zA 9, zA 28, w2], [], zH S I) Q ↔ (Wp 66 (2, [zA 9, zA 28, zI 0], [], zH S I) Q) := (WpK_iff [2, 13, 22, 27, 30] 2 66 _ Q).symm
set_option maxRecDepth 100000 in
theorem sg_X4_carryOut_2_9_28 (S : PS) (I : Nat → Nat → Int) (x2 : Int) (Q : PV1 → Prop) : Wp 66 (2, [zA 9, zA 28, zI x2], [], zH S I) Q ↔ (cond (decide (x2 < 16)) (Wp 15 (0, [zA 28], [], zH S I) (fun w => Wp 66 (13, [zA 9, zA 28, zI x2], w.1.toList ++ [zI x2], w.2) Q)) (Q (none, zH S I))) := (WpK_iff [2, 13, 22, 27, 30] 6 66 _ Q).symm
set_option maxRecDepth 100000 in
theorem sg_X4_carryOut_13_9_28 (S : PS) (I : Nat → Nat → Int) (x2 : Int) (y0 : Int) (y1 : Int) (Q : PV1 → Prop) : Wp 66 (13, [zA 9, zA 28, zI x2], [zI y1, zI y0], zH S I) Q ↔ (cond (decide (y0 < y1)) (Wp 17 (0, [zA 28, zI x2], [], zH S I) (fun w => Wp 66 (22, [zA 9, zA 28, zI x2], w.1.toList ++ [zA 9], w.2) Q)) (Q (none, zH S I))) := (WpK_iff [2, 13, 22, 27, 30] 5 66 _ Q).symm
set_option maxRecDepth 100000 in
theorem sg_X4_carryOut_22_9_28_9 (S : PS) (I : Nat → Nat → Int) (x2 : Int) (y1 : Int) (Q : PV1 → Prop) : Wp 66 (22, [zA 9, zA 28, zI x2], [zI y1, zA 9], zH S I) Q ↔ (Wp 18 (0, [zA 28, zI x2], [], zH S I) (fun w => Wp 66 (27, [zA 9, zA 28, zI x2], w.1.toList ++ [zI y1, zA 9], w.2) Q)) := (WpK_iff [2, 13, 22, 27, 30] 3 66 _ Q).symm
set_option maxRecDepth 100000 in
theorem sg_X4_carryOut_27_9_28_9 (S : PS) (I : Nat → Nat → Int) (x2 : Int) (y1 : Int) (y2 : Int) (Q : PV1 → Prop) : Wp 66 (27, [zA 9, zA 28, zI x2], [zI y2, zI y1, zA 9], zH S I) Q ↔ (Wp 65 (0, [zA 9, zI y1, zI y2], [], zH S I) (fun w => Wp 66 (30, [zA 9, zA 28, zI x2], w.1.toList ++ [], w.2) Q)) := (WpK_iff [2, 13, 22, 27, 30] 1 66 _ Q).symm
set_option maxRecDepth 100000 in
theorem sg_X4_carryOut_30_9_28 (S : PS) (I : Nat → Nat → Int) (x2 : Int) (Q : PV1 → Prop) : Wp 66 (30, [zA 9, zA 28, zI x2], [], zH S I) Q ↔ (Wp 66 (2, [zA 9, zA 28, zI (zad x2 1)], [], zH S I) Q) := (WpK_iff [2, 13, 22, 27, 30] 2 66 _ Q).symm
set_option maxRecDepth 100000 in
theorem sg_X4_highestBelow_0_9 (S : PS) (I : Nat → Nat → Int) (x1 : Int) (w2 : PV) (w3 : PV) (w4 : PV) (w5 : PV) (Q : PV1 → Prop) : Wp 74 (0, [zA 9, zI x1, w2, w3, w4, w5], [], zH S I) Q ↔ (Wp 74 (4, [zA 9, zI x1, zI ((-1)), zI 0, w4, w5], [], zH S I) Q) := (WpK_iff [4, 36, 72] 4 74 _ Q).symm
set_option maxRecDepth 100000 in
theorem sg_X4_highestBelow_4_9 (S : PS) (I : Nat → Nat → Int) (x1 : Int) (x2 : Int) (x3 : Int) (w4 : PV) (w5 : PV) (Q : PV1 → Prop) : Wp 74 (4, [zA 9, zI x1, zI x2, zI x3, w4, w5], [], zH S I) Q ↔ (cond (decide (x3 < 6)) (cond (zib x3 6) (cond (decide (x1 = (-1))) (cond (decide (I 10 (x3 : Int).toNat = (-1))) (Wp 74 (4, [zA 9, zI x1, zI x2, zI (zad x3 1), zI (I 10 (x3 : Int).toNat), zI 1], [], zH S I) Q) (cond (decide (1 = 0)) (Wp 74 (4, [zA 9, zI x1, zI x2, zI (zad x3 1), zI (I 10 (x3 : Int).toNat), zI 1], [], zH S I) Q) (cond (decide (x2 = (-1))) (Wp 74 (4, [zA 9, zI x1, zI (I 10 (x3 : Int).toNat), zI (zad x3 1), zI (I 10 (x3 : Int).toNat), zI 1], [], zH S I) Q) (Wp 36 (0, [zA 1, zI (I 10 (x3 : Int).toNat), zI x2], [], zH S I) (fun w => Wp 74 (72, [zA 9, zI x1, zI x2, zI x3, zI (I 10 (x3 : Int).toNat), zI 1], w.1.toList ++ [], w.2) Q))))) (Wp 36 (0, [zA 1, zI x1, zI (I 10 (x3 : Int).toNat)], [], zH S I) (fun w => Wp 74 (36, [zA 9, zI x1, zI x2, zI x3, zI (I 10 (x3 : Int).toNat), w5], w.1.toList ++ [], w.2) Q))) False) (Q (some (zI x2), zH S I))) := (WpK_iff [4, 36, 72] 29 74 _ Q).symm
set_option maxRecDepth 100000 in
theorem sg_X4_highestBelow_72_9 (S : PS) (I : Nat → Nat → Int) (x1 : Int) (x2 : Int) (x3 : Int) (x4 : Int) (w5 : PV) (y0 : Int) (Q : PV1 → Prop) : Wp 74 (72, [zA 9, zI x1, zI x2, zI x3, zI x4, w5], [zI y0], zH S I) Q ↔ (cond (decide (y0 = 0)) (Wp 74 (4, [zA 9, zI x1, zI x2, zI (zad x3 1), zI x4, w5], [], zH S I) Q) (Wp 74 (4, [zA 9, zI x1, zI x4, zI (zad x3 1), zI x4, w5], [], zH S I) Q)) := (WpK_iff [4, 36, 72] 5 74 _ Q).symm
set_option maxRecDepth 100000 in
theorem sg_X4_highestBelow_36_9 (S : PS) (I : Nat → Nat → Int) (x1 : Int) (x2 : Int) (x3 : Int) (x4 : Int) (w5 : PV) (y0 : Int) (Q : PV1 → Prop) : Wp 74 (36, [zA 9, zI x1, zI x2, zI x3, zI x4, w5], [zI y0], zH S I) Q ↔ (cond (decide (y0 = 0)) (cond (decide (x4 = (-1))) (Wp 74 (4, [zA 9, zI x1, zI x2, zI (zad x3 1), zI x4, zI 0], [], zH S I) Q) (cond (decide (0 = 0)) (Wp 74 (4, [zA 9, zI x1, zI x2, zI (zad x3 1), zI x4, zI 0], [], zH S I) Q) (cond (decide (x2 = (-1))) (Wp 74 (4, [zA 9, zI x1, zI x4, zI (zad x3 1), zI x4, zI 0], [], zH S I) Q) (Wp 36 (0, [zA 1, zI x4, zI x2], [], zH S I) (fun w => Wp 74 (72, [zA 9, zI x1, zI x2, zI x3, zI x4, zI 0], w.1.toList ++ [], w.2) Q))))) (cond (decide (x4 = (-1))) (Wp 74 (4, [zA 9, zI x1, zI x2, zI (zad x3 1), zI x4, zI 1], [], zH S I) Q) (cond (decide (1 = 0)) (Wp 74 (4, [zA 9, zI x1, zI x2, zI (zad x3 1), zI x4, zI 1], [], zH S I) Q) (cond (decide (x2 = (-1))) (Wp 74 (4, [zA 9, zI x1, zI x4, zI (zad x3 1), zI x4, zI 1], [], zH S I) Q) (Wp 36 (0, [zA 1, zI x4, zI x2], [], zH S I) (fun w => Wp 74 (72, [zA 9, zI x1, zI x2, zI x3, zI x4, zI 1], w.1.toList ++ [], w.2) Q)))))) := (WpK_iff [4, 36, 72] 17 74 _ Q).symm
set_option maxRecDepth 100000 in
theorem sg_X4_unpack_0_7 (S : PS) (I : Nat → Nat → Int) (x1 : Int) (w2 : PV) (w3 : PV) (Q : PV1 → Prop) : Wp 76 (0, [zA 7, zI x1, w2, w3], [], zH S I) Q ↔ (Wp 76 (4, [zA 7, zI x1, zI x1, zI 0], [], zH S I) Q) := (WpK_iff [4] 4 76 _ Q).symm
set_option maxRecDepth 100000 in
theorem sg_X4_unpack_4_7 (S : PS) (I : Nat → Nat → Int) (w1 : PV) (x2 : Int) (x3 : Int) (Q : PV1 → Prop) : Wp 76 (4, [zA 7, w1, zI x2, zI x3], [], zH S I) Q ↔ (cond (decide (x3 < 6)) (cond (!decide ((17 : Int) = 0)) (cond (zib x3 6) (cond (!decide ((17 : Int) = 0)) (Wp 76 (4, [zA 7, w1, zI (zdv x2 17), zI (zad x3 1)], [], zH S (zs2 I 8 (x3 : Int).toNat (zsb (zrm x2 17) 1))) Q) False) False) False) (Q (none, zH S I))) := (WpK_iff [4] 20 76 _ Q).symm
set_option maxRecDepth 100000 in
theorem sg_X4_unpack_0_9 (S : PS) (I : Nat → Nat → Int) (x1 : Int) (w2 : PV) (w3 : PV) (Q : PV1 → Prop) : Wp 76 (0, [zA 9, zI x1, w2, w3], [], zH S I) Q ↔ (Wp 76 (4, [zA 9, zI x1, zI x1, zI 0], [], zH S I) Q) := (WpK_iff [4] 4 76 _ Q).symm
set_option maxRecDepth 100000 in
theorem sg_X4_unpack_4_9 (S : PS) (I : Nat → Nat → Int) (w1 : PV) (x2 : Int) (x3 : Int) (Q : PV1 → Prop) : Wp 76 (4, [zA 9, w1, zI x2, zI x3], [], zH S I) Q ↔ (cond (decide (x3 < 6)) (cond (!decide ((17 : Int) = 0)) (cond (zib x3 6) (cond (!decide ((17 : Int) = 0)) (Wp 76 (4, [zA 9, w1, zI (zdv x2 17), zI (zad x3 1)], [], zH S (zs2 I 10 (x3 : Int).toNat (zsb (zrm x2 17) 1))) Q) False) False) False) (Q (none, zH S I))) := (WpK_iff [4] 20 76 _ Q).symm
set_option maxRecDepth 100000 in
theorem sg_X4_lay_0_7 (S : PS) (I : Nat → Nat → Int) (x1 : Int) (x2 : Int) (Q : PV1 → Prop) : Wp 65 (0, [zA 7, zI x1, zI x2], [], zH S I) Q ↔ (Wp 58 (0, [zA 7, zI x2], [], zH S I) (fun w => Wp 65 (5, [zA 7, zI x1, zI x2], w.1.toList ++ [], w.2) Q)) := (WpK_iff [5, 14, 17] 3 65 _ Q).symm
set_option maxRecDepth 100000 in
theorem sg_X4_lay_5_7 (S : PS) (I : Nat → Nat → Int) (x1 : Int) (x2 : Int) (y0 : Int) (Q : PV1 → Prop) : Wp 65 (5, [zA 7, zI x1, zI x2], [zI y0], zH S I) Q ↔ (cond (decide (y0 = 0)) (Q (none, zH S I)) (Wp 60 (0, [zA 7, zI x1, zU], [], zH S I) (fun w => Wp 65 (14, [zA 7, zI x1, zI x2], w.1.toList ++ [zA 7], w.2) Q))) := (WpK_iff [5, 14, 17] 5 65 _ Q).symm
set_option maxRecDepth 100000 in
theorem sg_X4_lay_14_7_7 (S : PS) (I : Nat → Nat → Int) (x1 : Int) (x2 : Int) (y1 : Int) (Q : PV1 → Prop) : Wp 65 (14, [zA 7, zI x1, zI x2], [zI y1, zA 7], zH S I) Q ↔ (Wp 64 (0, [zA 7, zI y1], [], zH S I) (fun w => Wp 65 (17, [zA 7, zI x1, zI x2], w.1.toList ++ [], w.2) Q)) := (WpK_iff [5, 14, 17] 1 65 _ Q).symm
set_option maxRecDepth 100000 in
theorem sg_X4_lay_17_7 (S : PS) (I : Nat → Nat → Int) (x1 : Int) (x2 : Int) (Q : PV1 → Prop) : Wp 65 (17, [zA 7, zI x1, zI x2], [], zH S I) Q ↔ (cond (zib x2 6) (Q (none, zH S (zs2 I 8 (x2 : Int).toNat x1))) False) := (WpK_iff [5, 14, 17] 6 65 _ Q).symm
set_option maxRecDepth 100000 in
theorem sg_X4_lay_0_9 (S : PS) (I : Nat → Nat → Int) (x1 : Int) (x2 : Int) (Q : PV1 → Prop) : Wp 65 (0, [zA 9, zI x1, zI x2], [], zH S I) Q ↔ (Wp 58 (0, [zA 9, zI x2], [], zH S I) (fun w => Wp 65 (5, [zA 9, zI x1, zI x2], w.1.toList ++ [], w.2) Q)) := (WpK_iff [5, 14, 17] 3 65 _ Q).symm
set_option maxRecDepth 100000 in
theorem sg_X4_lay_5_9 (S : PS) (I : Nat → Nat → Int) (x1 : Int) (x2 : Int) (y0 : Int) (Q : PV1 → Prop) : Wp 65 (5, [zA 9, zI x1, zI x2], [zI y0], zH S I) Q ↔ (cond (decide (y0 = 0)) (Q (none, zH S I)) (Wp 60 (0, [zA 9, zI x1, zU], [], zH S I) (fun w => Wp 65 (14, [zA 9, zI x1, zI x2], w.1.toList ++ [zA 9], w.2) Q))) := (WpK_iff [5, 14, 17] 5 65 _ Q).symm
set_option maxRecDepth 100000 in
theorem sg_X4_lay_14_9_9 (S : PS) (I : Nat → Nat → Int) (x1 : Int) (x2 : Int) (y1 : Int) (Q : PV1 → Prop) : Wp 65 (14, [zA 9, zI x1, zI x2], [zI y1, zA 9], zH S I) Q ↔ (Wp 64 (0, [zA 9, zI y1], [], zH S I) (fun w => Wp 65 (17, [zA 9, zI x1, zI x2], w.1.toList ++ [], w.2) Q)) := (WpK_iff [5, 14, 17] 1 65 _ Q).symm
set_option maxRecDepth 100000 in
theorem sg_X4_lay_17_9 (S : PS) (I : Nat → Nat → Int) (x1 : Int) (x2 : Int) (Q : PV1 → Prop) : Wp 65 (17, [zA 9, zI x1, zI x2], [], zH S I) Q ↔ (cond (zib x2 6) (Q (none, zH S (zs2 I 10 (x2 : Int).toNat x1))) False) := (WpK_iff [5, 14, 17] 6 65 _ Q).symm
set_option maxRecDepth 100000 in
theorem sg_X4_isPlace_0_7 (S : PS) (I : Nat → Nat → Int) (x1 : Int) (Q : PV1 → Prop) : Wp 58 (0, [zA 7, zI x1], [], zH S I) Q ↔ (cond (decide (x1 < 0)) (cond (zbb 0) (Q (some (zI 0), zH S I)) False) (cond (decide (x1 < I 7 2)) (cond (decide (x1 < 6)) (cond (zbb 1) (Q (some (zI 1), zH S I)) False) (cond (zbb 0) (Q (some (zI 0), zH S I)) False)) (cond (zbb 0) (Q (some (zI 0), zH S I)) False))) := (WpK_iff [] 14 58 _ Q).symm
set_option maxRecDepth 100000 in
theorem sg_X4_isPlace_0_9 (S : PS) (I : Nat → Nat → Int) (x1 : Int) (Q : PV1 → Prop) : Wp 58 (0, [zA 9, zI x1], [], zH S I) Q ↔ (cond (decide (x1 < 0)) (cond (zbb 0) (Q (some (zI 0), zH S I)) False) (cond (decide (x1 < I 9 2)) (cond (decide (x1 < 6)) (cond (zbb 1) (Q (some (zI 1), zH S I)) False) (cond (zbb 0) (Q (some (zI 0), zH S I)) False)) (cond (zbb 0) (Q (some (zI 0), zH S I)) False))) := (WpK_iff [] 14 58 _ Q).symm
set_option maxRecDepth 100000 in
theorem sg_X4_hasHigherFor_0_7 (S : PS) (I : Nat → Nat → Int) (x1 : Int) (x2 : Int) (w3 : PV) (Q : PV1 → Prop) : Wp 73 (0, [zA 7, zI x1, zI x2, w3], [], zH S I) Q ↔ (Wp 73 (2, [zA 7, zI x1, zI x2, zI 0], [], zH S I) Q) := (WpK_iff [2, 25, 42] 2 73 _ Q).symm
set_option maxRecDepth 100000 in
theorem sg_X4_hasHigherFor_2_7 (S : PS) (I : Nat → Nat → Int) (x1 : Int) (x2 : Int) (x3 : Int) (Q : PV1 → Prop) : Wp 73 (2, [zA 7, zI x1, zI x2, zI x3], [], zH S I) Q ↔ (cond (decide (x3 < 6)) (cond (zib x3 6) (Wp 34 (0, [zA 1, zI (I 8 (x3 : Int).toNat), zI x1], [], zH S I) (fun w => Wp 73 (25, [zA 7, zI x1, zI x2, zI x3], w.1.toList ++ [], w.2) Q)) False) (cond (zbb 0) (Q (some (zI 0), zH S I)) False)) := (WpK_iff [2, 25, 42] 13 73 _ Q).symm
set_option maxRecDepth 100000 in
theorem sg_X4_hasHigherFor_25_7 (S : PS) (I : Nat → Nat → Int) (x1 : Int) (x2 : Int) (x3 : Int) (y0 : Int) (Q : PV1 → Prop) : Wp 73 (25, [zA 7, zI x1, zI x2, zI x3], [zI y0], zH S I) Q ↔ (cond (decide (y0 = 0)) (Wp 73 (2, [zA 7, zI x1, zI x2, zI (zad x3 1)], [], zH S I) Q) (cond (zib x3 6) (Wp 36 (0, [zA 1, zI (I 8 (x3 : Int).toNat), zI x2], [], zH S I) (fun w => Wp 73 (42, [zA 7, zI x1, zI x2, zI x3], w.1.toList ++ [], w.2) Q)) False)) := (WpK_iff [2, 25, 42] 9 73 _ Q).symm
set_option maxRecDepth 100000 in
theorem sg_X4_hasHigherFor_42_7 (S : PS) (I : Nat → Nat → Int) (x1 : Int) (x2 : Int) (x3 : Int) (y0 : Int) (Q : PV1 → Prop) : Wp 73 (42, [zA 7, zI x1, zI x2, zI x3], [zI y0], zH S I) Q ↔ (cond (decide (y0 = 0)) (Wp 73 (2, [zA 7, zI x1, zI x2, zI (zad x3 1)], [], zH S I) Q) (cond (zbb 1) (Q (some (zI 1), zH S I)) False)) := (WpK_iff [2, 25, 42] 3 73 _ Q).symm
set_option maxRecDepth 100000 in
theorem sg_X4_hasHigherFor_0_9 (S : PS) (I : Nat → Nat → Int) (x1 : Int) (x2 : Int) (w3 : PV) (Q : PV1 → Prop) : Wp 73 (0, [zA 9, zI x1, zI x2, w3], [], zH S I) Q ↔ (Wp 73 (2, [zA 9, zI x1, zI x2, zI 0], [], zH S I) Q) := (WpK_iff [2, 25, 42] 2 73 _ Q).symm
set_option maxRecDepth 100000 in
theorem sg_X4_hasHigherFor_2_9 (S : PS) (I : Nat → Nat → Int) (x1 : Int) (x2 : Int) (x3 : Int) (Q : PV1 → Prop) : Wp 73 (2, [zA 9, zI x1, zI x2, zI x3], [], zH S I) Q ↔ (cond (decide (x3 < 6)) (cond (zib x3 6) (Wp 34 (0, [zA 1, zI (I 10 (x3 : Int).toNat), zI x1], [], zH S I) (fun w => Wp 73 (25, [zA 9, zI x1, zI x2, zI x3], w.1.toList ++ [], w.2) Q)) False) (cond (zbb 0) (Q (some (zI 0), zH S I)) False)) := (WpK_iff [2, 25, 42] 13 73 _ Q).symm
set_option maxRecDepth 100000 in
theorem sg_X4_hasHigherFor_25_9 (S : PS) (I : Nat → Nat → Int) (x1 : Int) (x2 : Int) (x3 : Int) (y0 : Int) (Q : PV1 → Prop) : Wp 73 (25, [zA 9, zI x1, zI x2, zI x3], [zI y0], zH S I) Q ↔ (cond (decide (y0 = 0)) (Wp 73 (2, [zA 9, zI x1, zI x2, zI (zad x3 1)], [], zH S I) Q) (cond (zib x3 6) (Wp 36 (0, [zA 1, zI (I 10 (x3 : Int).toNat), zI x2], [], zH S I) (fun w => Wp 73 (42, [zA 9, zI x1, zI x2, zI x3], w.1.toList ++ [], w.2) Q)) False)) := (WpK_iff [2, 25, 42] 9 73 _ Q).symm
set_option maxRecDepth 100000 in
theorem sg_X4_hasHigherFor_42_9 (S : PS) (I : Nat → Nat → Int) (x1 : Int) (x2 : Int) (x3 : Int) (y0 : Int) (Q : PV1 → Prop) : Wp 73 (42, [zA 9, zI x1, zI x2, zI x3], [zI y0], zH S I) Q ↔ (cond (decide (y0 = 0)) (Wp 73 (2, [zA 9, zI x1, zI x2, zI (zad x3 1)], [], zH S I) Q) (cond (zbb 1) (Q (some (zI 1), zH S I)) False)) := (WpK_iff [2, 25, 42] 3 73 _ Q).symm
set_option maxRecDepth 100000 in
theorem sg_X4_noteActs_0_7_31 (S : PS) (I : Nat → Nat → Int) (w2 : PV) (Q : PV1 → Prop) : Wp 69 (0, [zA 7, zA 31, w2], [], zH S I) Q ↔ (Wp 69 (2, [zA 7, zA 31, zI 0], [], zH S I) Q) := (WpK_iff [2, 15] 2 69 _ Q).symm
set_option maxRecDepth 100000 in
theorem sg_X4_noteActs_2_7_31 (S : PS) (I : Nat → Nat → Int) (x2 : Int) (Q : PV1 → Prop) : Wp 69 (2, [zA 7, zA 31, zI x2], [], zH S I) Q ↔ (cond (decide (x2 < 32)) (Wp 67 (0, [zA 7, zI x2, zU], [], zH S I) (fun w => Wp 69 (15, [zA 7, zA 31, zI x2], w.1.toList ++ [zI x2, zA 31], w.2) Q)) (Q (none, zH S I))) := (WpK_iff [2, 15] 9 69 _ Q).symm
set_option maxRecDepth 100000 in
theorem sg_X4_noteActs_15_7_31_31 (S : PS) (I : Nat → Nat → Int) (x2 : Int) (y1 : Int) (y2 : Int) (Q : PV1 → Prop) : Wp 69 (15, [zA 7, zA 31, zI x2], [zI y2, zI y1, zA 31], zH S I) Q ↔ (cond (zib y1 32) (Wp 69 (2, [zA 7, zA 31, zI (zad x2 1)], [], zH S (zs2 I 31 (y1 : Int).toNat y2)) Q) False) := (WpK_iff [2, 15] 3 69 _ Q).symm
set_option maxRecDepth 100000 in
theorem sg_X4_isSafe_0_7 (S : PS) (I : Nat → Nat → Int) (w1 : PV) (w2 : PV) (Q : PV1 → Prop) : Wp 71 (0, [zA 7, w1, w2], [], zH S I) Q ↔ (Wp 71 (2, [zA 7, zI 1, w2], [], zH S I) Q) := (WpK_iff [2, 13, 37, 59] 2 71 _ Q).symm
set_option maxRecDepth 100000 in
theorem sg_X4_isSafe_2_7 (S : PS) (I : Nat → Nat → Int) (x1 : Int) (w2 : PV) (Q : PV1 → Prop) : Wp 71 (2, [zA 7, zI x1, w2], [], zH S I) Q ↔ (cond (decide (x1 < 6)) (Wp 71 (13, [zA 7, zI x1, zI 0], [], zH S I) Q) (cond (zbb 1) (Q (some (zI 1), zH S I)) False)) := (WpK_iff [2, 13, 37, 59] 7 71 _ Q).symm
set_option maxRecDepth 100000 in
theorem sg_X4_isSafe_13_7 (S : PS) (I : Nat → Nat → Int) (x1 : Int) (x2 : Int) (Q : PV1 → Prop) : Wp 71 (13, [zA 7, zI x1, zI x2], [], zH S I) Q ↔ (cond (decide (x2 < x1)) (cond (zib x2 6) (cond (zib x1 6) (Wp 35 (0, [zA 1, zI (I 8 (x2 : Int).toNat), zI (I 8 (x1 : Int).toNat)], [], zH S I) (fun w => Wp 71 (37, [zA 7, zI x1, zI x2], w.1.toList ++ [], w.2) Q)) False) False) (Wp 71 (2, [zA 7, zI (zad x1 1), zI x2], [], zH S I) Q)) := (WpK_iff [2, 13, 37, 59] 14 71 _ Q).symm
set_option maxRecDepth 100000 in
theorem sg_X4_isSafe_37_7 (S : PS) (I : Nat → Nat → Int) (x1 : Int) (x2 : Int) (y0 : Int) (Q : PV1 → Prop) : Wp 71 (37, [zA 7, zI x1, zI x2], [zI y0], zH S I) Q ↔ (cond (decide (y0 = 0)) (Wp 71 (13, [zA 7, zI x1, zI (zad x2 1)], [], zH S I) Q) (cond (zib x1 6) (cond (zib x2 6) (Wp 36 (0, [zA 1, zI (I 8 (x1 : Int).toNat), zI (I 8 (x2 : Int).toNat)], [], zH S I) (fun w => Wp 71 (59, [zA 7, zI x1, zI x2], w.1.toList ++ [], w.2) Q)) False) False)) := (WpK_iff [2, 13, 37, 59] 12 71 _ Q).symm
set_option maxRecDepth 100000 in
theorem sg_X4_isSafe_59_7 (S : PS) (I : Nat → Nat → Int) (x1 : Int) (x2 : Int) (y0 : Int) (Q : PV1 → Prop) : Wp 71 (59, [zA 7, zI x1, zI x2], [zI y0], zH S I) Q ↔ (cond (decide (y0 = 0)) (Wp 71 (13, [zA 7, zI x1, zI (zad x2 1)], [], zH S I) Q) (cond (zbb 0) (Q (some (zI 0), zH S I)) False)) := (WpK_iff [2, 13, 37, 59] 3 71 _ Q).symm
set_option maxRecDepth 100000 in
theorem sg_X4_hasActs_0_7_31 (S : PS) (I : Nat → Nat → Int) (w2 : PV) (Q : PV1 → Prop) : Wp 70 (0, [zA 7, zA 31, w2], [], zH S I) Q ↔ (Wp 70 (2, [zA 7, zA 31, zI 0], [], zH S I) Q) := (WpK_iff [2, 16] 2 70 _ Q).symm
set_option maxRecDepth 100000 in
theorem sg_X4_hasActs_2_7_31 (S : PS) (I : Nat → Nat → Int) (x2 : Int) (Q : PV1 → Prop) : Wp 70 (2, [zA 7, zA 31, zI x2], [], zH S I) Q ↔ (cond (decide (x2 < 32)) (cond (zib x2 32) (Wp 67 (0, [zA 7, zI x2, zU], [], zH S I) (fun w => Wp 70 (16, [zA 7, zA 31, zI x2], w.1.toList ++ [zI (I 31 (x2 : Int).toNat)], w.2) Q)) False) (cond (zbb 1) (Q (some (zI 1), zH S I)) False)) := (WpK_iff [2, 16] 10 70 _ Q).symm
set_option maxRecDepth 100000 in
theorem sg_X4_hasActs_16_7_31 (S : PS) (I : Nat → Nat → Int) (x2 : Int) (y0 : Int) (y1 : Int) (Q : PV1 → Prop) : Wp 70 (16, [zA 7, zA 31, zI x2], [zI y1, zI y0], zH S I) Q ↔ (cond (decide (y0 = y1)) (Wp 70 (2, [zA 7, zA 31, zI (zad x2 1)], [], zH S I) Q) (cond (zbb 0) (Q (some (zI 0), zH S I)) False)) := (WpK_iff [2, 16] 3 70 _ Q).symm
set_option maxRecDepth 100000 in
theorem sg_X4_noteActs_0_9_31 (S : PS) (I : Nat → Nat → Int) (w2 : PV) (Q : PV1 → Prop) : Wp 69 (0, [zA 9, zA 31, w2], [], zH S I) Q ↔ (Wp 69 (2, [zA 9, zA 31, zI 0], [], zH S I) Q) := (WpK_iff [2, 15] 2 69 _ Q).symm
set_option maxRecDepth 100000 in
theorem sg_X4_noteActs_2_9_31 (S : PS) (I : Nat → Nat → Int) (x2 : Int) (Q : PV1 → Prop) : Wp 69 (2, [zA 9, zA 31, zI x2], [], zH S I) Q ↔ (cond (decide (x2 < 32)) (Wp 67 (0, [zA 9, zI x2, zU], [], zH S I) (fun w => Wp 69 (15, [zA 9, zA 31, zI x2], w.1.toList ++ [zI x2, zA 31], w.2) Q)) (Q (none, zH S I))) := (WpK_iff [2, 15] 9 69 _ Q).symm
set_option maxRecDepth 100000 in
theorem sg_X4_noteActs_15_9_31_31 (S : PS) (I : Nat → Nat → Int) (x2 : Int) (y1 : Int) (y2 : Int) (Q : PV1 → Prop) : Wp 69 (15, [zA 9, zA 31, zI x2], [zI y2, zI y1, zA 31], zH S I) Q ↔ (cond (zib y1 32) (Wp 69 (2, [zA 9, zA 31, zI (zad x2 1)], [], zH S (zs2 I 31 (y1 : Int).toNat y2)) Q) False) := (WpK_iff [2, 15] 3 69 _ Q).symm
set_option maxRecDepth 100000 in
theorem sg_X4_isSafe_0_9 (S : PS) (I : Nat → Nat → Int) (w1 : PV) (w2 : PV) (Q : PV1 → Prop) : Wp 71 (0, [zA 9, w1, w2], [], zH S I) Q ↔ (Wp 71 (2, [zA 9, zI 1, w2], [], zH S I) Q) := (WpK_iff [2, 13, 37, 59] 2 71 _ Q).symm
set_option maxRecDepth 100000 in
theorem sg_X4_isSafe_2_9 (S : PS) (I : Nat → Nat → Int) (x1 : Int) (w2 : PV) (Q : PV1 → Prop) : Wp 71 (2, [zA 9, zI x1, w2], [], zH S I) Q ↔ (cond (decide (x1 < 6)) (Wp 71 (13, [zA 9, zI x1, zI 0], [], zH S I) Q) (cond (zbb 1) (Q (some (zI 1), zH S I)) False)) := (WpK_iff [2, 13, 37, 59] 7 71 _ Q).symm
set_option maxRecDepth 100000 in
theorem sg_X4_isSafe_13_9 (S : PS) (I : Nat → Nat → Int) (x1 : Int) (x2 : Int) (Q : PV1 → Prop) : Wp 71 (13, [zA 9, zI x1, zI x2], [], zH S I) Q ↔ (cond (decide (x2 < x1)) (cond (zib x2 6) (cond (zib x1 6) (Wp 35 (0, [zA 1, zI (I 10 (x2 : Int).toNat), zI (I 10 (x1 : Int).toNat)], [], zH S I) (fun w => Wp 71 (37, [zA 9, zI x1, zI x2], w.1.toList ++ [], w.2) Q)) False) False) (Wp 71 (2, [zA 9, zI (zad x1 1), zI x2], [], zH S I) Q)) := (WpK_iff [2, 13, 37, 59] 14 71 _ Q).symm
set_option maxRecDepth 100000 in
theorem sg_X4_isSafe_37_9 (S : PS) (I : Nat → Nat → Int) (x1 : Int) (x2 : Int) (y0 : Int) (Q : PV1 → Prop) : Wp 71 (37, [zA 9, zI x1, zI x2], [zI y0], zH S I) Q ↔ (cond (decide (y0 = 0)) (Wp 71 (13, [zA 9, zI x1, zI (zad x2 1)], [], zH S I) Q) (cond (zib x1 6) (cond (zib x2 6) (Wp 36 (0, [zA 1, zI (I 10 (x1 : Int).toNat), zI (I 10 (x2 : Int).toNat)], [], zH S I) (fun w => Wp 71 (59, [zA 9, zI x1, zI x2], w.1.toList ++ [], w.2) Q)) False) False)) := (WpK_iff [2, 13, 37, 59] 12 71 _ Q).symm
set_option maxRecDepth 100000 in
theorem sg_X4_isSafe_59_9 (S : PS) (I : Nat → Nat → Int) (x1 : Int) (x2 : Int) (y0 : Int) (Q : PV1 → Prop) : Wp 71 (59, [zA 9, zI x1, zI x2], [zI y0], zH S I) Q ↔ (cond (decide (y0 = 0)) (Wp 71 (13, [zA 9, zI x1, zI (zad x2 1)], [], zH S I) Q) (cond (zbb 0) (Q (some (zI 0), zH S I)) False)) := (WpK_iff [2, 13, 37, 59] 3 71 _ Q).symm
set_option maxRecDepth 100000 in
theorem sg_X4_hasActs_0_9_31 (S : PS) (I : Nat → Nat → Int) (w2 : PV) (Q : PV1 → Prop) : Wp 70 (0, [zA 9, zA 31, w2], [], zH S I) Q ↔ (Wp 70 (2, [zA 9, zA 31, zI 0], [], zH S I) Q) := (WpK_iff [2, 16] 2 70 _ Q).symm
set_option maxRecDepth 100000 in
theorem sg_X4_hasActs_2_9_31 (S : PS) (I : Nat → Nat → Int) (x2 : Int) (Q : PV1 → Prop) : Wp 70 (2, [zA 9, zA 31, zI x2], [], zH S I) Q ↔ (cond (decide (x2 < 32)) (cond (zib x2 32) (Wp 67 (0, [zA 9, zI x2, zU], [], zH S I) (fun w => Wp 70 (16, [zA 9, zA 31, zI x2], w.1.toList ++ [zI (I 31 (x2 : Int).toNat)], w.2) Q)) False) (cond (zbb 1) (Q (some (zI 1), zH S I)) False)) := (WpK_iff [2, 16] 10 70 _ Q).symm
set_option maxRecDepth 100000 in
theorem sg_X4_hasActs_16_9_31 (S : PS) (I : Nat → Nat → Int) (x2 : Int) (y0 : Int) (y1 : Int) (Q : PV1 → Prop) : Wp 70 (16, [zA 9, zA 31, zI x2], [zI y1, zI y0], zH S I) Q ↔ (cond (decide (y0 = y1)) (Wp 70 (2, [zA 9, zA 31, zI (zad x2 1)], [], zH S I) Q) (cond (zbb 0) (Q (some (zI 0), zH S I)) False)) := (WpK_iff [2, 16] 3 70 _ Q).symm
end
section
/-! what each stretch of the code does (laid by a program; each is checked by unfolding) -/
set_option maxRecDepth 100000 in
theorem sg_X3_find_0_11_7_25 (S : PS) (I : Nat → Nat → Int) (x2 : Int) (w4 : PV) (w5 : PV) (Q : PV1 → Prop) : Wp 39 (0, [zA 11, zA 7, zI x2, zA 25, w4, w5], [], zH S I) Q ↔ (Wp 13 (0, [zA 25], [], zH S I) (fun w => Wp 39 (4, [zA 11, zA 7, zI x2, zA 25, w4, w5], w.1.toList ++ [], w.2) Q)) := (WpK_iff [4, 10, 18, 28, 32, 35, 63, 71, 86, 91, 99, 106] 2 39 _ Q).symm
set_option maxRecDepth 100000 in
theorem sg_X3_find_4_11_7_25 (S : PS) (I : Nat → Nat → Int) (x2 : Int) (w4 : PV) (w5 : PV) (Q : PV1 → Prop) : Wp 39 (4, [zA 11, zA 7, zI x2, zA 25, w4, w5], [], zH S I) Q ↔ (Wp 40 (0, [zA 11, zA 7, zI x2, zU, zU], [], zH S I) (fun w => Wp 39 (10, [zA 11, zA 7, zI x2, zA 25, w4, w5], w.1.toList ++ [], w.2) Q)) := (WpK_iff [4, 10, 18, 28, 32, 35, 63, 71, 86, 91, 99, 106] 4 39 _ Q).symm
set_option maxRecDepth 100000 in
theorem sg_X3_find_10_11_25 (S : PS) (I : Nat → Nat → Int) (w1 : PV) (x2 : Int) (w4 : PV) (w5 : PV) (Q : PV1 → Prop) : Wp 39 (10, [zA 11, w1, zI x2, zA 25, w4, w5], [], zH S I) Q ↔ (Wp 171 (0, [zA 18, zI 0, zU, zU], [], zH S I) (fun w => Wp 39 (18, [zA 11, w1, zI x2, zA 25, w4, w5], w.1.toList ++ [], w.2) Q)) := (WpK_iff [4, 10, 18, 28, 32, 35, 63, 71, 86, 91, 99, 106] 4 39 _ Q).symm
set_option maxRecDepth 100000 in
theorem sg_X3_find_18_11_25 (S : PS) (I : Nat → Nat → Int) (w1 : PV) (x2 : Int) (w4 : PV) (w5 : PV) (Q : PV1 → Prop) : Wp 39 (18, [zA 11, w1, zI x2, zA 25, w4, w5], [], zH S I) Q ↔ (Wp 42 (0, [zA 11, zU, zU], [], zH S (zs2 I 11 8 0)) (fun w => Wp 39 (28, [zA 11, w1, zI x2, zA 25, w4, w5], w.1.toList ++ [zA 11], w.2) Q)) := (WpK_iff [4, 10, 18, 28, 32, 35, 63, 71, 86, 91, 99, 106] 6 39 _ Q).symm
set_option maxRecDepth 100000 in
theorem sg_X3_find_28_11_25_11 (S : PS) (I : Nat → Nat → Int) (w1 : PV) (x2 : Int) (w4 : PV) (w5 : PV) (y1 : Int) (Q : PV1 → Prop) : Wp 39 (28, [zA 11, w1, zI x2, zA 25, w4, w5], [zI y1, zA 11], zH S I) Q ↔ (Wp 44 (0, [zA 11, zI y1, zI ((-1)), zU, zU, zU], [], zH S I) (fun w => Wp 39 (32, [zA 11, w1, zI x2, zA 25, w4, w5], w.1.toList ++ [], w.2) Q)) := (WpK_iff [4, 10, 18, 28, 32, 35, 63, 71, 86, 91, 99, 106] 2 39 _ Q).symm
set_option maxRecDepth 100000 in
theorem sg_X3_find_32_11_25 (S : PS) (I : Nat → Nat → Int) (w1 : PV) (x2 : Int) (w4 : PV) (w5 : PV) (Q : PV1 → Prop) : Wp 39 (32, [zA 11, w1, zI x2, zA 25, w4, w5], [], zH S I) Q ↔ (Wp 39 (35, [zA 11, w1, zI x2, zA 25, zI 0, w5], [], zH S I) Q) := (WpK_iff [4, 10, 18, 28, 32, 35, 63, 71, 86, 91, 99, 106] 2 39 _ Q).symm
set_option maxRecDepth 100000 in
theorem sg_X3_find_35_11_25 (S : PS) (I : Nat → Nat → Int) (w1 : PV) (x2 : Int) (x4 : Int) (w5 : PV) (Q : PV1 → Prop) : Wp 39 (35, [zA 11, w1, zI x2, zA 25, zI x4, w5], [], zH S I) Q ↔ (cond (decide (x4 < 720)) (cond (decide (x4 < I 11 8)) (cond (zib x4 720) (Wp 43 (0, [zA 11, zI (I 16 (x4 : Int).toNat), zU, zU], [], zH S I) (fun w => Wp 39 (63, [zA 11, w1, zI x2, zA 25, zI x4, w5], w.1.toList ++ [], w.2) Q)) False) (Q (none, zH S I))) (Q (none, zH S I))) := (WpK_iff [4, 10, 18, 28, 32, 35, 63, 71, 86, 91, 99, 106] 13 39 _ Q).symm
set_option maxRecDepth 100000 in
theorem sg_X3_find_63_11_25 (S : PS) (I : Nat → Nat → Int) (w1 : PV) (x2 : Int) (x4 : Int) (w5 : PV) (Q : PV1 → Prop) : Wp 39 (63, [zA 11, w1, zI x2, zA 25, zI x4, w5], [], zH S I) Q ↔ (Wp 50 (0, [zA 11, zI (I 11 9), zU, zU, zU], [], zH S I) (fun w => Wp 39 (71, [zA 11, w1, zI x2, zA 25, zI x4, w5], w.1.toList ++ [], w.2) Q)) := (WpK_iff [4, 10, 18, 28, 32, 35, 63, 71, 86, 91, 99, 106] 4 39 _ Q).symm
set_option maxRecDepth 100000 in
theorem sg_X3_find_71_11_25 (S : PS) (I : Nat → Nat → Int) (w1 : PV) (x2 : Int) (x4 : Int) (w5 : PV) (y0 : Int) (Q : PV1 → Prop) : Wp 39 (71, [zA 11, w1, zI x2, zA 25, zI x4, w5], [zI y0], zH S I) Q ↔ (cond (decide (y0 = (-1))) (Wp 45 (0, [zA 11, zI x4, zU, zU, zU, zU, zU], [], zH S I) (fun w => Wp 39 (106, [zA 11, w1, zI x2, zA 25, zI x4, zI y0], w.1.toList ++ [], w.2) Q)) (Wp 51 (0, [zA 11, zI x4, zA 25, zU, zU, zU, zU], [], zH S I) (fun w => Wp 39 (86, [zA 11, w1, zI x2, zA 25, zI x4, zI y0], w.1.toList ++ [], w.2) Q))) := (WpK_iff [4, 10, 18, 28, 32, 35, 63, 71, 86, 91, 99, 106] 8 39 _ Q).symm
set_option maxRecDepth 100000 in
theorem sg_X3_find_106_11_25 (S : PS) (I : Nat → Nat → Int) (w1 : PV) (x2 : Int) (x4 : Int) (w5 : PV) (Q : PV1 → Prop) : Wp 39 (106, [zA 11, w1, zI x2, zA 25, zI x4, w5], [], zH S I) Q ↔ (Wp 39 (35, [zA 11, w1, zI x2, zA 25, zI (zad x4 1), w5], [], zH S I) Q) := (WpK_iff [4, 10, 18, 28, 32, 35, 63, 71, 86, 91, 99, 106] 2 39 _ Q).symm
set_option maxRecDepth 100000 in
theorem sg_X3_find_86_25 (S : PS) (I : Nat → Nat → Int) (w0 : PV) (w1 : PV) (x2 : Int) (w4 : PV) (x5 : Int) (Q : PV1 → Prop) : Wp 39 (86, [w0, w1, zI x2, zA 25, w4, zI x5], [], zH S I) Q ↔ (Wp 15 (0, [zA 25], [], zH S I) (fun w => Wp 39 (91, [w0, w1, zI x2, zA 25, w4, zI x5], w.1.toList ++ [zA 25], w.2) Q)) := (WpK_iff [4, 10, 18, 28, 32, 35, 63, 71, 86, 91, 99, 106] 3 39 _ Q).symm
set_option maxRecDepth 100000 in
theorem sg_X3_find_91_25 (S : PS) (I : Nat → Nat → Int) (w0 : PV) (w1 : PV) (x2 : Int) (w3 : PV) (w4 : PV) (x5 : Int) (y1 : Int) (Q : PV1 → Prop) : Wp 39 (91, [w0, w1, zI x2, w3, w4, zI x5], [zI y1, zA 25], zH S I) Q ↔ (Wp 16 (0, [zA 25, zI (zsb y1 1), zI x2, zI x5], [], zH S I) (fun w => Wp 39 (99, [w0, w1, zI x2, w3, w4, zI x5], w.1.toList ++ [], w.2) Q)) := (WpK_iff [4, 10, 18, 28, 32, 35, 63, 71, 86, 91, 99, 106] 5 39 _ Q).symm
set_option maxRecDepth 100000 in
theorem sg_X3_find_99 (S : PS) (I : Nat → Nat → Int) (w0 : PV) (w1 : PV) (w2 : PV) (w3 : PV) (w4 : PV) (w5 : PV) (Q : PV1 → Prop) : Wp 39 (99, [w0, w1, w2, w3, w4, w5], [], zH S I) Q ↔ (Q (none, zH S I)) := (WpK_iff [4, 10, 18, 28, 32, 35, 63, 71, 86, 91, 99, 106] 1 39 _ Q).symm
set_option maxRecDepth 100000 in
theorem sg_X3_find_0_11_9_25 (S : PS) (I : Nat → Nat → Int) (x2 : Int) (w4 : PV) (w5 : PV) (Q : PV1 → Prop) : Wp 39 (0, [zA 11, zA 9, zI x2, zA 25, w4, w5], [], zH S I) Q ↔ (Wp 13 (0, [zA 25], [], zH S I) (fun w => Wp 39 (4, [zA 11, zA 9, zI x2, zA 25, w4, w5], w.1.toList ++ [], w.2) Q)) := (WpK_iff [4, 10, 18, 28, 32, 35, 63, 71, 86, 91, 99, 106] 2 39 _ Q).symm
set_option maxRecDepth 100000 in
theorem sg_X3_find_4_11_9_25 (S : PS) (I : Nat → Nat → Int) (x2 : Int) (w4 : PV) (w5 : PV) (Q : PV1 → Prop) : Wp 39 (4, [zA 11, zA 9, zI x2, zA 25, w4, w5], [], zH S I) Q ↔ (Wp 40 (0, [zA 11, zA 9, zI x2, zU, zU], [], zH S I) (fun w => Wp 39 (10, [zA 11, zA 9, zI x2, zA 25, w4, w5], w.1.toList ++ [], w.2) Q)) := (WpK_iff [4, 10, 18, 28, 32, 35, 63, 71, 86, 91, 99, 106] 4 39 _ Q).symm
set_option maxRecDepth 100000 in
theorem sg_X3_find_0_11_7_28 (S : PS) (I : Nat → Nat → Int) (x2 : Int) (w4 : PV) (w5 : PV) (Q : PV1 → Prop) : Wp 39 (0, [zA 11, zA 7, zI x2, zA 28, w4, w5], [], zH S I) Q ↔ (Wp 13 (0, [zA 28], [], zH S I) (fun w => Wp 39 (4, [zA 11, zA 7, zI x2, zA 28, w4, w5], w.1.toList ++ [], w.2) Q)) := (WpK_iff [4, 10, 18, 28, 32, 35, 63, 71, 86, 91, 99, 106] 2 39 _ Q).symm
set_option maxRecDepth 100000 in
theorem sg_X3_find_4_11_7_28 (S : PS) (I : Nat → Nat → Int) (x2 : Int) (w4 : PV) (w5 : PV) (Q : PV1 → Prop) : Wp 39 (4, [zA 11, zA 7, zI x2, zA 28, w4, w5], [], zH S I) Q ↔ (Wp 40 (0, [zA 11, zA 7, zI x2, zU, zU], [], zH S I) (fun w => Wp 39 (10, [zA 11, zA 7, zI x2, zA 28, w4, w5], w.1.toList ++ [], w.2) Q)) := (WpK_iff [4, 10, 18, 28, 32, 35, 63, 71, 86, 91, 99, 106] 4 39 _ Q).symm
set_option maxRecDepth 100000 in
theorem sg_X3_find_10_11_28 (S : PS) (I : Nat → Nat → Int) (w1 : PV) (x2 : Int) (w4 : PV) (w5 : PV) (Q : PV1 → Prop) : Wp 39 (10, [zA 11, w1, zI x2, zA 28, w4, w5], [], zH S I) Q ↔ (Wp 171 (0, [zA 18, zI 0, zU, zU], [], zH S I) (fun w => Wp 39 (18, [zA 11, w1, zI x2, zA 28, w4, w5], w.1.toList ++ [], w.2) Q)) := (WpK_iff [4, 10, 18, 28, 32, 35, 63, 71, 86, 91, 99, 106] 4 39 _ Q).symm
set_option maxRecDepth 100000 in
theorem sg_X3_find_18_11_28 (S : PS) (I : Nat → Nat → Int) (w1 : PV) (x2 : Int) (w4 : PV) (w5 : PV) (Q : PV1 → Prop) : Wp 39 (18, [zA 11, w1, zI x2, zA 28, w4, w5], [], zH S I) Q ↔ (Wp 42 (0, [zA 11, zU, zU], [], zH S (zs2 I 11 8 0)) (fun w => Wp 39 (28, [zA 11, w1, zI x2, zA 28, w4, w5], w.1.toList ++ [zA 11], w.2) Q)) := (WpK_iff [4, 10, 18, 28, 32, 35, 63, 71, 86, 91, 99, 106] 6 39 _ Q).symm
set_option maxRecDepth 100000 in
theorem sg_X3_find_28_11_28_11 (S : PS) (I : Nat → Nat → Int) (w1 : PV) (x2 : Int) (w4 : PV) (w5 : PV) (y1 : Int) (Q : PV1 → Prop) : Wp 39 (28, [zA 11, w1, zI x2, zA 28, w4, w5], [zI y1, zA 11], zH S I) Q ↔ (Wp 44 (0, [zA 11, zI y1, zI ((-1)), zU, zU, zU], [], zH S I) (fun w => Wp 39 (32, [zA 11, w1, zI x2, zA 28, w4, w5], w.1.toList ++ [], w.2) Q)) := (WpK_iff [4, 10, 18, 28, 32, 35, 63, 71, 86, 91, 99, 106] 2 39 _ Q).symm
set_option maxRecDepth 100000 in
theorem sg_X3_find_32_11_28 (S : PS) (I : Nat → Nat → Int) (w1 : PV) (x2 : Int) (w4 : PV) (w5 : PV) (Q : PV1 → Prop) : Wp 39 (32, [zA 11, w1, zI x2, zA 28, w4, w5], [], zH S I) Q ↔ (Wp 39 (35, [zA 11, w1, zI x2, zA 28, zI 0, w5], [], zH S I) Q) := (WpK_iff [4, 10, 18, 28, 32, 35, 63, 71, 86, 91, 99, 106] 2 39 _ Q).symm
set_option maxRecDepth 100000 in
theorem sg_X3_find_35_11_28 (S : PS) (I : Nat → Nat → Int) (w1 : PV) (x2 : Int) (x4 : Int) (w5 : PV) (Q : PV1 → Prop) : Wp 39 (35, [zA 11, w1, zI x2, zA 28, zI x4, w5], [], zH S I) Q ↔ (cond (decide (x4 < 720)) (cond (decide (x4 < I 11 8)) (cond (zib x4 720) (Wp 43 (0, [zA 11, zI (I 16 (x4 : Int).toNat), zU, zU], [], zH S I) (fun w => Wp 39 (63, [zA 11, w1, zI x2, zA 28, zI x4, w5], w.1.toList ++ [], w.2) Q)) False) (Q (none, zH S I))) (Q (none, zH S I))) := (WpK_iff [4, 10, 18, 28, 32, 35, 63, 71, 86, 91, 99, 106] 13 39 _ Q).symm
set_option maxRecDepth 100000 in
theorem sg_X3_find_63_11_28 (S : PS) (I : Nat → Nat → Int) (w1 : PV) (x2 : Int) (x4 : Int) (w5 : PV) (Q : PV1 → Prop) : Wp 39 (63, [zA 11, w1, zI x2, zA 28, zI x4, w5], [], zH S I) Q ↔ (Wp 50 (0, [zA 11, zI (I 11 9), zU, zU, zU], [], zH S I) (fun w => Wp 39 (71, [zA 11, w1, zI x2, zA 28, zI x4, w5], w.1.toList ++ [], w.2) Q)) := (WpK_iff [4, 10, 18, 28, 32, 35, 63, 71, 86, 91, 99, 106] 4 39 _ Q).symm
set_option maxRecDepth 100000 in
theorem sg_X3_find_71_11_28 (S : PS) (I : Nat → Nat → Int) (w1 : PV) (x2 : Int) (x4 : Int) (w5 : PV) (y0 : Int) (Q : PV1 → Prop) : Wp 39 (71, [zA 11, w1, zI x2, zA 28, zI x4, w5], [zI y0], zH S I) Q ↔ (cond (decide (y0 = (-1))) (Wp 45 (0, [zA 11, zI x4, zU, zU, zU, zU, zU], [], zH S I) (fun w => Wp 39 (106, [zA 11, w1, zI x2, zA 28, zI x4, zI y0], w.1.toList ++ [], w.2) Q)) (Wp 51 (0, [zA 11, zI x4, zA 28, zU, zU, zU, zU], [], zH S I) (fun w => Wp 39 (86, [zA 11, w1, zI x2, zA 28, zI x4, zI y0], w.1.toList ++ [], w.2) Q))) := (WpK_iff [4, 10, 18, 28, 32, 35, 63, 71, 86, 91, 99, 106] 8 39 _ Q).symm
set_option maxRecDepth 100000 in
theorem sg_X3_find_106_11_28 (S : PS) (I : Nat → Nat → Int) (w1 : PV) (x2 : Int) (x4 : Int) (w5 : PV) (Q : PV1 → Prop) : Wp 39 (106, [zA 11, w1, zI x2, zA 28, zI x4, w5], [], zH S I) Q ↔ (Wp 39 (35, [zA 11, w1, zI x2, zA 28, zI (zad x4 1), w5], [], zH S I) Q) := (WpK_iff [4, 10, 18, 28, 32, 35, 63, 71, 86, 91, 99, 106] 2 39 _ Q).symm
set_option maxRecDepth 100000 in
theorem sg_X3_find_86_28 (S : PS) (I : Nat → Nat → Int) (w0 : PV) (w1 : PV) (x2 : Int) (w4 : PV) (x5 : Int) (Q : PV1 → Prop) : Wp 39 (86, [w0, w1, zI x2, zA 28, w4, zI x5], [], zH S I) Q ↔ (Wp 15 (0, [zA 28], [], zH S I) (fun w => Wp 39 (91, [w0, w1, zI x2, zA 28, w4, zI x5], w.1.toList ++ [zA 28], w.2) Q)) := (WpK_iff [4, 10, 18, 28, 32, 35, 63, 71, 86, 91, 99, 106] 3 39 _ Q).symm
set_option maxRecDepth 100000 in
theorem sg_X3_find_91_28 (S : PS) (I : Nat → Nat → Int) (w0 : PV) (w1 : PV) (x2 : Int) (w3 : PV) (w4 : PV) (x5 : Int) (y1 : Int) (Q : PV1 → Prop) : Wp 39 (91, [w0, w1, zI x2, w3, w4, zI x5], [zI y1, zA 28], zH S I) Q ↔ (Wp 16 (0, [zA 28, zI (zsb y1 1), zI x2, zI x5], [], zH S I) (fun w => Wp 39 (99, [w0, w1, zI x2, w3, w4, zI x5], w.1.toList ++ [], w.2) Q)) := (WpK_iff [4, 10, 18, 28, 32, 35, 63, 71, 86, 91, 99, 106] 5 39 _ Q).symm
set_option maxRecDepth 100000 in
theorem sg_X3_find_0_11_9_28 (S : PS) (I : Nat → Nat → Int) (x2 : Int) (w4 : PV) (w5 : PV) (Q : PV1 → Prop) : Wp 39 (0, [zA 11, zA 9, zI x2, zA 28, w4, w5], [], zH S I) Q ↔ (Wp 13 (0, [zA 28], [], zH S I) (fun w => Wp 39 (4, [zA 11, zA 9, zI x2, zA 28, w4, w5], w.1.toList ++ [], w.2) Q)) := (WpK_iff [4, 10, 18, 28, 32, 35, 63, 71, 86, 91, 99, 106] 2 39 _ Q).symm
set_option maxRecDepth 100000 in
theorem sg_X3_find_4_11_9_28 (S : PS) (I : Nat → Nat → Int) (x2 : Int) (w4 : PV) (w5 : PV) (Q : PV1 → Prop) : Wp 39 (4, [zA 11, zA 9, zI x2, zA 28, w4, w5], [], zH S I) Q ↔ (Wp 40 (0, [zA 11, zA 9, zI x2, zU, zU], [], zH S I) (fun w => Wp 39 (10, [zA 11, zA 9, zI x2, zA 28, w4, w5], w.1.toList ++ [], w.2) Q)) := (WpK_iff [4, 10, 18, 28, 32, 35, 63, 71, 86, 91, 99, 106] 4 39 _ Q).symm
set_option maxRecDepth 100000 in
theorem sg_X3_gather_0_11_7 (S : PS) (I : Nat → Nat → Int) (x2 : Int) (w3 : PV) (w4 : PV) (Q : PV1 → Prop) : Wp 40 (0, [zA 11, zA 7, zI x2, w3, w4], [], zH S I) Q ↔ (Wp 57 (0, [zA 7], [], zH S I) (fun w => Wp 40 (5, [zA 11, zA 7, zI x2, w3, w4], w.1.toList ++ [zA 11], w.2) Q)) := (WpK_iff [5, 10, 20, 39, 115, 134] 3 40 _ Q).symm
set_option maxRecDepth 100000 in
theorem sg_X3_gather_5_11_7_11 (S : PS) (I : Nat → Nat → Int) (x2 : Int) (w3 : PV) (w4 : PV) (y1 : Int) (Q : PV1 → Prop) : Wp 40 (5, [zA 11, zA 7, zI x2, w3, w4], [zI y1, zA 11], zH S I) Q ↔ (Wp 170 (0, [zI y1, zI 6], [], zH S I) (fun w => Wp 40 (10, [zA 11, zA 7, zI x2, w3, w4], w.1.toList ++ [zA 11], w.2) Q)) := (WpK_iff [5, 10, 20, 39, 115, 134] 2 40 _ Q).symm
set_option maxRecDepth 100000 in
theorem sg_X3_gather_10_11_7_11 (S : PS) (I : Nat → Nat → Int) (x2 : Int) (w3 : PV) (w4 : PV) (y1 : Int) (Q : PV1 → Prop) : Wp 40 (10, [zA 11, zA 7, zI x2, w3, w4], [zI y1, zA 11], zH S I) Q ↔ (Wp 40 (20, [zA 11, zA 7, zI x2, zI 0, w4], [], zH S (zs2 (zs2 I 11 10 y1) 11 9 0)) Q) := (WpK_iff [5, 10, 20, 39, 115, 134] 6 40 _ Q).symm
set_option maxRecDepth 100000 in
theorem sg_X3_gather_20_11_7 (S : PS) (I : Nat → Nat → Int) (x2 : Int) (x3 : Int) (w4 : PV) (Q : PV1 → Prop) : Wp 40 (20, [zA 11, zA 7, zI x2, zI x3, w4], [], zH S I) Q ↔ (cond (decide (x3 < 16)) (cond (decide (I 11 9 < 5)) (Wp 60 (0, [zA 7, zI x3, zU], [], zH S I) (fun w => Wp 40 (39, [zA 11, zA 7, zI x2, zI x3, w4], w.1.toList ++ [], w.2) Q)) (cond (decide (I 11 9 < 0)) (Wp 40 (115, [zA 11, zA 7, zI x2, zI 0, w4], [], zH S I) Q) (cond (decide (I 11 9 < 6)) (cond (zib (I 11 9) 6) (Wp 40 (115, [zA 11, zA 7, zI x2, zI 0, w4], [], zH S (zs2 I 12 (I 11 9 : Int).toNat x2)) Q) False) (Wp 40 (115, [zA 11, zA 7, zI x2, zI 0, w4], [], zH S I) Q)))) (cond (decide (I 11 9 < 0)) (Wp 40 (115, [zA 11, zA 7, zI x2, zI 0, w4], [], zH S I) Q) (cond (decide (I 11 9 < 6)) (cond (zib (I 11 9) 6) (Wp 40 (115, [zA 11, zA 7, zI x2, zI 0, w4], [], zH S (zs2 I 12 (I 11 9 : Int).toNat x2)) Q) False) (Wp 40 (115, [zA 11, zA 7, zI x2, zI 0, w4], [], zH S I) Q)))) := (WpK_iff [5, 10, 20, 39, 115, 134] 24 40 _ Q).symm
set_option maxRecDepth 100000 in
theorem sg_X3_gather_39_11_7 (S : PS) (I : Nat → Nat → Int) (x2 : Int) (x3 : Int) (w4 : PV) (y0 : Int) (Q : PV1 → Prop) : Wp 40 (39, [zA 11, zA 7, zI x2, zI x3, w4], [zI y0], zH S I) Q ↔ (cond (decide (y0 = (-1))) (Wp 40 (20, [zA 11, zA 7, zI x2, zI (zad x3 1), zI y0], [], zH S I) Q) (cond (zib (I 11 9) 6) (cond (zib ((zs2 I 12 (I 11 9 : Int).toNat x3) 11 9) 6) (Wp 40 (20, [zA 11, zA 7, zI x2, zI (zad x3 1), zI y0], [], zH S (zs2 (zs2 (zs2 I 12 (I 11 9 : Int).toNat x3) 15 ((zs2 I 12 (I 11 9 : Int).toNat x3) 11 9 : Int).toNat y0) 11 9 (zad ((zs2 (zs2 I 12 (I 11 9 : Int).toNat x3) 15 ((zs2 I 12 (I 11 9 : Int).toNat x3) 11 9 : Int).toNat y0) 11 9) 1))) Q) False) False)) := (WpK_iff [5, 10, 20, 39, 115, 134] 24 40 _ Q).symm
set_option maxRecDepth 100000 in
theorem sg_X3_gather_115_11 (S : PS) (I : Nat → Nat → Int) (w1 : PV) (w2 : PV) (x3 : Int) (w4 : PV) (Q : PV1 → Prop) : Wp 40 (115, [zA 11, w1, w2, zI x3, w4], [], zH S I) Q ↔ (cond (decide (I 11 9 < x3)) (Q (none, zH S I)) (cond (decide (x3 < 6)) (Wp 41 (0, [zA 11, zI x3, zU], [], zH S I) (fun w => Wp 40 (134, [zA 11, w1, w2, zI x3, w4], w.1.toList ++ [], w.2) Q)) (Q (none, zH S I)))) := (WpK_iff [5, 10, 20, 39, 115, 134] 10 40 _ Q).symm
set_option maxRecDepth 100000 in
theorem sg_X3_gather_134_11 (S : PS) (I : Nat → Nat → Int) (w1 : PV) (w2 : PV) (x3 : Int) (w4 : PV) (Q : PV1 → Prop) : Wp 40 (134, [zA 11, w1, w2, zI x3, w4], [], zH S I) Q ↔ (Wp 40 (115, [zA 11, w1, w2, zI (zad x3 1), w4], [], zH S I) Q) := (WpK_iff [5, 10, 20, 39, 115, 134] 2 40 _ Q).symm
set_option maxRecDepth 100000 in
theorem sg_X3_code_0_11 (S : PS) (I : Nat → Nat → Int) (w1 : PV) (w2 : PV) (Q : PV1 → Prop) : Wp 42 (0, [zA 11, w1, w2], [], zH S I) Q ↔ (Wp 170 (0, [zI (I 11 9), zI 6], [], zH S I) (fun w => Wp 42 (11, [zA 11, zI 0, w2], w.1.toList ++ [], w.2) Q)) := (WpK_iff [11, 14] 6 42 _ Q).symm
set_option maxRecDepth 100000 in
theorem sg_X3_code_11_11 (S : PS) (I : Nat → Nat → Int) (x1 : Int) (w2 : PV) (y0 : Int) (Q : PV1 → Prop) : Wp 42 (11, [zA 11, zI x1, w2], [zI y0], zH S I) Q ↔ (Wp 42 (14, [zA 11, zI x1, zI (zsb y0 1)], [], zH S I) Q) := (WpK_iff [11, 14] 3 42 _ Q).symm
set_option maxRecDepth 100000 in
theorem sg_X3_code_14_11 (S : PS) (I : Nat → Nat → Int) (x1 : Int) (x2 : Int) (Q : PV1 → Prop) : Wp 42 (14, [zA 11, zI x1, zI x2], [], zH S I) Q ↔ (cond (decide (x2 < 0)) (Q (some (zI x1), zH S I)) (cond (zib x2 6) (Wp 42 (14, [zA 11, zI (zad (zml x1 6) (I 15 (x2 : Int).toNat)), zI (zad x2 (-1))], [], zH S I) Q) False)) := (WpK_iff [11, 14] 13 42 _ Q).symm
set_option maxRecDepth 100000 in
theorem sg_X3_reach_0_11 (S : PS) (I : Nat → Nat → Int) (x1 : Int) (x2 : Int) (w3 : PV) (w4 : PV) (w5 : PV) (Q : PV1 → Prop) : Wp 44 (0, [zA 11, zI x1, zI x2, w3, w4, w5], [], zH S I) Q ↔ (cond (!decide ((32 : Int) = 0)) (cond (!decide ((32 : Int) = 0)) (cond (decide (zdv x1 32 < 0)) (cond (decide (1 = 0)) (cond (decide (I 11 8 < 0)) (Q (none, zH S I)) (cond (decide (I 11 8 < 720)) (cond (zib (zdv x1 32) 243) (cond (zib (zdv x1 32) 243) (cond (zib ((zs2 I 18 (zdv x1 32 : Int).toNat (zor (I 18 (zdv x1 32 : Int).toNat) (zsl 1 (zrm x1 32)))) 11 8) 720) (cond (zib ((zs2 (zs2 I 18 (zdv x1 32 : Int).toNat (zor (I 18 (zdv x1 32 : Int).toNat) (zsl 1 (zrm x1 32)))) 16 ((zs2 I 18 (zdv x1 32 : Int).toNat (zor (I 18 (zdv x1 32 : Int).toNat) (zsl 1 (zrm x1 32)))) 11 8 : Int).toNat x1) 11 8) 720) (Q (none, zH S (zs2 (zs2 (zs2 (zs2 I 18 (zdv x1 32 : Int).toNat (zor (I 18 (zdv x1 32 : Int).toNat) (zsl 1 (zrm x1 32)))) 16 ((zs2 I 18 (zdv x1 32 : Int).toNat (zor (I 18 (zdv x1 32 : Int).toNat) (zsl 1 (zrm x1 32)))) 11 8 : Int).toNat x1) 17 ((zs2 (zs2 I 18 (zdv x1 32 : Int).toNat (zor (I 18 (zdv x1 32 : Int).toNat) (zsl 1 (zrm x1 32)))) 16 ((zs2 I 18 (zdv x1 32 : Int).toNat (zor (I 18 (zdv x1 32 : Int).toNat) (zsl 1 (zrm x1 32)))) 11 8 : Int).toNat x1) 11 8 : Int).toNat x2) 11 8 (zad ((zs2 (zs2 (zs2 I 18 (zdv x1 32 : Int).toNat (zor (I 18 (zdv x1 32 : Int).toNat) (zsl 1 (zrm x1 32)))) 16 ((zs2 I 18 (zdv x1 32 : Int).toNat (zor (I 18 (zdv x1 32 : Int).toNat) (zsl 1 (zrm x1 32)))) 11 8 : Int).toNat x1) 17 ((zs2 (zs2 I 18 (zdv x1 32 : Int).toNat (zor (I 18 (zdv x1 32 : Int).toNat) (zsl 1 (zrm x1 32)))) 16 ((zs2 I 18 (zdv x1 32 : Int).toNat (zor (I 18 (zdv x1 32 : Int).toNat) (zsl 1 (zrm x1 32)))) 11 8 : Int).toNat x1) 11 8 : Int).toNat x2) 11 8) 1)))) False) False) False) False) (Q (none, zH S I)))) (Q (none, zH S I))) (cond (decide (zdv x1 32 < 243)) (cond (zib (zdv x1 32) 243) (cond (decide (zan (I 18 (zdv x1 32 : Int).toNat) (zsl 1 (zrm x1 32)) = 0)) (cond (decide (0 = 0)) (cond (decide (I 11 8 < 0)) (Q (none, zH S I)) (cond (decide (I 11 8 < 720)) (cond (zib (zdv x1 32) 243) (cond (zib (zdv x1 32) 243) (cond (zib ((zs2 I 18 (zdv x1 32 : Int).toNat (zor (I 18 (zdv x1 32 : Int).toNat) (zsl 1 (zrm x1 32)))) 11 8) 720) (cond (zib ((zs2 (zs2 I 18 (zdv x1 32 : Int).toNat (zor (I 18 (zdv x1 32 : Int).toNat) (zsl 1 (zrm x1 32)))) 16 ((zs2 I 18 (zdv x1 32 : Int).toNat (zor (I 18 (zdv x1 32 : Int).toNat) (zsl 1 (zrm x1 32)))) 11 8 : Int).toNat x1) 11 8) 720) (Q (none, zH S (zs2 (zs2 (zs2 (zs2 I 18 (zdv x1 32 : Int).toNat (zor (I 18 (zdv x1 32 : Int).toNat) (zsl 1 (zrm x1 32)))) 16 ((zs2 I 18 (zdv x1 32 : Int).toNat (zor (I 18 (zdv x1 32 : Int).toNat) (zsl 1 (zrm x1 32)))) 11 8 : Int).toNat x1) 17 ((zs2 (zs2 I 18 (zdv x1 32 : Int).toNat (zor (I 18 (zdv x1 32 : Int).toNat) (zsl 1 (zrm x1 32)))) 16 ((zs2 I 18 (zdv x1 32 : Int).toNat (zor (I 18 (zdv x1 32 : Int).toNat) (zsl 1 (zrm x1 32)))) 11 8 : Int).toNat x1) 11 8 : Int).toNat x2) 11 8 (zad ((zs2 (zs2 (zs2 I 18 (zdv x1 32 : Int).toNat (zor (I 18 (zdv x1 32 : Int).toNat) (zsl 1 (zrm x1 32)))) 16 ((zs2 I 18 (zdv x1 32 : Int).toNat (zor (I 18 (zdv x1 32 : Int).toNat) (zsl 1 (zrm x1 32)))) 11 8 : Int).toNat x1) 17 ((zs2 (zs2 I 18 (zdv x1 32 : Int).toNat (zor (I 18 (zdv x1 32 : Int).toNat) (zsl 1 (zrm x1 32)))) 16 ((zs2 I 18 (zdv x1 32 : Int).toNat (zor (I 18 (zdv x1 32 : Int).toNat) (zsl 1 (zrm x1 32)))) 11 8 : Int).toNat x1) 11 8 : Int).toNat x2) 11 8) 1)))) False) False) False) False) (Q (none, zH S I)))) (Q (none, zH S I))) (cond (decide (1 = 0)) (cond (decide (I 11 8 < 0)) (Q (none, zH S I)) (cond (decide (I 11 8 < 720)) (cond (zib (zdv x1 32) 243) (cond (zib (zdv x1 32) 243) (cond (zib ((zs2 I 18 (zdv x1 32 : Int).toNat (zor (I 18 (zdv x1 32 : Int).toNat) (zsl 1 (zrm x1 32)))) 11 8) 720) (cond (zib ((zs2 (zs2 I 18 (zdv x1 32 : Int).toNat (zor (I 18 (zdv x1 32 : Int).toNat) (zsl 1 (zrm x1 32)))) 16 ((zs2 I 18 (zdv x1 32 : Int).toNat (zor (I 18 (zdv x1 32 : Int).toNat) (zsl 1 (zrm x1 32)))) 11 8 : Int).toNat x1) 11 8) 720) (Q (none, zH S (zs2 (zs2 (zs2 (zs2 I 18 (zdv x1 32 : Int).toNat (zor (I 18 (zdv x1 32 : Int).toNat) (zsl 1 (zrm x1 32)))) 16 ((zs2 I 18 (zdv x1 32 : Int).toNat (zor (I 18 (zdv x1 32 : Int).toNat) (zsl 1 (zrm x1 32)))) 11 8 : Int).toNat x1) 17 ((zs2 (zs2 I 18 (zdv x1 32 : Int).toNat (zor (I 18 (zdv x1 32 : Int).toNat) (zsl 1 (zrm x1 32)))) 16 ((zs2 I 18 (zdv x1 32 : Int).toNat (zor (I 18 (zdv x1 32 : Int).toNat) (zsl 1 (zrm x1 32)))) 11 8 : Int).toNat x1) 11 8 : Int).toNat x2) 11 8 (zad ((zs2 (zs2 (zs2 I 18 (zdv x1 32 : Int).toNat (zor (I 18 (zdv x1 32 : Int).toNat) (zsl 1 (zrm x1 32)))) 16 ((zs2 I 18 (zdv x1 32 : Int).toNat (zor (I 18 (zdv x1 32 : Int).toNat) (zsl 1 (zrm x1 32)))) 11 8 : Int).toNat x1) 17 ((zs2 (zs2 I 18 (zdv x1 32 : Int).toNat (zor (I 18 (zdv x1 32 : Int).toNat) (zsl 1 (zrm x1 32)))) 16 ((zs2 I 18 (zdv x1 32 : Int).toNat (zor (I 18 (zdv x1 32 : Int).toNat) (zsl 1 (zrm x1 32)))) 11 8 : Int).toNat x1) 11 8 : Int).toNat x2) 11 8) 1)))) False) False) False) False) (Q (none, zH S I)))) (Q (none, zH S I)))) False) (cond (decide (1 = 0)) (cond (decide (I 11 8 < 0)) (Q (none, zH S I)) (cond (decide (I 11 8 < 720)) (cond (zib (zdv x1 32) 243) (cond (zib (zdv x1 32) 243) (cond (zib ((zs2 I 18 (zdv x1 32 : Int).toNat (zor (I 18 (zdv x1 32 : Int).toNat) (zsl 1 (zrm x1 32)))) 11 8) 720) (cond (zib ((zs2 (zs2 I 18 (zdv x1 32 : Int).toNat (zor (I 18 (zdv x1 32 : Int).toNat) (zsl 1 (zrm x1 32)))) 16 ((zs2 I 18 (zdv x1 32 : Int).toNat (zor (I 18 (zdv x1 32 : Int).toNat) (zsl 1 (zrm x1 32)))) 11 8 : Int).toNat x1) 11 8) 720) (Q (none, zH S (zs2 (zs2 (zs2 (zs2 I 18 (zdv x1 32 : Int).toNat (zor (I 18 (zdv x1 32 : Int).toNat) (zsl 1 (zrm x1 32)))) 16 ((zs2 I 18 (zdv x1 32 : Int).toNat (zor (I 18 (zdv x1 32 : Int).toNat) (zsl 1 (zrm x1 32)))) 11 8 : Int).toNat x1) 17 ((zs2 (zs2 I 18 (zdv x1 32 : Int).toNat (zor (I 18 (zdv x1 32 : Int).toNat) (zsl 1 (zrm x1 32)))) 16 ((zs2 I 18 (zdv x1 32 : Int).toNat (zor (I 18 (zdv x1 32 : Int).toNat) (zsl 1 (zrm x1 32)))) 11 8 : Int).toNat x1) 11 8 : Int).toNat x2) 11 8 (zad ((zs2 (zs2 (zs2 I 18 (zdv x1 32 : Int).toNat (zor (I 18 (zdv x1 32 : Int).toNat) (zsl 1 (zrm x1 32)))) 16 ((zs2 I 18 (zdv x1 32 : Int).toNat (zor (I 18 (zdv x1 32 : Int).toNat) (zsl 1 (zrm x1 32)))) 11 8 : Int).toNat x1) 17 ((zs2 (zs2 I 18 (zdv x1 32 : Int).toNat (zor (I 18 (zdv x1 32 : Int).toNat) (zsl 1 (zrm x1 32)))) 16 ((zs2 I 18 (zdv x1 32 : Int).toNat (zor (I 18 (zdv x1 32 : Int).toNat) (zsl 1 (zrm x1 32)))) 11 8 : Int).toNat x1) 11 8 : Int).toNat x2) 11 8) 1)))) False) False) False) False) (Q (none, zH S I)))) (Q (none, zH S I))))) False) False) := (WpK_iff [] 61 44 _ Q).symm
set_option maxRecDepth 100000 in
theorem sg_X3_arrange_0_11 (S : PS) (I : Nat → Nat → Int) (x1 : Int) (w2 : PV) (w3 : PV) (Q : PV1 → Prop) : Wp 43 (0, [zA 11, zI x1, w2, w3], [], zH S I) Q ↔ (Wp 43 (4, [zA 11, zI x1, zI x1, zI 0], [], zH S I) Q) := (WpK_iff [4] 4 43 _ Q).symm
set_option maxRecDepth 100000 in
theorem sg_X3_arrange_4_11 (S : PS) (I : Nat → Nat → Int) (w1 : PV) (x2 : Int) (x3 : Int) (Q : PV1 → Prop) : Wp 43 (4, [zA 11, w1, zI x2, zI x3], [], zH S I) Q ↔ (cond (decide (x3 < I 11 9)) (cond (decide (x3 < 6)) (cond (!decide ((6 : Int) = 0)) (cond (zib x3 6) (cond (!decide ((6 : Int) = 0)) (Wp 43 (4, [zA 11, w1, zI (zdv x2 6), zI (zad x3 1)], [], zH S (zs2 I 15 (x3 : Int).toNat (zrm x2 6))) Q) False) False) False) (Q (none, zH S I))) (Q (none, zH S I))) := (WpK_iff [4] 20 43 _ Q).symm
set_option maxRecDepth 100000 in
theorem sg_X3_leastPlaceFor_0_11 (S : PS) (I : Nat → Nat → Int) (x1 : Int) (w2 : PV) (w3 : PV) (w4 : PV) (Q : PV1 → Prop) : Wp 50 (0, [zA 11, zI x1, w2, w3, w4], [], zH S I) Q ↔ (Wp 46 (0, [zA 11, zU, zU], [], zH S I) (fun w => Wp 50 (4, [zA 11, zI x1, w2, w3, w4], w.1.toList ++ [], w.2) Q)) := (WpK_iff [4, 10, 16, 18] 2 50 _ Q).symm
set_option maxRecDepth 100000 in
theorem sg_X3_leastPlaceFor_4_11 (S : PS) (I : Nat → Nat → Int) (x1 : Int) (w2 : PV) (w3 : PV) (w4 : PV) (y0 : Int) (Q : PV1 → Prop) : Wp 50 (4, [zA 11, zI x1, w2, w3, w4], [zI y0], zH S I) Q ↔ (Wp 48 (0, [zA 11, zI x1, zU, zU], [], zH S I) (fun w => Wp 50 (10, [zA 11, zI x1, zI y0, w3, w4], w.1.toList ++ [], w.2) Q)) := (WpK_iff [4, 10, 16, 18] 4 50 _ Q).symm
set_option maxRecDepth 100000 in
theorem sg_X3_leastPlaceFor_10_11 (S : PS) (I : Nat → Nat → Int) (x1 : Int) (x2 : Int) (w3 : PV) (w4 : PV) (y0 : Int) (Q : PV1 → Prop) : Wp 50 (10, [zA 11, zI x1, zI x2, w3, w4], [zI y0], zH S I) Q ↔ (Wp 47 (0, [zA 11, zI x1, zU, zU], [], zH S I) (fun w => Wp 50 (16, [zA 11, zI x1, zI x2, zI y0, w4], w.1.toList ++ [], w.2) Q)) := (WpK_iff [4, 10, 16, 18] 4 50 _ Q).symm
set_option maxRecDepth 100000 in
theorem sg_X3_leastPlaceFor_16 (S : PS) (I : Nat → Nat → Int) (w0 : PV) (w1 : PV) (x2 : Int) (x3 : Int) (w4 : PV) (y0 : Int) (Q : PV1 → Prop) : Wp 50 (16, [w0, w1, zI x2, zI x3, w4], [zI y0], zH S I) Q ↔ (Wp 50 (18, [w0, w1, zI x2, zI x3, zI y0], [], zH S I) Q) := (WpK_iff [4, 10, 16, 18] 1 50 _ Q).symm
set_option maxRecDepth 100000 in
theorem sg_X3_leastPlaceFor_18 (S : PS) (I : Nat → Nat → Int) (w0 : PV) (w1 : PV) (x2 : Int) (x3 : Int) (x4 : Int) (Q : PV1 → Prop) : Wp 50 (18, [w0, w1, zI x2, zI x3, zI x4], [], zH S I) Q ↔ (cond (decide (x4 < x3)) (cond (decide (x4 < 6)) (cond (decide (zan x2 (zsl 1 x4) = 0)) (Q (some (zI x4), zH S I)) (Wp 50 (18, [w0, w1, zI x2, zI x3, zI (zad x4 1)], [], zH S I) Q)) (Q (some (zI ((-1))), zH S I))) (Q (some (zI ((-1))), zH S I))) := (WpK_iff [4, 10, 16, 18] 14 50 _ Q).symm
set_option maxRecDepth 100000 in
theorem sg_X3_widen_0_11 (S : PS) (I : Nat → Nat → Int) (x1 : Int) (w2 : PV) (w3 : PV) (w4 : PV) (w5 : PV) (w6 : PV) (Q : PV1 → Prop) : Wp 45 (0, [zA 11, zI x1, w2, w3, w4, w5, w6], [], zH S I) Q ↔ (Wp 46 (0, [zA 11, zU, zU], [], zH S I) (fun w => Wp 45 (4, [zA 11, zI x1, w2, w3, w4, w5, w6], w.1.toList ++ [], w.2) Q)) := (WpK_iff [4, 7, 34, 41, 43, 79, 83] 2 45 _ Q).symm
set_option maxRecDepth 100000 in
theorem sg_X3_widen_4_11 (S : PS) (I : Nat → Nat → Int) (x1 : Int) (w2 : PV) (w3 : PV) (w4 : PV) (w5 : PV) (w6 : PV) (y0 : Int) (Q : PV1 → Prop) : Wp 45 (4, [zA 11, zI x1, w2, w3, w4, w5, w6], [zI y0], zH S I) Q ↔ (Wp 45 (7, [zA 11, zI x1, zI y0, zI 0, w4, w5, w6], [], zH S I) Q) := (WpK_iff [4, 7, 34, 41, 43, 79, 83] 3 45 _ Q).symm
set_option maxRecDepth 100000 in
theorem sg_X3_widen_7_11 (S : PS) (I : Nat → Nat → Int) (x1 : Int) (x2 : Int) (x3 : Int) (w4 : PV) (w5 : PV) (w6 : PV) (Q : PV1 → Prop) : Wp 45 (7, [zA 11, zI x1, zI x2, zI x3, w4, w5, w6], [], zH S I) Q ↔ (cond (decide (x3 < I 11 9)) (cond (decide (x3 < 6)) (cond (zib x3 6) (Wp 48 (0, [zA 11, zI x3, zU, zU], [], zH S I) (fun w => Wp 45 (34, [zA 11, zI x1, zI x2, zI x3, zI (I 15 (x3 : Int).toNat), w5, w6], w.1.toList ++ [], w.2) Q)) False) (Q (none, zH S I))) (Q (none, zH S I))) := (WpK_iff [4, 7, 34, 41, 43, 79, 83] 15 45 _ Q).symm
set_option maxRecDepth 100000 in
theorem sg_X3_widen_34_11 (S : PS) (I : Nat → Nat → Int) (x1 : Int) (x2 : Int) (x3 : Int) (x4 : Int) (w5 : PV) (w6 : PV) (y0 : Int) (Q : PV1 → Prop) : Wp 45 (34, [zA 11, zI x1, zI x2, zI x3, zI x4, w5, w6], [zI y0], zH S I) Q ↔ (Wp 47 (0, [zA 11, zI x3, zU, zU], [], zH S I) (fun w => Wp 45 (41, [zA 11, zI x1, zI x2, zI x3, zI x4, zI y0, w6], w.1.toList ++ [], w.2) Q)) := (WpK_iff [4, 7, 34, 41, 43, 79, 83] 4 45 _ Q).symm
set_option maxRecDepth 100000 in
theorem sg_X3_widen_41_11 (S : PS) (I : Nat → Nat → Int) (x1 : Int) (x2 : Int) (x3 : Int) (x4 : Int) (x5 : Int) (w6 : PV) (y0 : Int) (Q : PV1 → Prop) : Wp 45 (41, [zA 11, zI x1, zI x2, zI x3, zI x4, zI x5, w6], [zI y0], zH S I) Q ↔ (Wp 45 (43, [zA 11, zI x1, zI x2, zI x3, zI x4, zI x5, zI y0], [], zH S I) Q) := (WpK_iff [4, 7, 34, 41, 43, 79, 83] 1 45 _ Q).symm
set_option maxRecDepth 100000 in
theorem sg_X3_widen_43_11 (S : PS) (I : Nat → Nat → Int) (x1 : Int) (x2 : Int) (x3 : Int) (x4 : Int) (x5 : Int) (x6 : Int) (Q : PV1 → Prop) : Wp 45 (43, [zA 11, zI x1, zI x2, zI x3, zI x4, zI x5, zI x6], [], zH S I) Q ↔ (cond (decide (x6 < x5)) (cond (decide (x6 < 6)) (cond (decide (zan x2 (zsl 1 x6) = 0)) (cond (zib x3 6) (Wp 42 (0, [zA 11, zU, zU], [], zH S (zs2 I 15 (x3 : Int).toNat x6)) (fun w => Wp 45 (79, [zA 11, zI x1, zI x2, zI x3, zI x4, zI x5, zI x6], w.1.toList ++ [zA 11], w.2) Q)) False) (Wp 45 (83, [zA 11, zI x1, zI x2, zI x3, zI x4, zI x5, zI x6], [], zH S I) Q)) (cond (zib x3 6) (Wp 45 (7, [zA 11, zI x1, zI x2, zI (zad x3 1), zI x4, zI x5, zI x6], [], zH S (zs2 I 15 (x3 : Int).toNat x4)) Q) False)) (cond (zib x3 6) (Wp 45 (7, [zA 11, zI x1, zI x2, zI (zad x3 1), zI x4, zI x5, zI x6], [], zH S (zs2 I 15 (x3 : Int).toNat x4)) Q) False)) := (WpK_iff [4, 7, 34, 41, 43, 79, 83] 20 45 _ Q).symm
set_option maxRecDepth 100000 in
theorem sg_X3_widen_79_11_11 (S : PS) (I : Nat → Nat → Int) (x1 : Int) (x2 : Int) (x3 : Int) (x4 : Int) (x5 : Int) (x6 : Int) (y1 : Int) (Q : PV1 → Prop) : Wp 45 (79, [zA 11, zI x1, zI x2, zI x3, zI x4, zI x5, zI x6], [zI y1, zA 11], zH S I) Q ↔ (Wp 44 (0, [zA 11, zI y1, zI x1, zU, zU, zU], [], zH S I) (fun w => Wp 45 (83, [zA 11, zI x1, zI x2, zI x3, zI x4, zI x5, zI x6], w.1.toList ++ [], w.2) Q)) := (WpK_iff [4, 7, 34, 41, 43, 79, 83] 2 45 _ Q).symm
set_option maxRecDepth 100000 in
theorem sg_X3_widen_83_11 (S : PS) (I : Nat → Nat → Int) (x1 : Int) (x2 : Int) (x3 : Int) (x4 : Int) (x5 : Int) (x6 : Int) (Q : PV1 → Prop) : Wp 45 (83, [zA 11, zI x1, zI x2, zI x3, zI x4, zI x5, zI x6], [], zH S I) Q ↔ (Wp 45 (43, [zA 11, zI x1, zI x2, zI x3, zI x4, zI x5, zI (zad x6 1)], [], zH S I) Q) := (WpK_iff [4, 7, 34, 41, 43, 79, 83] 2 45 _ Q).symm
set_option maxRecDepth 100000 in
theorem sg_X3_trace_0_11_25 (S : PS) (I : Nat → Nat → Int) (x1 : Int) (w3 : PV) (w4 : PV) (w5 : PV) (w6 : PV) (Q : PV1 → Prop) : Wp 51 (0, [zA 11, zI x1, zA 25, w3, w4, w5, w6], [], zH S I) Q ↔ (Wp 52 (0, [zA 11, zI x1], [], zH S I) (fun w => Wp 51 (7, [zA 11, zI x1, zA 25, zI 0, w4, w5, w6], w.1.toList ++ [], w.2) Q)) := (WpK_iff [7, 9, 30, 42, 50, 61, 70, 76, 82] 5 51 _ Q).symm
set_option maxRecDepth 100000 in
theorem sg_X3_trace_7_11_25 (S : PS) (I : Nat → Nat → Int) (x1 : Int) (x3 : Int) (w4 : PV) (w5 : PV) (w6 : PV) (y0 : Int) (Q : PV1 → Prop) : Wp 51 (7, [zA 11, zI x1, zA 25, zI x3, w4, w5, w6], [zI y0], zH S I) Q ↔ (Wp 51 (9, [zA 11, zI x1, zA 25, zI x3, zI y0, w5, w6], [], zH S I) Q) := (WpK_iff [7, 9, 30, 42, 50, 61, 70, 76, 82] 1 51 _ Q).symm
set_option maxRecDepth 100000 in
theorem sg_X3_trace_9_11_25 (S : PS) (I : Nat → Nat → Int) (x1 : Int) (x3 : Int) (x4 : Int) (w5 : PV) (w6 : PV) (Q : PV1 → Prop) : Wp 51 (9, [zA 11, zI x1, zA 25, zI x3, zI x4, w5, w6], [], zH S I) Q ↔ (cond (decide (x4 = (-1))) (Wp 14 (0, [zA 25, zI (zad x3 1)], [], zH S I) (fun w => Wp 51 (42, [zA 11, zI x1, zA 25, zI x3, zI x4, w5, w6], w.1.toList ++ [], w.2) Q)) (cond (decide (x3 < 16)) (Wp 52 (0, [zA 11, zI x4], [], zH S I) (fun w => Wp 51 (30, [zA 11, zI x1, zA 25, zI (zad x3 1), zI x4, w5, w6], w.1.toList ++ [], w.2) Q)) (Wp 14 (0, [zA 25, zI (zad x3 1)], [], zH S I) (fun w => Wp 51 (42, [zA 11, zI x1, zA 25, zI x3, zI x4, w5, w6], w.1.toList ++ [], w.2) Q)))) := (WpK_iff [7, 9, 30, 42, 50, 61, 70, 76, 82] 11 51 _ Q).symm
set_option maxRecDepth 100000 in
theorem sg_X3_trace_42_11_25 (S : PS) (I : Nat → Nat → Int) (x1 : Int) (x3 : Int) (w4 : PV) (w5 : PV) (w6 : PV) (Q : PV1 → Prop) : Wp 51 (42, [zA 11, zI x1, zA 25, zI x3, w4, w5, w6], [], zH S I) Q ↔ (Wp 51 (50, [zA 11, zI x1, zA 25, zI x3, zI x1, zI (zsb x3 1), w6], [], zH S I) Q) := (WpK_iff [7, 9, 30, 42, 50, 61, 70, 76, 82] 6 51 _ Q).symm
set_option maxRecDepth 100000 in
theorem sg_X3_trace_50_11_25 (S : PS) (I : Nat → Nat → Int) (w1 : PV) (w3 : PV) (x4 : Int) (x5 : Int) (w6 : PV) (Q : PV1 → Prop) : Wp 51 (50, [zA 11, w1, zA 25, w3, zI x4, zI x5, w6], [], zH S I) Q ↔ (cond (decide (x5 < 0)) (Q (none, zH S I)) (Wp 52 (0, [zA 11, zI x4], [], zH S I) (fun w => Wp 51 (61, [zA 11, w1, zA 25, w3, zI x4, zI x5, w6], w.1.toList ++ [], w.2) Q))) := (WpK_iff [7, 9, 30, 42, 50, 61, 70, 76, 82] 5 51 _ Q).symm
set_option maxRecDepth 100000 in
theorem sg_X3_trace_61_11_25 (S : PS) (I : Nat → Nat → Int) (w1 : PV) (w3 : PV) (x4 : Int) (x5 : Int) (w6 : PV) (y0 : Int) (Q : PV1 → Prop) : Wp 51 (61, [zA 11, w1, zA 25, w3, zI x4, zI x5, w6], [zI y0], zH S I) Q ↔ (Wp 53 (0, [zA 11, zI y0], [], zH S I) (fun w => Wp 51 (70, [zA 11, w1, zA 25, w3, zI x4, zI x5, zI y0], w.1.toList ++ [zA 11], w.2) Q)) := (WpK_iff [7, 9, 30, 42, 50, 61, 70, 76, 82] 5 51 _ Q).symm
set_option maxRecDepth 100000 in
theorem sg_X3_trace_70_11_25_11 (S : PS) (I : Nat → Nat → Int) (w1 : PV) (w3 : PV) (x4 : Int) (x5 : Int) (x6 : Int) (y1 : Int) (Q : PV1 → Prop) : Wp 51 (70, [zA 11, w1, zA 25, w3, zI x4, zI x5, zI x6], [zI y1, zA 11], zH S I) Q ↔ (Wp 53 (0, [zA 11, zI x4], [], zH S I) (fun w => Wp 51 (76, [zA 11, w1, zA 25, w3, zI x4, zI x5, zI x6], w.1.toList ++ [zI y1, zA 11], w.2) Q)) := (WpK_iff [7, 9, 30, 42, 50, 61, 70, 76, 82] 3 51 _ Q).symm
set_option maxRecDepth 100000 in
theorem sg_X3_trace_76_11_25_11 (S : PS) (I : Nat → Nat → Int) (w1 : PV) (w3 : PV) (w4 : PV) (x5 : Int) (x6 : Int) (y1 : Int) (y2 : Int) (Q : PV1 → Prop) : Wp 51 (76, [zA 11, w1, zA 25, w3, w4, zI x5, zI x6], [zI y2, zI y1, zA 11], zH S I) Q ↔ (Wp 54 (0, [zA 11, zI y1, zI y2, zI x5, zA 25, zU, zU, zU], [], zH S I) (fun w => Wp 51 (82, [zA 11, w1, zA 25, w3, w4, zI x5, zI x6], w.1.toList ++ [], w.2) Q)) := (WpK_iff [7, 9, 30, 42, 50, 61, 70, 76, 82] 3 51 _ Q).symm
set_option maxRecDepth 100000 in
theorem sg_X3_trace_82_11_25 (S : PS) (I : Nat → Nat → Int) (w1 : PV) (w3 : PV) (w4 : PV) (x5 : Int) (x6 : Int) (Q : PV1 → Prop) : Wp 51 (82, [zA 11, w1, zA 25, w3, w4, zI x5, zI x6], [], zH S I) Q ↔ (Wp 51 (50, [zA 11, w1, zA 25, w3, zI x6, zI (zad x5 (-1)), zI x6], [], zH S I) Q) := (WpK_iff [7, 9, 30, 42, 50, 61, 70, 76, 82] 4 51 _ Q).symm
set_option maxRecDepth 100000 in
theorem sg_X3_trace_30_11_25 (S : PS) (I : Nat → Nat → Int) (x1 : Int) (x3 : Int) (w4 : PV) (w5 : PV) (w6 : PV) (y0 : Int) (Q : PV1 → Prop) : Wp 51 (30, [zA 11, zI x1, zA 25, zI x3, w4, w5, w6], [zI y0], zH S I) Q ↔ (Wp 51 (9, [zA 11, zI x1, zA 25, zI x3, zI y0, w5, w6], [], zH S I) Q) := (WpK_iff [7, 9, 30, 42, 50, 61, 70, 76, 82] 2 51 _ Q).symm
set_option maxRecDepth 100000 in
theorem sg_X3_gather_0_11_9 (S : PS) (I : Nat → Nat → Int) (x2 : Int) (w3 : PV) (w4 : PV) (Q : PV1 → Prop) : Wp 40 (0, [zA 11, zA 9, zI x2, w3, w4], [], zH S I) Q ↔ (Wp 57 (0, [zA 9], [], zH S I) (fun w => Wp 40 (5, [zA 11, zA 9, zI x2, w3, w4], w.1.toList ++ [zA 11], w.2) Q)) := (WpK_iff [5, 10, 20, 39, 115, 134] 3 40 _ Q).symm
set_option maxRecDepth 100000 in
theorem sg_X3_gather_5_11_9_11 (S : PS) (I : Nat → Nat → Int) (x2 : Int) (w3 : PV) (w4 : PV) (y1 : Int) (Q : PV1 → Prop) : Wp 40 (5, [zA 11, zA 9, zI x2, w3, w4], [zI y1, zA 11], zH S I) Q ↔ (Wp 170 (0, [zI y1, zI 6], [], zH S I) (fun w => Wp 40 (10, [zA 11, zA 9, zI x2, w3, w4], w.1.toList ++ [zA 11], w.2) Q)) := (WpK_iff [5, 10, 20, 39, 115, 134] 2 40 _ Q).symm
set_option maxRecDepth 100000 in
theorem sg_X3_gather_10_11_9_11 (S : PS) (I : Nat → Nat → Int) (x2 : Int) (w3 : PV) (w4 : PV) (y1 : Int) (Q : PV1 → Prop) : Wp 40 (10, [zA 11, zA 9, zI x2, w3, w4], [zI y1, zA 11], zH S I) Q ↔ (Wp 40 (20, [zA 11, zA 9, zI x2, zI 0, w4], [], zH S (zs2 (zs2 I 11 10 y1) 11 9 0)) Q) := (WpK_iff [5, 10, 20, 39, 115, 134] 6 40 _ Q).symm
set_option maxRecDepth 100000 in
theorem sg_X3_gather_20_11_9 (S : PS) (I : Nat → Nat → Int) (x2 : Int) (x3 : Int) (w4 : PV) (Q : PV1 → Prop) : Wp 40 (20, [zA 11, zA 9, zI x2, zI x3, w4], [], zH S I) Q ↔ (cond (decide (x3 < 16)) (cond (decide (I 11 9 < 5)) (Wp 60 (0, [zA 9, zI x3, zU], [], zH S I) (fun w => Wp 40 (39, [zA 11, zA 9, zI x2, zI x3, w4], w.1.toList ++ [], w.2) Q)) (cond (decide (I 11 9 < 0)) (Wp 40 (115, [zA 11, zA 9, zI x2, zI 0, w4], [], zH S I) Q) (cond (decide (I 11 9 < 6)) (cond (zib (I 11 9) 6) (Wp 40 (115, [zA 11, zA 9, zI x2, zI 0, w4], [], zH S (zs2 I 12 (I 11 9 : Int).toNat x2)) Q) False) (Wp 40 (115, [zA 11, zA 9, zI x2, zI 0, w4], [], zH S I) Q)))) (cond (decide (I 11 9 < 0)) (Wp 40 (115, [zA 11, zA 9, zI x2, zI 0, w4], [], zH S I) Q) (cond (decide (I 11 9 < 6)) (cond (zib (I 11 9) 6) (Wp 40 (115, [zA 11, zA 9, zI x2, zI 0, w4], [], zH S (zs2 I 12 (I 11 9 : Int).toNat x2)) Q) False) (Wp 40 (115, [zA 11, zA 9, zI x2, zI 0, w4], [], zH S I) Q)))) := (WpK_iff [5, 10, 20, 39, 115, 134] 24 40 _ Q).symm
set_option maxRecDepth 100000 in
theorem sg_X3_gather_39_11_9 (S : PS) (I : Nat → Nat → Int) (x2 : Int) (x3 : Int) (w4 : PV) (y0 : Int) (Q : PV1 → Prop) : Wp 40 (39, [zA 11, zA 9, zI x2, zI x3, w4], [zI y0], zH S I) Q ↔ (cond (decide (y0 = (-1))) (Wp 40 (20, [zA 11, zA 9, zI x2, zI (zad x3 1), zI y0], [], zH S I) Q) (cond (zib (I 11 9) 6) (cond (zib ((zs2 I 12 (I 11 9 : Int).toNat x3) 11 9) 6) (Wp 40 (20, [zA 11, zA 9, zI x2, zI (zad x3 1), zI y0], [], zH S (zs2 (zs2 (zs2 I 12 (I 11 9 : Int).toNat x3) 15 ((zs2 I 12 (I 11 9 : Int).toNat x3) 11 9 : Int).toNat y0) 11 9 (zad ((zs2 (zs2 I 12 (I 11 9 : Int).toNat x3) 15 ((zs2 I 12 (I 11 9 : Int).toNat x3) 11 9 : Int).toNat y0) 11 9) 1))) Q) False) False)) := (WpK_iff [5, 10, 20, 39, 115, 134] 24 40 _ Q).symm
set_option maxRecDepth 100000 in
theorem sg_X3_trace_0_11_28 (S : PS) (I : Nat → Nat → Int) (x1 : Int) (w3 : PV) (w4 : PV) (w5 : PV) (w6 : PV) (Q : PV1 → Prop) : Wp 51 (0, [zA 11, zI x1, zA 28, w3, w4, w5, w6], [], zH S I) Q ↔ (Wp 52 (0, [zA 11, zI x1], [], zH S I) (fun w => Wp 51 (7, [zA 11, zI x1, zA 28, zI 0, w4, w5, w6], w.1.toList ++ [], w.2) Q)) := (WpK_iff [7, 9, 30, 42, 50, 61, 70, 76, 82] 5 51 _ Q).symm
set_option maxRecDepth 100000 in
theorem sg_X3_trace_7_11_28 (S : PS) (I : Nat → Nat → Int) (x1 : Int) (x3 : Int) (w4 : PV) (w5 : PV) (w6 : PV) (y0 : Int) (Q : PV1 → Prop) : Wp 51 (7, [zA 11, zI x1, zA 28, zI x3, w4, w5, w6], [zI y0], zH S I) Q ↔ (Wp 51 (9, [zA 11, zI x1, zA 28, zI x3, zI y0, w5, w6], [], zH S I) Q) := (WpK_iff [7, 9, 30, 42, 50, 61, 70, 76, 82] 1 51 _ Q).symm
set_option maxRecDepth 100000 in
theorem sg_X3_trace_9_11_28 (S : PS) (I : Nat → Nat → Int) (x1 : Int) (x3 : Int) (x4 : Int) (w5 : PV) (w6 : PV) (Q : PV1 → Prop) : Wp 51 (9, [zA 11, zI x1, zA 28, zI x3, zI x4, w5, w6], [], zH S I) Q ↔ (cond (decide (x4 = (-1))) (Wp 14 (0, [zA 28, zI (zad x3 1)], [], zH S I) (fun w => Wp 51 (42, [zA 11, zI x1, zA 28, zI x3, zI x4, w5, w6], w.1.toList ++ [], w.2) Q)) (cond (decide (x3 < 16)) (Wp 52 (0, [zA 11, zI x4], [], zH S I) (fun w => Wp 51 (30, [zA 11, zI x1, zA 28, zI (zad x3 1), zI x4, w5, w6], w.1.toList ++ [], w.2) Q)) (Wp 14 (0, [zA 28, zI (zad x3 1)], [], zH S I) (fun w => Wp 51 (42, [zA 11, zI x1, zA 28, zI x3, zI x4, w5, w6], w.1.toList ++ [], w.2) Q)))) := (WpK_iff [7, 9, 30, 42, 50, 61, 70, 76, 82] 11 51 _ Q).symm
set_option maxRecDepth 100000 in
theorem sg_X3_trace_42_11_28 (S : PS) (I : Nat → Nat → Int) (x1 : Int) (x3 : Int) (w4 : PV) (w5 : PV) (w6 : PV) (Q : PV1 → Prop) : Wp 51 (42, [zA 11, zI x1, zA 28, zI x3, w4, w5, w6], [], zH S I) Q ↔ (Wp 51 (50, [zA 11, zI x1, zA 28, zI x3, zI x1, zI (zsb x3 1), w6], [], zH S I) Q) := (WpK_iff [7, 9, 30, 42, 50, 61, 70, 76, 82] 6 51 _ Q).symm
set_option maxRecDepth 100000 in
theorem sg_X3_trace_50_11_28 (S : PS) (I : Nat → Nat → Int) (w1 : PV) (w3 : PV) (x4 : Int) (x5 : Int) (w6 : PV) (Q : PV1 → Prop) : Wp 51 (50, [zA 11, w1, zA 28, w3, zI x4, zI x5, w6], [], zH S I) Q ↔ (cond (decide (x5 < 0)) (Q (none, zH S I)) (Wp 52 (0, [zA 11, zI x4], [], zH S I) (fun w => Wp 51 (61, [zA 11, w1, zA 28, w3, zI x4, zI x5, w6], w.1.toList ++ [], w.2) Q))) := (WpK_iff [7, 9, 30, 42, 50, 61, 70, 76, 82] 5 51 _ Q).symm
set_option maxRecDepth 100000 in
theorem sg_X3_trace_61_11_28 (S : PS) (I : Nat → Nat → Int) (w1 : PV) (w3 : PV) (x4 : Int) (x5 : Int) (w6 : PV) (y0 : Int) (Q : PV1 → Prop) : Wp 51 (61, [zA 11, w1, zA 28, w3, zI x4, zI x5, w6], [zI y0], zH S I) Q ↔ (Wp 53 (0, [zA 11, zI y0], [], zH S I) (fun w => Wp 51 (70, [zA 11, w1, zA 28, w3, zI x4, zI x5, zI y0], w.1.toList ++ [zA 11], w.2) Q)) := (WpK_iff [7, 9, 30, 42, 50, 61, 70, 76, 82] 5 51 _ Q).symm
set_option maxRecDepth 100000 in
theorem sg_X3_trace_70_11_28_11 (S : PS) (I : Nat → Nat → Int) (w1 : PV) (w3 : PV) (x4 : Int) (x5 : Int) (x6 : Int) (y1 : Int) (Q : PV1 → Prop) : Wp 51 (70, [zA 11, w1, zA 28, w3, zI x4, zI x5, zI x6], [zI y1, zA 11], zH S I) Q ↔ (Wp 53 (0, [zA 11, zI x4], [], zH S I) (fun w => Wp 51 (76, [zA 11, w1, zA 28, w3, zI x4, zI x5, zI x6], w.1.toList ++ [zI y1, zA 11], w.2) Q)) := (WpK_iff [7, 9, 30, 42, 50, 61, 70, 76, 82] 3 51 _ Q).symm
set_option maxRecDepth 100000 in
theorem sg_X3_trace_76_11_28_11 (S : PS) (I : Nat → Nat → Int) (w1 : PV) (w3 : PV) (w4 : PV) (x5 : Int) (x6 : Int) (y1 : Int) (y2 : Int) (Q : PV1 → Prop) : Wp 51 (76, [zA 11, w1, zA 28, w3, w4, zI x5, zI x6], [zI y2, zI y1, zA 11], zH S I) Q ↔ (Wp 54 (0, [zA 11, zI y1, zI y2, zI x5, zA 28, zU, zU, zU], [], zH S I) (fun w => Wp 51 (82, [zA 11, w1, zA 28, w3, w4, zI x5, zI x6], w.1.toList ++ [], w.2) Q)) := (WpK_iff [7, 9, 30, 42, 50, 61, 70, 76, 82] 3 51 _ Q).symm
set_option maxRecDepth 100000 in
theorem sg_X3_trace_82_11_28 (S : PS) (I : Nat → Nat → Int) (w1 : PV) (w3 : PV) (w4 : PV) (x5 : Int) (x6 : Int) (Q : PV1 → Prop) : Wp 51 (82, [zA 11, w1, zA 28, w3, w4, zI x5, zI x6], [], zH S I) Q ↔ (Wp 51 (50, [zA 11, w1, zA 28, w3, zI x6, zI (zad x5 (-1)), zI x6], [], zH S I) Q) := (WpK_iff [7, 9, 30, 42, 50, 61, 70, 76, 82] 4 51 _ Q).symm
set_option maxRecDepth 100000 in
theorem sg_X3_trace_30_11_28 (S : PS) (I : Nat → Nat → Int) (x1 : Int) (x3 : Int) (w4 : PV) (w5 : PV) (w6 : PV) (y0 : Int) (Q : PV1 → Prop) : Wp 51 (30, [zA 11, zI x1, zA 28, zI x3, w4, w5, w6], [zI y0], zH S I) Q ↔ (Wp 51 (9, [zA 11, zI x1, zA 28, zI x3, zI y0, w5, w6], [], zH S I) Q) := (WpK_iff [7, 9, 30, 42, 50, 61, 70, 76, 82] 2 51 _ Q).symm
set_option maxRecDepth 100000 in
theorem sg_X3_relate_0_11 (S : PS) (I : Nat → Nat → Int) (x1 : Int) (w2 : PV) (Q : PV1 → Prop) : Wp 41 (0, [zA 11, zI x1, w2], [], zH S I) Q ↔ (cond (decide (x1 < 0)) (Q (none, zH S I)) (cond (decide (x1 < 6)) (cond (zib x1 6) (cond (zib x1 6) (Wp 41 (27, [zA 11, zI x1, zI 0], [], zH S (zs2 (zs2 I 13 (x1 : Int).toNat 0) 14 (x1 : Int).toNat 0)) Q) False) False) (Q (none, zH S I)))) := (WpK_iff [27, 65, 87] 17 41 _ Q).symm
set_option maxRecDepth 100000 in
theorem sg_X3_relate_27_11 (S : PS) (I : Nat → Nat → Int) (x1 : Int) (x2 : Int) (Q : PV1 → Prop) : Wp 41 (27, [zA 11, zI x1, zI x2], [], zH S I) Q ↔ (cond (decide (x2 < I 11 9)) (cond (decide (x2 < 6)) (cond (decide (x2 = x1)) (Wp 41 (27, [zA 11, zI x1, zI (zad x2 1)], [], zH S I) Q) (cond (zib x1 6) (cond (zib x2 6) (Wp 35 (0, [zA 1, zI (I 12 (x1 : Int).toNat), zI (I 12 (x2 : Int).toNat)], [], zH S I) (fun w => Wp 41 (65, [zA 11, zI x1, zI x2], w.1.toList ++ [], w.2) Q)) False) False)) (Q (none, zH S I))) (Q (none, zH S I))) := (WpK_iff [27, 65, 87] 21 41 _ Q).symm
set_option maxRecDepth 100000 in
theorem sg_X3_relate_65_11 (S : PS) (I : Nat → Nat → Int) (x1 : Int) (x2 : Int) (y0 : Int) (Q : PV1 → Prop) : Wp 41 (65, [zA 11, zI x1, zI x2], [zI y0], zH S I) Q ↔ (cond (decide (y0 = 0)) (Wp 41 (27, [zA 11, zI x1, zI (zad x2 1)], [], zH S I) Q) (cond (zib x2 6) (cond (zib x1 6) (Wp 36 (0, [zA 1, zI (I 12 (x2 : Int).toNat), zI (I 12 (x1 : Int).toNat)], [], zH S I) (fun w => Wp 41 (87, [zA 11, zI x1, zI x2], w.1.toList ++ [], w.2) Q)) False) False)) := (WpK_iff [27, 65, 87] 12 41 _ Q).symm
set_option maxRecDepth 100000 in
theorem sg_X3_relate_87_11 (S : PS) (I : Nat → Nat → Int) (x1 : Int) (x2 : Int) (y0 : Int) (Q : PV1 → Prop) : Wp 41 (87, [zA 11, zI x1, zI x2], [zI y0], zH S I) Q ↔ (cond (decide (y0 = 0)) (cond (zib x1 6) (cond (zib x1 6) (Wp 41 (27, [zA 11, zI x1, zI (zad x2 1)], [], zH S (zs2 I 14 (x1 : Int).toNat (zor (I 14 (x1 : Int).toNat) (zsl 1 x2)))) Q) False) False) (cond (zib x1 6) (cond (zib x1 6) (Wp 41 (27, [zA 11, zI x1, zI (zad x2 1)], [], zH S (zs2 I 13 (x1 : Int).toNat (zor (I 13 (x1 : Int).toNat) (zsl 1 x2)))) Q) False) False)) := (WpK_iff [27, 65, 87] 14 41 _ Q).symm
set_option maxRecDepth 100000 in
theorem sg_X3_placesTaken_0_11 (S : PS) (I : Nat → Nat → Int) (w1 : PV) (w2 : PV) (Q : PV1 → Prop) : Wp 46 (0, [zA 11, w1, w2], [], zH S I) Q ↔ (Wp 46 (4, [zA 11, zI 0, zI 0], [], zH S I) Q) := (WpK_iff [4] 4 46 _ Q).symm
set_option maxRecDepth 100000 in
theorem sg_X3_placesTaken_4_11 (S : PS) (I : Nat → Nat → Int) (x1 : Int) (x2 : Int) (Q : PV1 → Prop) : Wp 46 (4, [zA 11, zI x1, zI x2], [], zH S I) Q ↔ (cond (decide (x2 < I 11 9)) (cond (decide (x2 < 6)) (cond (zib x2 6) (Wp 46 (4, [zA 11, zI (zor x1 (zsl 1 (I 15 (x2 : Int).toNat))), zI (zad x2 1)], [], zH S I) Q) False) (Q (some (zI x1), zH S I))) (Q (some (zI x1), zH S I))) := (WpK_iff [4] 18 46 _ Q).symm
set_option maxRecDepth 100000 in
theorem sg_X3_endOfRoom_0_11 (S : PS) (I : Nat → Nat → Int) (x1 : Int) (w2 : PV) (w3 : PV) (Q : PV1 → Prop) : Wp 48 (0, [zA 11, zI x1, w2, w3], [], zH S I) Q ↔ (Wp 48 (7, [zA 11, zI x1, zI (I 11 10), zI 0], [], zH S I) Q) := (WpK_iff [7, 30, 43] 5 48 _ Q).symm
set_option maxRecDepth 100000 in
theorem sg_X3_endOfRoom_7_11 (S : PS) (I : Nat → Nat → Int) (x1 : Int) (x2 : Int) (x3 : Int) (Q : PV1 → Prop) : Wp 48 (7, [zA 11, zI x1, zI x2, zI x3], [], zH S I) Q ↔ (cond (decide (x3 < I 11 9)) (cond (decide (x3 < 6)) (Wp 49 (0, [zA 14, zI x1, zI x3], [], zH S I) (fun w => Wp 48 (30, [zA 11, zI x1, zI x2, zI x3], w.1.toList ++ [], w.2) Q)) (Q (some (zI x2), zH S I))) (Q (some (zI x2), zH S I))) := (WpK_iff [7, 30, 43] 12 48 _ Q).symm
set_option maxRecDepth 100000 in
theorem sg_X3_endOfRoom_30_11 (S : PS) (I : Nat → Nat → Int) (x1 : Int) (x2 : Int) (x3 : Int) (y0 : Int) (Q : PV1 → Prop) : Wp 48 (30, [zA 11, zI x1, zI x2, zI x3], [zI y0], zH S I) Q ↔ (cond (decide (y0 = 0)) (Wp 48 (7, [zA 11, zI x1, zI x2, zI (zad x3 1)], [], zH S I) Q) (cond (zib x3 6) (Wp 170 (0, [zI x2, zI (I 15 (x3 : Int).toNat)], [], zH S I) (fun w => Wp 48 (43, [zA 11, zI x1, zI x2, zI x3], w.1.toList ++ [], w.2) Q)) False)) := (WpK_iff [7, 30, 43] 7 48 _ Q).symm
set_option maxRecDepth 100000 in
theorem sg_X3_endOfRoom_43_11 (S : PS) (I : Nat → Nat → Int) (x1 : Int) (w2 : PV) (x3 : Int) (y0 : Int) (Q : PV1 → Prop) : Wp 48 (43, [zA 11, zI x1, w2, zI x3], [zI y0], zH S I) Q ↔ (Wp 48 (7, [zA 11, zI x1, zI y0, zI (zad x3 1)], [], zH S I) Q) := (WpK_iff [7, 30, 43] 3 48 _ Q).symm
set_option maxRecDepth 100000 in
theorem sg_X3_startOfRoom_0_11 (S : PS) (I : Nat → Nat → Int) (x1 : Int) (w2 : PV) (w3 : PV) (Q : PV1 → Prop) : Wp 47 (0, [zA 11, zI x1, w2, w3], [], zH S I) Q ↔ (Wp 47 (4, [zA 11, zI x1, zI 0, zI 0], [], zH S I) Q) := (WpK_iff [4, 27, 42] 4 47 _ Q).symm
set_option maxRecDepth 100000 in
theorem sg_X3_startOfRoom_4_11 (S : PS) (I : Nat → Nat → Int) (x1 : Int) (x2 : Int) (x3 : Int) (Q : PV1 → Prop) : Wp 47 (4, [zA 11, zI x1, zI x2, zI x3], [], zH S I) Q ↔ (cond (decide (x3 < I 11 9)) (cond (decide (x3 < 6)) (Wp 49 (0, [zA 13, zI x1, zI x3], [], zH S I) (fun w => Wp 47 (27, [zA 11, zI x1, zI x2, zI x3], w.1.toList ++ [], w.2) Q)) (Q (some (zI x2), zH S I))) (Q (some (zI x2), zH S I))) := (WpK_iff [4, 27, 42] 12 47 _ Q).symm
set_option maxRecDepth 100000 in
theorem sg_X3_startOfRoom_27_11 (S : PS) (I : Nat → Nat → Int) (x1 : Int) (x2 : Int) (x3 : Int) (y0 : Int) (Q : PV1 → Prop) : Wp 47 (27, [zA 11, zI x1, zI x2, zI x3], [zI y0], zH S I) Q ↔ (cond (decide (y0 = 0)) (Wp 47 (4, [zA 11, zI x1, zI x2, zI (zad x3 1)], [], zH S I) Q) (cond (zib x3 6) (Wp 169 (0, [zI x2, zI (zad (I 15 (x3 : Int).toNat) 1)], [], zH S I) (fun w => Wp 47 (42, [zA 11, zI x1, zI x2, zI x3], w.1.toList ++ [], w.2) Q)) False)) := (WpK_iff [4, 27, 42] 9 47 _ Q).symm
set_option maxRecDepth 100000 in
theorem sg_X3_startOfRoom_42_11 (S : PS) (I : Nat → Nat → Int) (x1 : Int) (w2 : PV) (x3 : Int) (y0 : Int) (Q : PV1 → Prop) : Wp 47 (42, [zA 11, zI x1, w2, zI x3], [zI y0], zH S I) Q ↔ (Wp 47 (4, [zA 11, zI x1, zI y0, zI (zad x3 1)], [], zH S I) Q) := (WpK_iff [4, 27, 42] 3 47 _ Q).symm
set_option maxRecDepth 100000 in
theorem sg_X3_cameFromOf_0_11 (S : PS) (I : Nat → Nat → Int) (x1 : Int) (Q : PV1 → Prop) : Wp 52 (0, [zA 11, zI x1], [], zH S I) Q ↔ (cond (decide (x1 < 0)) (Q (some (zI ((-1))), zH S I)) (cond (decide (x1 < 720)) (cond (zib x1 720) (Q (some (zI (I 17 (x1 : Int).toNat)), zH S I)) False) (Q (some (zI ((-1))), zH S I)))) := (WpK_iff [] 11 52 _ Q).symm
set_option maxRecDepth 100000 in
theorem sg_X3_codeOf_0_11 (S : PS) (I : Nat → Nat → Int) (x1 : Int) (Q : PV1 → Prop) : Wp 53 (0, [zA 11, zI x1], [], zH S I) Q ↔ (cond (decide (x1 < 0)) (Q (some (zI 0), zH S I)) (cond (decide (x1 < 720)) (cond (zib x1 720) (Q (some (zI (I 16 (x1 : Int).toNat)), zH S I)) False) (Q (some (zI 0), zH S I)))) := (WpK_iff [] 11 53 _ Q).symm
set_option maxRecDepth 100000 in
theorem sg_X3_tellMove_0_11_25 (S : PS) (I : Nat → Nat → Int) (x1 : Int) (x2 : Int) (x3 : Int) (w5 : PV) (w6 : PV) (w7 : PV) (Q : PV1 → Prop) : Wp 54 (0, [zA 11, zI x1, zI x2, zI x3, zA 25, w5, w6, w7], [], zH S I) Q ↔ (Wp 54 (9, [zA 11, zI x1, zI x2, zI x3, zA 25, zI x1, zI x2, zI 0], [], zH S I) Q) := (WpK_iff [9, 56] 6 54 _ Q).symm
set_option maxRecDepth 100000 in
theorem sg_X3_tellMove_9_11_25 (S : PS) (I : Nat → Nat → Int) (w1 : PV) (w2 : PV) (x3 : Int) (x5 : Int) (x6 : Int) (x7 : Int) (Q : PV1 → Prop) : Wp 54 (9, [zA 11, w1, w2, zI x3, zA 25, zI x5, zI x6, zI x7], [], zH S I) Q ↔ (cond (decide (x7 < I 11 9)) (cond (decide (x7 < 6)) (cond (!decide ((6 : Int) = 0)) (cond (!decide ((6 : Int) = 0)) (cond (decide (zrm x5 6 = zrm x6 6)) (Wp 54 (56, [zA 11, w1, w2, zI x3, zA 25, zI x5, zI x6, zI x7], [], zH S I) Q) (cond (zib x7 6) (cond (!decide ((6 : Int) = 0)) (Wp 16 (0, [zA 25, zI x3, zI (I 12 (x7 : Int).toNat), zI (zrm x6 6)], [], zH S I) (fun w => Wp 54 (56, [zA 11, w1, w2, zI x3, zA 25, zI x5, zI x6, zI x7], w.1.toList ++ [], w.2) Q)) False) False)) False) False) (Q (none, zH S I))) (Q (none, zH S I))) := (WpK_iff [9, 56] 24 54 _ Q).symm
set_option maxRecDepth 100000 in
theorem sg_X3_tellMove_56_11_25 (S : PS) (I : Nat → Nat → Int) (w1 : PV) (w2 : PV) (x3 : Int) (x5 : Int) (x6 : Int) (x7 : Int) (Q : PV1 → Prop) : Wp 54 (56, [zA 11, w1, w2, zI x3, zA 25, zI x5, zI x6, zI x7], [], zH S I) Q ↔ (cond (!decide ((6 : Int) = 0)) (cond (!decide ((6 : Int) = 0)) (Wp 54 (9, [zA 11, w1, w2, zI x3, zA 25, zI (zdv x5 6), zI (zdv x6 6), zI (zad x7 1)], [], zH S I) Q) False) False) := (WpK_iff [9, 56] 10 54 _ Q).symm
set_option maxRecDepth 100000 in
theorem sg_X3_tellMove_0_11_28 (S : PS) (I : Nat → Nat → Int) (x1 : Int) (x2 : Int) (x3 : Int) (w5 : PV) (w6 : PV) (w7 : PV) (Q : PV1 → Prop) : Wp 54 (0, [zA 11, zI x1, zI x2, zI x3, zA 28, w5, w6, w7], [], zH S I) Q ↔ (Wp 54 (9, [zA 11, zI x1, zI x2, zI x3, zA 28, zI x1, zI x2, zI 0], [], zH S I) Q) := (WpK_iff [9, 56] 6 54 _ Q).symm
set_option maxRecDepth 100000 in
theorem sg_X3_tellMove_9_11_28 (S : PS) (I : Nat → Nat → Int) (w1 : PV) (w2 : PV) (x3 : Int) (x5 : Int) (x6 : Int) (x7 : Int) (Q : PV1 → Prop) : Wp 54 (9, [zA 11, w1, w2, zI x3, zA 28, zI x5, zI x6, zI x7], [], zH S I) Q ↔ (cond (decide (x7 < I 11 9)) (cond (decide (x7 < 6)) (cond (!decide ((6 : Int) = 0)) (cond (!decide ((6 : Int) = 0)) (cond (decide (zrm x5 6 = zrm x6 6)) (Wp 54 (56, [zA 11, w1, w2, zI x3, zA 28, zI x5, zI x6, zI x7], [], zH S I) Q) (cond (zib x7 6) (cond (!decide ((6 : Int) = 0)) (Wp 16 (0, [zA 28, zI x3, zI (I 12 (x7 : Int).toNat), zI (zrm x6 6)], [], zH S I) (fun w => Wp 54 (56, [zA 11, w1, w2, zI x3, zA 28, zI x5, zI x6, zI x7], w.1.toList ++ [], w.2) Q)) False) False)) False) False) (Q (none, zH S I))) (Q (none, zH S I))) := (WpK_iff [9, 56] 24 54 _ Q).symm
set_option maxRecDepth 100000 in
theorem sg_X3_tellMove_56_11_28 (S : PS) (I : Nat → Nat → Int) (w1 : PV) (w2 : PV) (x3 : Int) (x5 : Int) (x6 : Int) (x7 : Int) (Q : PV1 → Prop) : Wp 54 (56, [zA 11, w1, w2, zI x3, zA 28, zI x5, zI x6, zI x7], [], zH S I) Q ↔ (cond (!decide ((6 : Int) = 0)) (cond (!decide ((6 : Int) = 0)) (Wp 54 (9, [zA 11, w1, w2, zI x3, zA 28, zI (zdv x5 6), zI (zdv x6 6), zI (zad x7 1)], [], zH S I) Q) False) False) := (WpK_iff [9, 56] 10 54 _ Q).symm
set_option maxRecDepth 100000 in
theorem sg_X3_isIn_0_14 (S : PS) (I : Nat → Nat → Int) (x1 : Int) (x2 : Int) (Q : PV1 → Prop) : Wp 49 (0, [zA 14, zI x1, zI x2], [], zH S I) Q ↔ (cond (decide (x1 < 0)) (cond (zbb 0) (Q (some (zI 0), zH S I)) False) (cond (decide (x1 < 6)) (cond (zib x1 6) (cond (decide (zan (I 14 (x1 : Int).toNat) (zsl 1 x2) = 0)) (cond (zbb 0) (Q (some (zI 0), zH S I)) False) (cond (zbb 1) (Q (some (zI 1), zH S I)) False)) False) (cond (zbb 0) (Q (some (zI 0), zH S I)) False))) := (WpK_iff [] 17 49 _ Q).symm
set_option maxRecDepth 100000 in
theorem sg_X3_isIn_0_13 (S : PS) (I : Nat → Nat → Int) (x1 : Int) (x2 : Int) (Q : PV1 → Prop) : Wp 49 (0, [zA 13, zI x1, zI x2], [], zH S I) Q ↔ (cond (decide (x1 < 0)) (cond (zbb 0) (Q (some (zI 0), zH S I)) False) (cond (decide (x1 < 6)) (cond (zib x1 6) (cond (decide (zan (I 13 (x1 : Int).toNat) (zsl 1 x2) = 0)) (cond (zbb 0) (Q (some (zI 0), zH S I)) False) (cond (zbb 1) (Q (some (zI 1), zH S I)) False)) False) (cond (zbb 0) (Q (some (zI 0), zH S I)) False))) := (WpK_iff [] 17 49 _ Q).symm
end
section
/-! what each stretch of the code does (laid by a program; each is checked by unfolding) -/
set_option maxRecDepth 100000 in
theorem sg_X5_places_0_0 (S : PS) (I : Nat → Nat → Int) (x1 : Int) (w2 : PV) (Q : PV1 → Prop) : Wp 78 (0, [zA 0, zI x1, w2], [], zH S I) Q ↔ (cond (decide (x1 < 2)) (Q (some (zI ((-1))), zH S I)) (cond (decide (6 < x1)) (Q (some (zI ((-1))), zH S I)) (Wp 57 (0, [zA 7], [], zH S I) (fun w => Wp 78 (20, [zA 0, zI x1, w2], w.1.toList ++ [], w.2) Q)))) := (WpK_iff [20, 28, 36, 44, 56, 63] 9 78 _ Q).symm
set_option maxRecDepth 100000 in
theorem sg_X5_places_20_0 (S : PS) (I : Nat → Nat → Int) (x1 : Int) (w2 : PV) (y0 : Int) (Q : PV1 → Prop) : Wp 78 (20, [zA 0, zI x1, w2], [zI y0], zH S I) Q ↔ (Wp 20 (0, [zA 1], [], zH S I) (fun w => Wp 78 (28, [zA 0, zI x1, zI y0], w.1.toList ++ [], w.2) Q)) := (WpK_iff [20, 28, 36, 44, 56, 63] 4 78 _ Q).symm
set_option maxRecDepth 100000 in
theorem sg_X5_places_28_0 (S : PS) (I : Nat → Nat → Int) (x1 : Int) (x2 : Int) (Q : PV1 → Prop) : Wp 78 (28, [zA 0, zI x1, zI x2], [], zH S I) Q ↔ (Wp 56 (0, [zA 7, zI x1], [], zH S I) (fun w => Wp 78 (36, [zA 0, zI x1, zI x2], w.1.toList ++ [], w.2) Q)) := (WpK_iff [20, 28, 36, 44, 56, 63] 4 78 _ Q).symm
set_option maxRecDepth 100000 in
theorem sg_X5_places_36_0 (S : PS) (I : Nat → Nat → Int) (x1 : Int) (x2 : Int) (Q : PV1 → Prop) : Wp 78 (36, [zA 0, zI x1, zI x2], [], zH S I) Q ↔ (Wp 56 (0, [zA 9, zI x1], [], zH S I) (fun w => Wp 78 (44, [zA 0, zI x1, zI x2], w.1.toList ++ [], w.2) Q)) := (WpK_iff [20, 28, 36, 44, 56, 63] 4 78 _ Q).symm
set_option maxRecDepth 100000 in
theorem sg_X5_places_44_0 (S : PS) (I : Nat → Nat → Int) (w1 : PV) (x2 : Int) (Q : PV1 → Prop) : Wp 78 (44, [zA 0, w1, zI x2], [], zH S I) Q ↔ (Wp 1 (0, [zA 19], [], zH S (zs2 I 0 8 0)) (fun w => Wp 78 (56, [zA 0, w1, zI x2], w.1.toList ++ [], w.2) Q)) := (WpK_iff [20, 28, 36, 44, 56, 63] 6 78 _ Q).symm
set_option maxRecDepth 100000 in
theorem sg_X5_places_56_0 (S : PS) (I : Nat → Nat → Int) (w1 : PV) (x2 : Int) (Q : PV1 → Prop) : Wp 78 (56, [zA 0, w1, zI x2], [], zH S I) Q ↔ (Wp 13 (0, [zA 25], [], zH S I) (fun w => Wp 78 (63, [zA 0, w1, zI x2], w.1.toList ++ [], w.2) Q)) := (WpK_iff [20, 28, 36, 44, 56, 63] 3 78 _ Q).symm
set_option maxRecDepth 100000 in
theorem sg_X5_places_63 (S : PS) (I : Nat → Nat → Int) (w0 : PV) (w1 : PV) (x2 : Int) (Q : PV1 → Prop) : Wp 78 (63, [w0, w1, zI x2], [], zH S I) Q ↔ (Q (some (zI x2), zH S I)) := (WpK_iff [20, 28, 36, 44, 56, 63] 2 78 _ Q).symm
set_option maxRecDepth 100000 in
theorem sg_X5_rule_0_0 (S : PS) (I : Nat → Nat → Int) (x1 : Int) (x2 : Int) (x3 : Int) (x4 : Int) (Q : PV1 → Prop) : Wp 79 (0, [zA 0, zI x1, zI x2, zI x3, zI x4], [], zH S I) Q ↔ (Wp 103 (0, [zI x1], [], zH S I) (fun w => Wp 79 (4, [zA 0, zI x1, zI x2, zI x3, zI x4], w.1.toList ++ [], w.2) Q)) := (WpK_iff [4, 11, 18, 26, 41] 2 79 _ Q).symm
set_option maxRecDepth 100000 in
theorem sg_X5_rule_4_0 (S : PS) (I : Nat → Nat → Int) (x1 : Int) (x2 : Int) (x3 : Int) (x4 : Int) (y0 : Int) (Q : PV1 → Prop) : Wp 79 (4, [zA 0, zI x1, zI x2, zI x3, zI x4], [zI y0], zH S I) Q ↔ (cond (decide (y0 = 0)) (Q (some (zI ((-1))), zH S I)) (Wp 103 (0, [zI x2], [], zH S I) (fun w => Wp 79 (11, [zA 0, zI x1, zI x2, zI x3, zI x4], w.1.toList ++ [], w.2) Q))) := (WpK_iff [4, 11, 18, 26, 41] 3 79 _ Q).symm
set_option maxRecDepth 100000 in
theorem sg_X5_rule_11_0 (S : PS) (I : Nat → Nat → Int) (x1 : Int) (x2 : Int) (x3 : Int) (x4 : Int) (y0 : Int) (Q : PV1 → Prop) : Wp 79 (11, [zA 0, zI x1, zI x2, zI x3, zI x4], [zI y0], zH S I) Q ↔ (cond (decide (y0 = 0)) (Q (some (zI ((-1))), zH S I)) (Wp 104 (0, [zI x3], [], zH S I) (fun w => Wp 79 (18, [zA 0, zI x1, zI x2, zI x3, zI x4], w.1.toList ++ [], w.2) Q))) := (WpK_iff [4, 11, 18, 26, 41] 3 79 _ Q).symm
set_option maxRecDepth 100000 in
theorem sg_X5_rule_18_0 (S : PS) (I : Nat → Nat → Int) (x1 : Int) (x2 : Int) (x3 : Int) (x4 : Int) (y0 : Int) (Q : PV1 → Prop) : Wp 79 (18, [zA 0, zI x1, zI x2, zI x3, zI x4], [zI y0], zH S I) Q ↔ (cond (decide (y0 = 0)) (Q (some (zI ((-1))), zH S I)) (Wp 105 (0, [zI x4], [], zH S I) (fun w => Wp 79 (26, [zA 0, zI x1, zI x2, zI x3, zI x4], w.1.toList ++ [], w.2) Q))) := (WpK_iff [4, 11, 18, 26, 41] 3 79 _ Q).symm
set_option maxRecDepth 100000 in
theorem sg_X5_rule_26_0 (S : PS) (I : Nat → Nat → Int) (x1 : Int) (x2 : Int) (x3 : Int) (x4 : Int) (y0 : Int) (Q : PV1 → Prop) : Wp 79 (26, [zA 0, zI x1, zI x2, zI x3, zI x4], [zI y0], zH S I) Q ↔ (cond (decide (y0 = 0)) (Q (some (zI ((-1))), zH S I)) (Wp 107 (0, [zA 0, zI 0, zI x1, zI x2, zI x3, zI x4, zU], [], zH S I) (fun w => Wp 79 (41, [zA 0, zI x1, zI x2, zI x3, zI x4], w.1.toList ++ [], w.2) Q))) := (WpK_iff [4, 11, 18, 26, 41] 8 79 _ Q).symm
set_option maxRecDepth 100000 in
theorem sg_X5_rule_41 (S : PS) (I : Nat → Nat → Int) (w0 : PV) (w1 : PV) (w2 : PV) (w3 : PV) (w4 : PV) (y0 : Int) (Q : PV1 → Prop) : Wp 79 (41, [w0, w1, w2, w3, w4], [zI y0], zH S I) Q ↔ (Q (some (zI y0), zH S I)) := (WpK_iff [4, 11, 18, 26, 41] 1 79 _ Q).symm
set_option maxRecDepth 100000 in
theorem sg_X5_last_0_0 (S : PS) (I : Nat → Nat → Int) (x1 : Int) (Q : PV1 → Prop) : Wp 80 (0, [zA 0, zI x1], [], zH S I) Q ↔ (Wp 105 (0, [zI x1], [], zH S I) (fun w => Wp 80 (4, [zA 0, zI x1], w.1.toList ++ [], w.2) Q)) := (WpK_iff [4, 18] 2 80 _ Q).symm
set_option maxRecDepth 100000 in
theorem sg_X5_last_4_0 (S : PS) (I : Nat → Nat → Int) (x1 : Int) (y0 : Int) (Q : PV1 → Prop) : Wp 80 (4, [zA 0, zI x1], [zI y0], zH S I) Q ↔ (cond (decide (y0 = 0)) (Q (some (zI ((-1))), zH S I)) (Wp 107 (0, [zA 0, zI 2, zI 0, zI 0, zI 0, zI x1, zU], [], zH S I) (fun w => Wp 80 (18, [zA 0, zI x1], w.1.toList ++ [], w.2) Q))) := (WpK_iff [4, 18] 8 80 _ Q).symm
set_option maxRecDepth 100000 in
theorem sg_X5_last_18 (S : PS) (I : Nat → Nat → Int) (w0 : PV) (w1 : PV) (y0 : Int) (Q : PV1 → Prop) : Wp 80 (18, [w0, w1], [zI y0], zH S I) Q ↔ (Q (some (zI y0), zH S I)) := (WpK_iff [4, 18] 1 80 _ Q).symm
set_option maxRecDepth 100000 in
theorem sg_X5_span_0_0 (S : PS) (I : Nat → Nat → Int) (x1 : Int) (x2 : Int) (x3 : Int) (x4 : Int) (w5 : PV) (w6 : PV) (w7 : PV) (w8 : PV) (Q : PV1 → Prop) : Wp 81 (0, [zA 0, zI x1, zI x2, zI x3, zI x4, w5, w6, w7, w8], [], zH S I) Q ↔ (Wp 103 (0, [zI x1], [], zH S I) (fun w => Wp 81 (4, [zA 0, zI x1, zI x2, zI x3, zI x4, w5, w6, w7, w8], w.1.toList ++ [], w.2) Q)) := (WpK_iff [4, 11, 18, 26, 41, 52, 64, 83, 104] 2 81 _ Q).symm
set_option maxRecDepth 100000 in
theorem sg_X5_span_4_0 (S : PS) (I : Nat → Nat → Int) (x1 : Int) (x2 : Int) (x3 : Int) (x4 : Int) (w5 : PV) (w6 : PV) (w7 : PV) (w8 : PV) (y0 : Int) (Q : PV1 → Prop) : Wp 81 (4, [zA 0, zI x1, zI x2, zI x3, zI x4, w5, w6, w7, w8], [zI y0], zH S I) Q ↔ (cond (decide (y0 = 0)) (Q (some (zI ((-1))), zH S I)) (Wp 103 (0, [zI x2], [], zH S I) (fun w => Wp 81 (11, [zA 0, zI x1, zI x2, zI x3, zI x4, w5, w6, w7, w8], w.1.toList ++ [], w.2) Q))) := (WpK_iff [4, 11, 18, 26, 41, 52, 64, 83, 104] 3 81 _ Q).symm
set_option maxRecDepth 100000 in
theorem sg_X5_span_11_0 (S : PS) (I : Nat → Nat → Int) (x1 : Int) (x2 : Int) (x3 : Int) (x4 : Int) (w5 : PV) (w6 : PV) (w7 : PV) (w8 : PV) (y0 : Int) (Q : PV1 → Prop) : Wp 81 (11, [zA 0, zI x1, zI x2, zI x3, zI x4, w5, w6, w7, w8], [zI y0], zH S I) Q ↔ (cond (decide (y0 = 0)) (Q (some (zI ((-1))), zH S I)) (Wp 104 (0, [zI x3], [], zH S I) (fun w => Wp 81 (18, [zA 0, zI x1, zI x2, zI x3, zI x4, w5, w6, w7, w8], w.1.toList ++ [], w.2) Q))) := (WpK_iff [4, 11, 18, 26, 41, 52, 64, 83, 104] 3 81 _ Q).symm
set_option maxRecDepth 100000 in
theorem sg_X5_span_18_0 (S : PS) (I : Nat → Nat → Int) (x1 : Int) (x2 : Int) (x3 : Int) (x4 : Int) (w5 : PV) (w6 : PV) (w7 : PV) (w8 : PV) (y0 : Int) (Q : PV1 → Prop) : Wp 81 (18, [zA 0, zI x1, zI x2, zI x3, zI x4, w5, w6, w7, w8], [zI y0], zH S I) Q ↔ (cond (decide (y0 = 0)) (Q (some (zI ((-1))), zH S I)) (Wp 105 (0, [zI x4], [], zH S I) (fun w => Wp 81 (26, [zA 0, zI x1, zI x2, zI x3, zI x4, w5, w6, w7, w8], w.1.toList ++ [], w.2) Q))) := (WpK_iff [4, 11, 18, 26, 41, 52, 64, 83, 104] 3 81 _ Q).symm
set_option maxRecDepth 100000 in
theorem sg_X5_span_26_0 (S : PS) (I : Nat → Nat → Int) (x1 : Int) (x2 : Int) (x3 : Int) (x4 : Int) (w5 : PV) (w6 : PV) (w7 : PV) (w8 : PV) (y0 : Int) (Q : PV1 → Prop) : Wp 81 (26, [zA 0, zI x1, zI x2, zI x3, zI x4, w5, w6, w7, w8], [zI y0], zH S I) Q ↔ (cond (decide (y0 = 0)) (Q (some (zI ((-1))), zH S I)) (cond (decide (x2 < x1)) (Q (some (zI ((-1))), zH S I)) (Wp 109 (0, [zI x1, zI x2, zU, zU, zU], [], zH S I) (fun w => Wp 81 (41, [zA 0, zI x1, zI x2, zI x3, zI x4, w5, w6, w7, w8], w.1.toList ++ [], w.2) Q)))) := (WpK_iff [4, 11, 18, 26, 41, 52, 64, 83, 104] 7 81 _ Q).symm
set_option maxRecDepth 100000 in
theorem sg_X5_span_41_0 (S : PS) (I : Nat → Nat → Int) (x1 : Int) (x2 : Int) (x3 : Int) (x4 : Int) (w5 : PV) (w6 : PV) (w7 : PV) (w8 : PV) (y0 : Int) (Q : PV1 → Prop) : Wp 81 (41, [zA 0, zI x1, zI x2, zI x3, zI x4, w5, w6, w7, w8], [zI y0], zH S I) Q ↔ (Wp 24 (0, [zA 1, zU, zU], [], zH S I) (fun w => Wp 81 (52, [zA 0, zI x1, zI x2, zI x3, zI x4, zI y0, w6, w7, w8], w.1.toList ++ [zI y0], w.2) Q)) := (WpK_iff [4, 11, 18, 26, 41, 52, 64, 83, 104] 5 81 _ Q).symm
set_option maxRecDepth 100000 in
theorem sg_X5_span_52_0 (S : PS) (I : Nat → Nat → Int) (x1 : Int) (x2 : Int) (x3 : Int) (x4 : Int) (x5 : Int) (w6 : PV) (w7 : PV) (w8 : PV) (y0 : Int) (y1 : Int) (Q : PV1 → Prop) : Wp 81 (52, [zA 0, zI x1, zI x2, zI x3, zI x4, zI x5, w6, w7, w8], [zI y1, zI y0], zH S I) Q ↔ (cond (decide (y1 < y0)) (Q (some (zI ((-3))), zH S I)) (Wp 81 (64, [zA 0, zI x1, zI x2, zI x3, zI x4, zI x5, zI x1, zI 0, w8], [], zH S I) Q)) := (WpK_iff [4, 11, 18, 26, 41, 52, 64, 83, 104] 5 81 _ Q).symm
set_option maxRecDepth 100000 in
theorem sg_X5_span_64_0 (S : PS) (I : Nat → Nat → Int) (w1 : PV) (x2 : Int) (x3 : Int) (x4 : Int) (x5 : Int) (x6 : Int) (x7 : Int) (w8 : PV) (Q : PV1 → Prop) : Wp 81 (64, [zA 0, w1, zI x2, zI x3, zI x4, zI x5, zI x6, zI x7, w8], [], zH S I) Q ↔ (cond (decide (x7 < x5)) (cond (decide (x2 < x6)) (Q (some (zI x5), zH S I)) (Wp 108 (0, [zI x6, zI x2, zU, zU, zU], [], zH S I) (fun w => Wp 81 (83, [zA 0, w1, zI x2, zI x3, zI x4, zI x5, zI x6, zI x7, w8], w.1.toList ++ [], w.2) Q))) (Q (some (zI x5), zH S I))) := (WpK_iff [4, 11, 18, 26, 41, 52, 64, 83, 104] 9 81 _ Q).symm
set_option maxRecDepth 100000 in
theorem sg_X5_span_83_0 (S : PS) (I : Nat → Nat → Int) (w1 : PV) (x2 : Int) (x3 : Int) (x4 : Int) (x5 : Int) (x6 : Int) (x7 : Int) (w8 : PV) (y0 : Int) (Q : PV1 → Prop) : Wp 81 (83, [zA 0, w1, zI x2, zI x3, zI x4, zI x5, zI x6, zI x7, w8], [zI y0], zH S I) Q ↔ (Wp 107 (0, [zA 0, zI 1, zI x6, zI (zan 31 (zxr (zsb y0 1) ((-1)))), zI x3, zI x4, zU], [], zH S I) (fun w => Wp 81 (104, [zA 0, w1, zI x2, zI x3, zI x4, zI x5, zI x6, zI x7, zI y0], w.1.toList ++ [], w.2) Q)) := (WpK_iff [4, 11, 18, 26, 41, 52, 64, 83, 104] 14 81 _ Q).symm
set_option maxRecDepth 100000 in
theorem sg_X5_span_104_0 (S : PS) (I : Nat → Nat → Int) (w1 : PV) (x2 : Int) (x3 : Int) (x4 : Int) (x5 : Int) (x6 : Int) (x7 : Int) (x8 : Int) (y0 : Int) (Q : PV1 → Prop) : Wp 81 (104, [zA 0, w1, zI x2, zI x3, zI x4, zI x5, zI x6, zI x7, zI x8], [zI y0], zH S I) Q ↔ (Wp 81 (64, [zA 0, w1, zI x2, zI x3, zI x4, zI x5, zI (zad x6 x8), zI (zad x7 1), zI x8], [], zH S I) Q) := (WpK_iff [4, 11, 18, 26, 41, 52, 64, 83, 104] 7 81 _ Q).symm
set_option maxRecDepth 100000 in
theorem sg_X5_told_0_0 (S : PS) (I : Nat → Nat → Int) (x1 : Int) (x2 : Int) (Q : PV1 → Prop) : Wp 82 (0, [zA 0, zI x1, zI x2], [], zH S I) Q ↔ (Wp 23 (0, [zA 1, zI x1], [], zH S I) (fun w => Wp 82 (8, [zA 0, zI x1, zI x2], w.1.toList ++ [], w.2) Q)) := (WpK_iff [8, 64, 73, 82, 91, 100, 109, 118] 4 82 _ Q).symm
set_option maxRecDepth 100000 in
theorem sg_X5_told_8_0 (S : PS) (I : Nat → Nat → Int) (x1 : Int) (x2 : Int) (y0 : Int) (Q : PV1 → Prop) : Wp 82 (8, [zA 0, zI x1, zI x2], [zI y0], zH S I) Q ↔ (cond (decide (y0 = 0)) (Q (some (zI ((-101))), zH S I)) (cond (decide (x2 = 0)) (Wp 29 (0, [zA 1, zI x1], [], zH S I) (fun w => Wp 82 (64, [zA 0, zI x1, zI x2], w.1.toList ++ [], w.2) Q)) (cond (decide (x2 = 1)) (Wp 30 (0, [zA 1, zI x1], [], zH S I) (fun w => Wp 82 (73, [zA 0, zI x1, zI x2], w.1.toList ++ [], w.2) Q)) (cond (decide (x2 = 2)) (Wp 31 (0, [zA 1, zI x1], [], zH S I) (fun w => Wp 82 (82, [zA 0, zI x1, zI x2], w.1.toList ++ [], w.2) Q)) (cond (decide (x2 = 3)) (Wp 32 (0, [zA 1, zI x1], [], zH S I) (fun w => Wp 82 (91, [zA 0, zI x1, zI x2], w.1.toList ++ [], w.2) Q)) (cond (decide (x2 = 4)) (Wp 33 (0, [zA 1, zI x1], [], zH S I) (fun w => Wp 82 (100, [zA 0, zI x1, zI x2], w.1.toList ++ [], w.2) Q)) (cond (decide (x2 = 5)) (Wp 60 (0, [zA 7, zI x1, zU], [], zH S I) (fun w => Wp 82 (109, [zA 0, zI x1, zI x2], w.1.toList ++ [], w.2) Q)) (cond (decide (x2 = 6)) (Wp 60 (0, [zA 9, zI x1, zU], [], zH S I) (fun w => Wp 82 (118, [zA 0, zI x1, zI x2], w.1.toList ++ [], w.2) Q)) (Q (some (zI ((-101))), zH S I)))))))))) := (WpK_iff [8, 64, 73, 82, 91, 100, 109, 118] 7 82 _ Q).symm
set_option maxRecDepth 100000 in
theorem sg_X5_told_64 (S : PS) (I : Nat → Nat → Int) (w0 : PV) (w1 : PV) (w2 : PV) (y0 : Int) (Q : PV1 → Prop) : Wp 82 (64, [w0, w1, w2], [zI y0], zH S I) Q ↔ (Q (some (zI y0), zH S I)) := (WpK_iff [8, 64, 73, 82, 91, 100, 109, 118] 1 82 _ Q).symm
set_option maxRecDepth 100000 in
theorem sg_X5_told_73 (S : PS) (I : Nat → Nat → Int) (w0 : PV) (w1 : PV) (w2 : PV) (y0 : Int) (Q : PV1 → Prop) : Wp 82 (73, [w0, w1, w2], [zI y0], zH S I) Q ↔ (Q (some (zI y0), zH S I)) := (WpK_iff [8, 64, 73, 82, 91, 100, 109, 118] 1 82 _ Q).symm
set_option maxRecDepth 100000 in
theorem sg_X5_told_82 (S : PS) (I : Nat → Nat → Int) (w0 : PV) (w1 : PV) (w2 : PV) (y0 : Int) (Q : PV1 → Prop) : Wp 82 (82, [w0, w1, w2], [zI y0], zH S I) Q ↔ (Q (some (zI y0), zH S I)) := (WpK_iff [8, 64, 73, 82, 91, 100, 109, 118] 1 82 _ Q).symm
set_option maxRecDepth 100000 in
theorem sg_X5_told_91 (S : PS) (I : Nat → Nat → Int) (w0 : PV) (w1 : PV) (w2 : PV) (y0 : Int) (Q : PV1 → Prop) : Wp 82 (91, [w0, w1, w2], [zI y0], zH S I) Q ↔ (Q (some (zI y0), zH S I)) := (WpK_iff [8, 64, 73, 82, 91, 100, 109, 118] 1 82 _ Q).symm
set_option maxRecDepth 100000 in
theorem sg_X5_told_100 (S : PS) (I : Nat → Nat → Int) (w0 : PV) (w1 : PV) (w2 : PV) (y0 : Int) (Q : PV1 → Prop) : Wp 82 (100, [w0, w1, w2], [zI y0], zH S I) Q ↔ (Q (some (zI y0), zH S I)) := (WpK_iff [8, 64, 73, 82, 91, 100, 109, 118] 1 82 _ Q).symm
set_option maxRecDepth 100000 in
theorem sg_X5_told_109 (S : PS) (I : Nat → Nat → Int) (w0 : PV) (w1 : PV) (w2 : PV) (y0 : Int) (Q : PV1 → Prop) : Wp 82 (109, [w0, w1, w2], [zI y0], zH S I) Q ↔ (Q (some (zI y0), zH S I)) := (WpK_iff [8, 64, 73, 82, 91, 100, 109, 118] 1 82 _ Q).symm
set_option maxRecDepth 100000 in
theorem sg_X5_told_118 (S : PS) (I : Nat → Nat → Int) (w0 : PV) (w1 : PV) (w2 : PV) (y0 : Int) (Q : PV1 → Prop) : Wp 82 (118, [w0, w1, w2], [zI y0], zH S I) Q ↔ (Q (some (zI y0), zH S I)) := (WpK_iff [8, 64, 73, 82, 91, 100, 109, 118] 1 82 _ Q).symm
set_option maxRecDepth 100000 in
theorem sg_X5_drop_0_0 (S : PS) (I : Nat → Nat → Int) (x1 : Int) (Q : PV1 → Prop) : Wp 83 (0, [zA 0, zI x1], [], zH S I) Q ↔ (Wp 23 (0, [zA 1, zI x1], [], zH S I) (fun w => Wp 83 (8, [zA 0, zI x1], w.1.toList ++ [], w.2) Q)) := (WpK_iff [8, 21, 32, 46, 53] 4 83 _ Q).symm
set_option maxRecDepth 100000 in
theorem sg_X5_drop_8_0 (S : PS) (I : Nat → Nat → Int) (x1 : Int) (y0 : Int) (Q : PV1 → Prop) : Wp 83 (8, [zA 0, zI x1], [zI y0], zH S I) Q ↔ (cond (decide (y0 = 0)) (Q (some (zI ((-1))), zH S I)) (Wp 61 (0, [zA 7, zI x1], [], zH S I) (fun w => Wp 83 (21, [zA 0, zI x1], w.1.toList ++ [], w.2) Q))) := (WpK_iff [8, 21, 32, 46, 53] 5 83 _ Q).symm
set_option maxRecDepth 100000 in
theorem sg_X5_drop_21_0 (S : PS) (I : Nat → Nat → Int) (x1 : Int) (y0 : Int) (Q : PV1 → Prop) : Wp 83 (21, [zA 0, zI x1], [zI y0], zH S I) Q ↔ (cond (decide (y0 = 0)) (Wp 61 (0, [zA 9, zI x1], [], zH S I) (fun w => Wp 83 (32, [zA 0, zI x1], w.1.toList ++ [], w.2) Q)) (Q (some (zI ((-2))), zH S I))) := (WpK_iff [8, 21, 32, 46, 53] 5 83 _ Q).symm
set_option maxRecDepth 100000 in
theorem sg_X5_drop_32_0 (S : PS) (I : Nat → Nat → Int) (x1 : Int) (y0 : Int) (Q : PV1 → Prop) : Wp 83 (32, [zA 0, zI x1], [zI y0], zH S I) Q ↔ (cond (decide (y0 = 0)) (Wp 21 (0, [zA 1, zI x1], [], zH S I) (fun w => Wp 83 (46, [zA 0, zI x1], w.1.toList ++ [], w.2) Q)) (Q (some (zI ((-2))), zH S I))) := (WpK_iff [8, 21, 32, 46, 53] 5 83 _ Q).symm
set_option maxRecDepth 100000 in
theorem sg_X5_drop_46_0 (S : PS) (I : Nat → Nat → Int) (w1 : PV) (Q : PV1 → Prop) : Wp 83 (46, [zA 0, w1], [], zH S I) Q ↔ (Wp 1 (0, [zA 19], [], zH S I) (fun w => Wp 83 (53, [zA 0, w1], w.1.toList ++ [], w.2) Q)) := (WpK_iff [8, 21, 32, 46, 53] 3 83 _ Q).symm
set_option maxRecDepth 100000 in
theorem sg_X5_drop_53 (S : PS) (I : Nat → Nat → Int) (w0 : PV) (w1 : PV) (Q : PV1 → Prop) : Wp 83 (53, [w0, w1], [], zH S I) Q ↔ (Q (some (zI 1), zH S I)) := (WpK_iff [8, 21, 32, 46, 53] 2 83 _ Q).symm
set_option maxRecDepth 100000 in
theorem sg_X5_act_0_0 (S : PS) (I : Nat → Nat → Int) (x1 : Int) (x2 : Int) (w3 : PV) (Q : PV1 → Prop) : Wp 84 (0, [zA 0, zI x1, zI x2, w3], [], zH S I) Q ↔ (Wp 23 (0, [zA 1, zI x1], [], zH S I) (fun w => Wp 84 (8, [zA 0, zI x1, zI x2, w3], w.1.toList ++ [], w.2) Q)) := (WpK_iff [8, 15, 28, 43, 53, 60] 4 84 _ Q).symm
set_option maxRecDepth 100000 in
theorem sg_X5_act_8_0 (S : PS) (I : Nat → Nat → Int) (x1 : Int) (x2 : Int) (w3 : PV) (y0 : Int) (Q : PV1 → Prop) : Wp 84 (8, [zA 0, zI x1, zI x2, w3], [zI y0], zH S I) Q ↔ (cond (decide (y0 = 0)) (Q (some (zI ((-1))), zH S I)) (Wp 105 (0, [zI x2], [], zH S I) (fun w => Wp 84 (15, [zA 0, zI x1, zI x2, w3], w.1.toList ++ [], w.2) Q))) := (WpK_iff [8, 15, 28, 43, 53, 60] 3 84 _ Q).symm
set_option maxRecDepth 100000 in
theorem sg_X5_act_15_0 (S : PS) (I : Nat → Nat → Int) (x1 : Int) (x2 : Int) (w3 : PV) (y0 : Int) (Q : PV1 → Prop) : Wp 84 (15, [zA 0, zI x1, zI x2, w3], [zI y0], zH S I) Q ↔ (cond (decide (y0 = 0)) (Q (some (zI ((-1))), zH S I)) (Wp 29 (0, [zA 1, zI x1], [], zH S I) (fun w => Wp 84 (28, [zA 0, zI x1, zI x2, w3], w.1.toList ++ [], w.2) Q))) := (WpK_iff [8, 15, 28, 43, 53, 60] 5 84 _ Q).symm
set_option maxRecDepth 100000 in
theorem sg_X5_act_28_0 (S : PS) (I : Nat → Nat → Int) (x1 : Int) (x2 : Int) (w3 : PV) (y0 : Int) (Q : PV1 → Prop) : Wp 84 (28, [zA 0, zI x1, zI x2, w3], [zI y0], zH S I) Q ↔ (cond (decide (y0 = 2)) (Q (some (zI ((-13))), zH S I)) (Wp 33 (0, [zA 1, zI x1], [], zH S I) (fun w => Wp 84 (43, [zA 0, zI x1, zI x2, w3], w.1.toList ++ [], w.2) Q))) := (WpK_iff [8, 15, 28, 43, 53, 60] 6 84 _ Q).symm
set_option maxRecDepth 100000 in
theorem sg_X5_act_43_0 (S : PS) (I : Nat → Nat → Int) (x1 : Int) (x2 : Int) (w3 : PV) (y0 : Int) (Q : PV1 → Prop) : Wp 84 (43, [zA 0, zI x1, zI x2, w3], [zI y0], zH S I) Q ↔ (Wp 28 (0, [zA 1, zI x1, zI x2], [], zH S I) (fun w => Wp 84 (53, [zA 0, zI x1, zI x2, zI y0], w.1.toList ++ [], w.2) Q)) := (WpK_iff [8, 15, 28, 43, 53, 60] 6 84 _ Q).symm
set_option maxRecDepth 100000 in
theorem sg_X5_act_53_0 (S : PS) (I : Nat → Nat → Int) (w1 : PV) (w2 : PV) (x3 : Int) (Q : PV1 → Prop) : Wp 84 (53, [zA 0, w1, w2, zI x3], [], zH S I) Q ↔ (Wp 1 (0, [zA 19], [], zH S I) (fun w => Wp 84 (60, [zA 0, w1, w2, zI x3], w.1.toList ++ [], w.2) Q)) := (WpK_iff [8, 15, 28, 43, 53, 60] 3 84 _ Q).symm
set_option maxRecDepth 100000 in
theorem sg_X5_act_60 (S : PS) (I : Nat → Nat → Int) (w0 : PV) (w1 : PV) (w2 : PV) (x3 : Int) (Q : PV1 → Prop) : Wp 84 (60, [w0, w1, w2, zI x3], [], zH S I) Q ↔ (Q (some (zI x3), zH S I)) := (WpK_iff [8, 15, 28, 43, 53, 60] 2 84 _ Q).symm
set_option maxRecDepth 100000 in
theorem sg_X5_overlap_0_0 (S : PS) (I : Nat → Nat → Int) (x1 : Int) (x2 : Int) (Q : PV1 → Prop) : Wp 85 (0, [zA 0, zI x1, zI x2], [], zH S I) Q ↔ (Wp 23 (0, [zA 1, zI x1], [], zH S I) (fun w => Wp 85 (8, [zA 0, zI x1, zI x2], w.1.toList ++ [], w.2) Q)) := (WpK_iff [8, 19, 33] 4 85 _ Q).symm
set_option maxRecDepth 100000 in
theorem sg_X5_overlap_8_0 (S : PS) (I : Nat → Nat → Int) (x1 : Int) (x2 : Int) (y0 : Int) (Q : PV1 → Prop) : Wp 85 (8, [zA 0, zI x1, zI x2], [zI y0], zH S I) Q ↔ (cond (decide (y0 = 0)) (Q (some (zI ((-1))), zH S I)) (Wp 23 (0, [zA 1, zI x2], [], zH S I) (fun w => Wp 85 (19, [zA 0, zI x1, zI x2], w.1.toList ++ [], w.2) Q))) := (WpK_iff [8, 19, 33] 5 85 _ Q).symm
set_option maxRecDepth 100000 in
theorem sg_X5_overlap_19_0 (S : PS) (I : Nat → Nat → Int) (x1 : Int) (x2 : Int) (y0 : Int) (Q : PV1 → Prop) : Wp 85 (19, [zA 0, zI x1, zI x2], [zI y0], zH S I) Q ↔ (cond (decide (y0 = 0)) (Q (some (zI ((-1))), zH S I)) (Wp 35 (0, [zA 1, zI x1, zI x2], [], zH S I) (fun w => Wp 85 (33, [zA 0, zI x1, zI x2], w.1.toList ++ [], w.2) Q))) := (WpK_iff [8, 19, 33] 6 85 _ Q).symm
set_option maxRecDepth 100000 in
theorem sg_X5_overlap_33 (S : PS) (I : Nat → Nat → Int) (w0 : PV) (w1 : PV) (w2 : PV) (y0 : Int) (Q : PV1 → Prop) : Wp 85 (33, [w0, w1, w2], [zI y0], zH S I) Q ↔ (cond (decide (y0 = 0)) (Q (some (zI 0), zH S I)) (Q (some (zI 1), zH S I))) := (WpK_iff [8, 19, 33] 4 85 _ Q).symm
set_option maxRecDepth 100000 in
theorem sg_X5_higher_0_0 (S : PS) (I : Nat → Nat → Int) (x1 : Int) (x2 : Int) (Q : PV1 → Prop) : Wp 86 (0, [zA 0, zI x1, zI x2], [], zH S I) Q ↔ (Wp 23 (0, [zA 1, zI x1], [], zH S I) (fun w => Wp 86 (8, [zA 0, zI x1, zI x2], w.1.toList ++ [], w.2) Q)) := (WpK_iff [8, 19, 40] 4 86 _ Q).symm
set_option maxRecDepth 100000 in
theorem sg_X5_higher_8_0 (S : PS) (I : Nat → Nat → Int) (x1 : Int) (x2 : Int) (y0 : Int) (Q : PV1 → Prop) : Wp 86 (8, [zA 0, zI x1, zI x2], [zI y0], zH S I) Q ↔ (cond (decide (y0 = 0)) (Q (some (zI ((-1))), zH S I)) (Wp 23 (0, [zA 1, zI x2], [], zH S I) (fun w => Wp 86 (19, [zA 0, zI x1, zI x2], w.1.toList ++ [], w.2) Q))) := (WpK_iff [8, 19, 40] 5 86 _ Q).symm
set_option maxRecDepth 100000 in
theorem sg_X5_higher_19_0 (S : PS) (I : Nat → Nat → Int) (x1 : Int) (x2 : Int) (y0 : Int) (Q : PV1 → Prop) : Wp 86 (19, [zA 0, zI x1, zI x2], [zI y0], zH S I) Q ↔ (cond (decide (y0 = 0)) (Q (some (zI ((-1))), zH S I)) (cond (decide (x1 = x2)) (Q (some (zI 0), zH S I)) (Wp 36 (0, [zA 1, zI x1, zI x2], [], zH S I) (fun w => Wp 86 (40, [zA 0, zI x1, zI x2], w.1.toList ++ [], w.2) Q)))) := (WpK_iff [8, 19, 40] 9 86 _ Q).symm
set_option maxRecDepth 100000 in
theorem sg_X5_higher_40 (S : PS) (I : Nat → Nat → Int) (w0 : PV) (w1 : PV) (w2 : PV) (y0 : Int) (Q : PV1 → Prop) : Wp 86 (40, [w0, w1, w2], [zI y0], zH S I) Q ↔ (cond (decide (y0 = 0)) (Q (some (zI 2), zH S I)) (Q (some (zI 1), zH S I))) := (WpK_iff [8, 19, 40] 4 86 _ Q).symm
set_option maxRecDepth 100000 in
theorem sg_X5_put_0_0 (S : PS) (I : Nat → Nat → Int) (x1 : Int) (x2 : Int) (w3 : PV) (w4 : PV) (Q : PV1 → Prop) : Wp 87 (0, [zA 0, zI x1, zI x2, w3, w4], [], zH S I) Q ↔ (Wp 106 (0, [zA 0, zI x1], [], zH S I) (fun w => Wp 87 (5, [zA 0, zI x1, zI x2, w3, w4], w.1.toList ++ [], w.2) Q)) := (WpK_iff [5, 12, 39, 43, 51, 58] 3 87 _ Q).symm
set_option maxRecDepth 100000 in
theorem sg_X5_put_5_0_n (S : PS) (I : Nat → Nat → Int) (w1 : PV) (x2 : Int) (w3 : PV) (w4 : PV) (Q : PV1 → Prop) : Wp 87 (5, [zA 0, w1, zI x2, w3, w4], [zR none], zH S I) Q ↔ (Wp 110 (0, [zA 0, zR none, zI x2], [], zH S I) (fun w => Wp 87 (12, [zA 0, w1, zI x2, zR none, w4], w.1.toList ++ [], w.2) Q)) := (WpK_iff [5, 12, 39, 43, 51, 58] 5 87 _ Q).symm
set_option maxRecDepth 100000 in
theorem sg_X5_put_12_0_n (S : PS) (I : Nat → Nat → Int) (w1 : PV) (x2 : Int) (w4 : PV) (y0 : Int) (Q : PV1 → Prop) : Wp 87 (12, [zA 0, w1, zI x2, zR none, w4], [zI y0], zH S I) Q ↔ (Q (some (zI y0), zH S I)) := (WpK_iff [5, 12, 39, 43, 51, 58] 5 87 _ Q).symm
set_option maxRecDepth 100000 in
theorem sg_X5_put_5_0_7 (S : PS) (I : Nat → Nat → Int) (w1 : PV) (x2 : Int) (w3 : PV) (w4 : PV) (Q : PV1 → Prop) : Wp 87 (5, [zA 0, w1, zI x2, w3, w4], [zA 7], zH S I) Q ↔ (Wp 110 (0, [zA 0, zA 7, zI x2], [], zH S I) (fun w => Wp 87 (12, [zA 0, w1, zI x2, zA 7, w4], w.1.toList ++ [], w.2) Q)) := (WpK_iff [5, 12, 39, 43, 51, 58] 5 87 _ Q).symm
set_option maxRecDepth 100000 in
theorem sg_X5_put_12_0_7 (S : PS) (I : Nat → Nat → Int) (w1 : PV) (x2 : Int) (w4 : PV) (y0 : Int) (Q : PV1 → Prop) : Wp 87 (12, [zA 0, w1, zI x2, zA 7, w4], [zI y0], zH S I) Q ↔ (cond (decide (y0 = 0)) (Wp 39 (0, [zA 11, zA 7, zI x2, zA 25, zU, zU], [], zH S I) (fun w => Wp 87 (39, [zA 0, w1, zI x2, zA 7, zI y0], w.1.toList ++ [], w.2) Q)) (Q (some (zI y0), zH S I))) := (WpK_iff [5, 12, 39, 43, 51, 58] 12 87 _ Q).symm
set_option maxRecDepth 100000 in
theorem sg_X5_put_39_0_7 (S : PS) (I : Nat → Nat → Int) (w1 : PV) (w2 : PV) (w4 : PV) (Q : PV1 → Prop) : Wp 87 (39, [zA 0, w1, w2, zA 7, w4], [], zH S I) Q ↔ (Wp 111 (0, [zA 0], [], zH S I) (fun w => Wp 87 (43, [zA 0, w1, w2, zA 7, w4], w.1.toList ++ [], w.2) Q)) := (WpK_iff [5, 12, 39, 43, 51, 58] 2 87 _ Q).symm
set_option maxRecDepth 100000 in
theorem sg_X5_put_43_0_7 (S : PS) (I : Nat → Nat → Int) (w1 : PV) (w2 : PV) (w4 : PV) (Q : PV1 → Prop) : Wp 87 (43, [zA 0, w1, w2, zA 7, w4], [], zH S I) Q ↔ (Wp 66 (0, [zA 7, zA 25, zU], [], zH S I) (fun w => Wp 87 (51, [zA 0, w1, w2, zA 7, w4], w.1.toList ++ [], w.2) Q)) := (WpK_iff [5, 12, 39, 43, 51, 58] 4 87 _ Q).symm
set_option maxRecDepth 100000 in
theorem sg_X5_put_51_0 (S : PS) (I : Nat → Nat → Int) (w1 : PV) (w2 : PV) (w3 : PV) (w4 : PV) (Q : PV1 → Prop) : Wp 87 (51, [zA 0, w1, w2, w3, w4], [], zH S I) Q ↔ (Wp 15 (0, [zA 25], [], zH S I) (fun w => Wp 87 (58, [zA 0, w1, w2, w3, w4], w.1.toList ++ [], w.2) Q)) := (WpK_iff [5, 12, 39, 43, 51, 58] 3 87 _ Q).symm
set_option maxRecDepth 100000 in
theorem sg_X5_put_58 (S : PS) (I : Nat → Nat → Int) (w0 : PV) (w1 : PV) (w2 : PV) (w3 : PV) (w4 : PV) (y0 : Int) (Q : PV1 → Prop) : Wp 87 (58, [w0, w1, w2, w3, w4], [zI y0], zH S I) Q ↔ (Q (some (zI y0), zH S I)) := (WpK_iff [5, 12, 39, 43, 51, 58] 1 87 _ Q).symm
set_option maxRecDepth 100000 in
theorem sg_X5_put_5_0_9 (S : PS) (I : Nat → Nat → Int) (w1 : PV) (x2 : Int) (w3 : PV) (w4 : PV) (Q : PV1 → Prop) : Wp 87 (5, [zA 0, w1, zI x2, w3, w4], [zA 9], zH S I) Q ↔ (Wp 110 (0, [zA 0, zA 9, zI x2], [], zH S I) (fun w => Wp 87 (12, [zA 0, w1, zI x2, zA 9, w4], w.1.toList ++ [], w.2) Q)) := (WpK_iff [5, 12, 39, 43, 51, 58] 5 87 _ Q).symm
set_option maxRecDepth 100000 in
theorem sg_X5_put_12_0_9 (S : PS) (I : Nat → Nat → Int) (w1 : PV) (x2 : Int) (w4 : PV) (y0 : Int) (Q : PV1 → Prop) : Wp 87 (12, [zA 0, w1, zI x2, zA 9, w4], [zI y0], zH S I) Q ↔ (cond (decide (y0 = 0)) (Wp 39 (0, [zA 11, zA 9, zI x2, zA 25, zU, zU], [], zH S I) (fun w => Wp 87 (39, [zA 0, w1, zI x2, zA 9, zI y0], w.1.toList ++ [], w.2) Q)) (Q (some (zI y0), zH S I))) := (WpK_iff [5, 12, 39, 43, 51, 58] 12 87 _ Q).symm
set_option maxRecDepth 100000 in
theorem sg_X5_put_39_0_9 (S : PS) (I : Nat → Nat → Int) (w1 : PV) (w2 : PV) (w4 : PV) (Q : PV1 → Prop) : Wp 87 (39, [zA 0, w1, w2, zA 9, w4], [], zH S I) Q ↔ (Wp 111 (0, [zA 0], [], zH S I) (fun w => Wp 87 (43, [zA 0, w1, w2, zA 9, w4], w.1.toList ++ [], w.2) Q)) := (WpK_iff [5, 12, 39, 43, 51, 58] 2 87 _ Q).symm
set_option maxRecDepth 100000 in
theorem sg_X5_put_43_0_9 (S : PS) (I : Nat → Nat → Int) (w1 : PV) (w2 : PV) (w4 : PV) (Q : PV1 → Prop) : Wp 87 (43, [zA 0, w1, w2, zA 9, w4], [], zH S I) Q ↔ (Wp 66 (0, [zA 9, zA 25, zU], [], zH S I) (fun w => Wp 87 (51, [zA 0, w1, w2, zA 9, w4], w.1.toList ++ [], w.2) Q)) := (WpK_iff [5, 12, 39, 43, 51, 58] 4 87 _ Q).symm
set_option maxRecDepth 100000 in
theorem sg_X5_writes_0_0 (S : PS) (I : Nat → Nat → Int) (x1 : Int) (x2 : Int) (w3 : PV) (w4 : PV) (Q : PV1 → Prop) : Wp 88 (0, [zA 0, zI x1, zI x2, w3, w4], [], zH S I) Q ↔ (Wp 106 (0, [zA 0, zI x1], [], zH S I) (fun w => Wp 88 (5, [zA 0, zI x1, zI x2, w3, w4], w.1.toList ++ [], w.2) Q)) := (WpK_iff [5, 12, 39, 46] 3 88 _ Q).symm
set_option maxRecDepth 100000 in
theorem sg_X5_writes_5_0_n (S : PS) (I : Nat → Nat → Int) (w1 : PV) (x2 : Int) (w3 : PV) (w4 : PV) (Q : PV1 → Prop) : Wp 88 (5, [zA 0, w1, zI x2, w3, w4], [zR none], zH S I) Q ↔ (Wp 110 (0, [zA 0, zR none, zI x2], [], zH S I) (fun w => Wp 88 (12, [zA 0, w1, zI x2, zR none, w4], w.1.toList ++ [], w.2) Q)) := (WpK_iff [5, 12, 39, 46] 5 88 _ Q).symm
set_option maxRecDepth 100000 in
theorem sg_X5_writes_12_0_n (S : PS) (I : Nat → Nat → Int) (w1 : PV) (x2 : Int) (w4 : PV) (y0 : Int) (Q : PV1 → Prop) : Wp 88 (12, [zA 0, w1, zI x2, zR none, w4], [zI y0], zH S I) Q ↔ (Q (some (zI y0), zH S I)) := (WpK_iff [5, 12, 39, 46] 5 88 _ Q).symm
set_option maxRecDepth 100000 in
theorem sg_X5_writes_5_0_7 (S : PS) (I : Nat → Nat → Int) (w1 : PV) (x2 : Int) (w3 : PV) (w4 : PV) (Q : PV1 → Prop) : Wp 88 (5, [zA 0, w1, zI x2, w3, w4], [zA 7], zH S I) Q ↔ (Wp 110 (0, [zA 0, zA 7, zI x2], [], zH S I) (fun w => Wp 88 (12, [zA 0, w1, zI x2, zA 7, w4], w.1.toList ++ [], w.2) Q)) := (WpK_iff [5, 12, 39, 46] 5 88 _ Q).symm
set_option maxRecDepth 100000 in
theorem sg_X5_writes_12_0_7 (S : PS) (I : Nat → Nat → Int) (w1 : PV) (x2 : Int) (w4 : PV) (y0 : Int) (Q : PV1 → Prop) : Wp 88 (12, [zA 0, w1, zI x2, zA 7, w4], [zI y0], zH S I) Q ↔ (cond (decide (y0 = 0)) (Wp 39 (0, [zA 11, zA 7, zI x2, zA 28, zU, zU], [], zH S I) (fun w => Wp 88 (39, [zA 0, w1, zI x2, zA 7, zI y0], w.1.toList ++ [], w.2) Q)) (Q (some (zI y0), zH S I))) := (WpK_iff [5, 12, 39, 46] 12 88 _ Q).symm
set_option maxRecDepth 100000 in
theorem sg_X5_writes_39_0 (S : PS) (I : Nat → Nat → Int) (w1 : PV) (w2 : PV) (w3 : PV) (w4 : PV) (Q : PV1 → Prop) : Wp 88 (39, [zA 0, w1, w2, w3, w4], [], zH S I) Q ↔ (Wp 15 (0, [zA 28], [], zH S I) (fun w => Wp 88 (46, [zA 0, w1, w2, w3, w4], w.1.toList ++ [], w.2) Q)) := (WpK_iff [5, 12, 39, 46] 3 88 _ Q).symm
set_option maxRecDepth 100000 in
theorem sg_X5_writes_46 (S : PS) (I : Nat → Nat → Int) (w0 : PV) (w1 : PV) (w2 : PV) (w3 : PV) (w4 : PV) (y0 : Int) (Q : PV1 → Prop) : Wp 88 (46, [w0, w1, w2, w3, w4], [zI y0], zH S I) Q ↔ (Q (some (zI y0), zH S I)) := (WpK_iff [5, 12, 39, 46] 1 88 _ Q).symm
set_option maxRecDepth 100000 in
theorem sg_X5_writes_5_0_9 (S : PS) (I : Nat → Nat → Int) (w1 : PV) (x2 : Int) (w3 : PV) (w4 : PV) (Q : PV1 → Prop) : Wp 88 (5, [zA 0, w1, zI x2, w3, w4], [zA 9], zH S I) Q ↔ (Wp 110 (0, [zA 0, zA 9, zI x2], [], zH S I) (fun w => Wp 88 (12, [zA 0, w1, zI x2, zA 9, w4], w.1.toList ++ [], w.2) Q)) := (WpK_iff [5, 12, 39, 46] 5 88 _ Q).symm
set_option maxRecDepth 100000 in
theorem sg_X5_writes_12_0_9 (S : PS) (I : Nat → Nat → Int) (w1 : PV) (x2 : Int) (w4 : PV) (y0 : Int) (Q : PV1 → Prop) : Wp 88 (12, [zA 0, w1, zI x2, zA 9, w4], [zI y0], zH S I) Q ↔ (cond (decide (y0 = 0)) (Wp 39 (0, [zA 11, zA 9, zI x2, zA 28, zU, zU], [], zH S I) (fun w => Wp 88 (39, [zA 0, w1, zI x2, zA 9, zI y0], w.1.toList ++ [], w.2) Q)) (Q (some (zI y0), zH S I))) := (WpK_iff [5, 12, 39, 46] 12 88 _ Q).symm
set_option maxRecDepth 100000 in
theorem sg_X5_write_0_0 (S : PS) (I : Nat → Nat → Int) (x1 : Int) (x2 : Int) (Q : PV1 → Prop) : Wp 89 (0, [zA 0, zI x1, zI x2], [], zH S I) Q ↔ (cond (decide (x1 = (-1))) (Wp 15 (0, [zA 25], [], zH S I) (fun w => Wp 89 (12, [zA 0, zI x1, zI x2], w.1.toList ++ [], w.2) Q)) (cond (decide (x1 < 0)) (Q (some (zI ((-1))), zH S I)) (Wp 15 (0, [zA 25], [], zH S I) (fun w => Wp 89 (25, [zA 0, zI x1, zI x2], w.1.toList ++ [zI x1], w.2) Q)))) := (WpK_iff [12, 25, 51, 62] 9 89 _ Q).symm
set_option maxRecDepth 100000 in
theorem sg_X5_write_12 (S : PS) (I : Nat → Nat → Int) (w0 : PV) (w1 : PV) (w2 : PV) (y0 : Int) (Q : PV1 → Prop) : Wp 89 (12, [w0, w1, w2], [zI y0], zH S I) Q ↔ (Q (some (zI y0), zH S I)) := (WpK_iff [12, 25, 51, 62] 1 89 _ Q).symm
set_option maxRecDepth 100000 in
theorem sg_X5_write_25_0 (S : PS) (I : Nat → Nat → Int) (x1 : Int) (x2 : Int) (y0 : Int) (y1 : Int) (Q : PV1 → Prop) : Wp 89 (25, [zA 0, zI x1, zI x2], [zI y1, zI y0], zH S I) Q ↔ (cond (decide (y0 < y1)) (cond (decide (x2 < 0)) (Q (some (zI ((-1))), zH S I)) (cond (decide (1 < x2)) (Q (some (zI ((-1))), zH S I)) (cond (decide (x2 = 0)) (Wp 17 (0, [zA 25, zI x1], [], zH S I) (fun w => Wp 89 (51, [zA 0, zI x1, zI x2], w.1.toList ++ [], w.2) Q)) (Wp 18 (0, [zA 25, zI x1], [], zH S I) (fun w => Wp 89 (62, [zA 0, zI x1, zI x2], w.1.toList ++ [], w.2) Q))))) (Q (some (zI ((-1))), zH S I))) := (WpK_iff [12, 25, 51, 62] 12 89 _ Q).symm
set_option maxRecDepth 100000 in
theorem sg_X5_write_51 (S : PS) (I : Nat → Nat → Int) (w0 : PV) (w1 : PV) (w2 : PV) (y0 : Int) (Q : PV1 → Prop) : Wp 89 (51, [w0, w1, w2], [zI y0], zH S I) Q ↔ (Wp 89 (62, [w0, w1, w2], [zI y0], zH S I) Q) := (WpK_iff [12, 25, 51, 62] 1 89 _ Q).symm
set_option maxRecDepth 100000 in
theorem sg_X5_write_62 (S : PS) (I : Nat → Nat → Int) (w0 : PV) (w1 : PV) (w2 : PV) (y0 : Int) (Q : PV1 → Prop) : Wp 89 (62, [w0, w1, w2], [zI y0], zH S I) Q ↔ (Q (some (zI y0), zH S I)) := (WpK_iff [12, 25, 51, 62] 1 89 _ Q).symm
set_option maxRecDepth 100000 in
theorem sg_X5_strike_0_0 (S : PS) (I : Nat → Nat → Int) (x1 : Int) (x2 : Int) (w3 : PV) (w4 : PV) (Q : PV1 → Prop) : Wp 90 (0, [zA 0, zI x1, zI x2, w3, w4], [], zH S I) Q ↔ (Wp 106 (0, [zA 0, zI x1], [], zH S I) (fun w => Wp 90 (5, [zA 0, zI x1, zI x2, w3, w4], w.1.toList ++ [], w.2) Q)) := (WpK_iff [5, 18, 28, 43, 49, 56] 3 90 _ Q).symm
set_option maxRecDepth 100000 in
theorem sg_X5_strike_5_0_n (S : PS) (I : Nat → Nat → Int) (w1 : PV) (x2 : Int) (w3 : PV) (w4 : PV) (Q : PV1 → Prop) : Wp 90 (5, [zA 0, w1, zI x2, w3, w4], [zR none], zH S I) Q ↔ (Q (some (zI ((-1))), zH S I)) := (WpK_iff [5, 18, 28, 43, 49, 56] 5 90 _ Q).symm
set_option maxRecDepth 100000 in
theorem sg_X5_strike_5_0_7 (S : PS) (I : Nat → Nat → Int) (w1 : PV) (x2 : Int) (w3 : PV) (w4 : PV) (Q : PV1 → Prop) : Wp 90 (5, [zA 0, w1, zI x2, w3, w4], [zA 7], zH S I) Q ↔ (Wp 23 (0, [zA 1, zI x2], [], zH S I) (fun w => Wp 90 (18, [zA 0, w1, zI x2, zA 7, w4], w.1.toList ++ [], w.2) Q)) := (WpK_iff [5, 18, 28, 43, 49, 56] 7 90 _ Q).symm
set_option maxRecDepth 100000 in
theorem sg_X5_strike_18_0_7 (S : PS) (I : Nat → Nat → Int) (w1 : PV) (x2 : Int) (w4 : PV) (y0 : Int) (Q : PV1 → Prop) : Wp 90 (18, [zA 0, w1, zI x2, zA 7, w4], [zI y0], zH S I) Q ↔ (cond (decide (y0 = 0)) (Q (some (zI ((-1))), zH S I)) (Wp 60 (0, [zA 7, zI x2, zU], [], zH S I) (fun w => Wp 90 (28, [zA 0, w1, zI x2, zA 7, w4], w.1.toList ++ [], w.2) Q))) := (WpK_iff [5, 18, 28, 43, 49, 56] 4 90 _ Q).symm
set_option maxRecDepth 100000 in
theorem sg_X5_strike_28_0_7 (S : PS) (I : Nat → Nat → Int) (w1 : PV) (w2 : PV) (w4 : PV) (y0 : Int) (Q : PV1 → Prop) : Wp 90 (28, [zA 0, w1, w2, zA 7, w4], [zI y0], zH S I) Q ↔ (cond (decide (y0 = (-1))) (Q (some (zI ((-2))), zH S I)) (Wp 111 (0, [zA 0], [], zH S I) (fun w => Wp 90 (43, [zA 0, w1, w2, zA 7, zI y0], w.1.toList ++ [], w.2) Q))) := (WpK_iff [5, 18, 28, 43, 49, 56] 6 90 _ Q).symm
set_option maxRecDepth 100000 in
theorem sg_X5_strike_43_0_7 (S : PS) (I : Nat → Nat → Int) (w1 : PV) (w2 : PV) (x4 : Int) (Q : PV1 → Prop) : Wp 90 (43, [zA 0, w1, w2, zA 7, zI x4], [], zH S I) Q ↔ (Wp 64 (0, [zA 7, zI x4], [], zH S I) (fun w => Wp 90 (49, [zA 0, w1, w2, zA 7, zI x4], w.1.toList ++ [], w.2) Q)) := (WpK_iff [5, 18, 28, 43, 49, 56] 3 90 _ Q).symm
set_option maxRecDepth 100000 in
theorem sg_X5_strike_49_0 (S : PS) (I : Nat → Nat → Int) (w1 : PV) (w2 : PV) (w3 : PV) (x4 : Int) (Q : PV1 → Prop) : Wp 90 (49, [zA 0, w1, w2, w3, zI x4], [], zH S I) Q ↔ (Wp 13 (0, [zA 25], [], zH S I) (fun w => Wp 90 (56, [zA 0, w1, w2, w3, zI x4], w.1.toList ++ [], w.2) Q)) := (WpK_iff [5, 18, 28, 43, 49, 56] 3 90 _ Q).symm
set_option maxRecDepth 100000 in
theorem sg_X5_strike_56 (S : PS) (I : Nat → Nat → Int) (w0 : PV) (w1 : PV) (w2 : PV) (w3 : PV) (x4 : Int) (Q : PV1 → Prop) : Wp 90 (56, [w0, w1, w2, w3, zI x4], [], zH S I) Q ↔ (Q (some (zI x4), zH S I)) := (WpK_iff [5, 18, 28, 43, 49, 56] 2 90 _ Q).symm
set_option maxRecDepth 100000 in
theorem sg_X5_strike_5_0_9 (S : PS) (I : Nat → Nat → Int) (w1 : PV) (x2 : Int) (w3 : PV) (w4 : PV) (Q : PV1 → Prop) : Wp 90 (5, [zA 0, w1, zI x2, w3, w4], [zA 9], zH S I) Q ↔ (Wp 23 (0, [zA 1, zI x2], [], zH S I) (fun w => Wp 90 (18, [zA 0, w1, zI x2, zA 9, w4], w.1.toList ++ [], w.2) Q)) := (WpK_iff [5, 18, 28, 43, 49, 56] 7 90 _ Q).symm
set_option maxRecDepth 100000 in
theorem sg_X5_strike_18_0_9 (S : PS) (I : Nat → Nat → Int) (w1 : PV) (x2 : Int) (w4 : PV) (y0 : Int) (Q : PV1 → Prop) : Wp 90 (18, [zA 0, w1, zI x2, zA 9, w4], [zI y0], zH S I) Q ↔ (cond (decide (y0 = 0)) (Q (some (zI ((-1))), zH S I)) (Wp 60 (0, [zA 9, zI x2, zU], [], zH S I) (fun w => Wp 90 (28, [zA 0, w1, zI x2, zA 9, w4], w.1.toList ++ [], w.2) Q))) := (WpK_iff [5, 18, 28, 43, 49, 56] 4 90 _ Q).symm
set_option maxRecDepth 100000 in
theorem sg_X5_strike_28_0_9 (S : PS) (I : Nat → Nat → Int) (w1 : PV) (w2 : PV) (w4 : PV) (y0 : Int) (Q : PV1 → Prop) : Wp 90 (28, [zA 0, w1, w2, zA 9, w4], [zI y0], zH S I) Q ↔ (cond (decide (y0 = (-1))) (Q (some (zI ((-2))), zH S I)) (Wp 111 (0, [zA 0], [], zH S I) (fun w => Wp 90 (43, [zA 0, w1, w2, zA 9, zI y0], w.1.toList ++ [], w.2) Q))) := (WpK_iff [5, 18, 28, 43, 49, 56] 6 90 _ Q).symm
set_option maxRecDepth 100000 in
theorem sg_X5_strike_43_0_9 (S : PS) (I : Nat → Nat → Int) (w1 : PV) (w2 : PV) (x4 : Int) (Q : PV1 → Prop) : Wp 90 (43, [zA 0, w1, w2, zA 9, zI x4], [], zH S I) Q ↔ (Wp 64 (0, [zA 9, zI x4], [], zH S I) (fun w => Wp 90 (49, [zA 0, w1, w2, zA 9, zI x4], w.1.toList ++ [], w.2) Q)) := (WpK_iff [5, 18, 28, 43, 49, 56] 3 90 _ Q).symm
set_option maxRecDepth 100000 in
theorem sg_X5_at_0_0 (S : PS) (I : Nat → Nat → Int) (x1 : Int) (x2 : Int) (w3 : PV) (w4 : PV) (Q : PV1 → Prop) : Wp 91 (0, [zA 0, zI x1, zI x2, w3, w4], [], zH S I) Q ↔ (Wp 106 (0, [zA 0, zI x1], [], zH S I) (fun w => Wp 91 (5, [zA 0, zI x1, zI x2, w3, w4], w.1.toList ++ [], w.2) Q)) := (WpK_iff [5, 19, 29] 3 91 _ Q).symm
set_option maxRecDepth 100000 in
theorem sg_X5_at_5_n (S : PS) (I : Nat → Nat → Int) (w0 : PV) (w1 : PV) (x2 : Int) (w3 : PV) (w4 : PV) (Q : PV1 → Prop) : Wp 91 (5, [w0, w1, zI x2, w3, w4], [zR none], zH S I) Q ↔ (Q (some (zI ((-1))), zH S I)) := (WpK_iff [5, 19, 29] 5 91 _ Q).symm
set_option maxRecDepth 100000 in
theorem sg_X5_at_5_7 (S : PS) (I : Nat → Nat → Int) (w0 : PV) (w1 : PV) (x2 : Int) (w3 : PV) (w4 : PV) (Q : PV1 → Prop) : Wp 91 (5, [w0, w1, zI x2, w3, w4], [zA 7], zH S I) Q ↔ (cond (decide (x2 < 0)) (Q (some (zI ((-1))), zH S I)) (Wp 57 (0, [zA 7], [], zH S I) (fun w => Wp 91 (19, [w0, w1, zI x2, zA 7, w4], w.1.toList ++ [zI x2], w.2) Q))) := (WpK_iff [5, 19, 29] 8 91 _ Q).symm
set_option maxRecDepth 100000 in
theorem sg_X5_at_19_7 (S : PS) (I : Nat → Nat → Int) (w0 : PV) (w1 : PV) (x2 : Int) (w4 : PV) (y0 : Int) (y1 : Int) (Q : PV1 → Prop) : Wp 91 (19, [w0, w1, zI x2, zA 7, w4], [zI y1, zI y0], zH S I) Q ↔ (cond (decide (y0 < y1)) (Wp 59 (0, [zA 7, zI x2], [], zH S I) (fun w => Wp 91 (29, [w0, w1, zI x2, zA 7, w4], w.1.toList ++ [], w.2) Q)) (Q (some (zI ((-1))), zH S I))) := (WpK_iff [5, 19, 29] 4 91 _ Q).symm
set_option maxRecDepth 100000 in
theorem sg_X5_at_29 (S : PS) (I : Nat → Nat → Int) (w0 : PV) (w1 : PV) (w2 : PV) (w3 : PV) (w4 : PV) (y0 : Int) (Q : PV1 → Prop) : Wp 91 (29, [w0, w1, w2, w3, w4], [zI y0], zH S I) Q ↔ (cond (decide (y0 = (-1))) (Q (some (zI ((-2))), zH S I)) (Q (some (zI y0), zH S I))) := (WpK_iff [5, 19, 29] 7 91 _ Q).symm
set_option maxRecDepth 100000 in
theorem sg_X5_at_5_9 (S : PS) (I : Nat → Nat → Int) (w0 : PV) (w1 : PV) (x2 : Int) (w3 : PV) (w4 : PV) (Q : PV1 → Prop) : Wp 91 (5, [w0, w1, zI x2, w3, w4], [zA 9], zH S I) Q ↔ (cond (decide (x2 < 0)) (Q (some (zI ((-1))), zH S I)) (Wp 57 (0, [zA 9], [], zH S I) (fun w => Wp 91 (19, [w0, w1, zI x2, zA 9, w4], w.1.toList ++ [zI x2], w.2) Q))) := (WpK_iff [5, 19, 29] 8 91 _ Q).symm
set_option maxRecDepth 100000 in
theorem sg_X5_at_19_9 (S : PS) (I : Nat → Nat → Int) (w0 : PV) (w1 : PV) (x2 : Int) (w4 : PV) (y0 : Int) (y1 : Int) (Q : PV1 → Prop) : Wp 91 (19, [w0, w1, zI x2, zA 9, w4], [zI y1, zI y0], zH S I) Q ↔ (cond (decide (y0 < y1)) (Wp 59 (0, [zA 9, zI x2], [], zH S I) (fun w => Wp 91 (29, [w0, w1, zI x2, zA 9, w4], w.1.toList ++ [], w.2) Q)) (Q (some (zI ((-1))), zH S I))) := (WpK_iff [5, 19, 29] 4 91 _ Q).symm
set_option maxRecDepth 100000 in
theorem sg_X5_judged_0_0 (S : PS) (I : Nat → Nat → Int) (x1 : Int) (x2 : Int) (w3 : PV) (Q : PV1 → Prop) : Wp 92 (0, [zA 0, zI x1, zI x2, w3], [], zH S I) Q ↔ (cond (decide (x1 = 2)) (Wp 106 (0, [zA 0, zI (I 0 8)], [], zH S I) (fun w => Wp 92 (17, [zA 0, zI x1, zI x2, w3], w.1.toList ++ [], w.2) Q)) (Wp 106 (0, [zA 0, zI x1], [], zH S I) (fun w => Wp 92 (17, [zA 0, zI x1, zI x2, w3], w.1.toList ++ [], w.2) Q))) := (WpK_iff [17, 26, 37] 8 92 _ Q).symm
set_option maxRecDepth 100000 in
theorem sg_X5_judged_17_n (S : PS) (I : Nat → Nat → Int) (w0 : PV) (w1 : PV) (x2 : Int) (w3 : PV) (Q : PV1 → Prop) : Wp 92 (17, [w0, w1, zI x2, w3], [zR none], zH S I) Q ↔ (Q (some (zI ((-101))), zH S I)) := (WpK_iff [17, 26, 37] 5 92 _ Q).symm
set_option maxRecDepth 100000 in
theorem sg_X5_judged_17_7 (S : PS) (I : Nat → Nat → Int) (w0 : PV) (w1 : PV) (x2 : Int) (w3 : PV) (Q : PV1 → Prop) : Wp 92 (17, [w0, w1, zI x2, w3], [zA 7], zH S I) Q ↔ (Wp 103 (0, [zI x2], [], zH S I) (fun w => Wp 92 (26, [w0, w1, zI x2, zA 7], w.1.toList ++ [], w.2) Q)) := (WpK_iff [17, 26, 37] 5 92 _ Q).symm
set_option maxRecDepth 100000 in
theorem sg_X5_judged_26_7 (S : PS) (I : Nat → Nat → Int) (w0 : PV) (w1 : PV) (x2 : Int) (y0 : Int) (Q : PV1 → Prop) : Wp 92 (26, [w0, w1, zI x2, zA 7], [zI y0], zH S I) Q ↔ (cond (decide (y0 = 0)) (Q (some (zI ((-101))), zH S I)) (Wp 67 (0, [zA 7, zI x2, zU], [], zH S I) (fun w => Wp 92 (37, [w0, w1, zI x2, zA 7], w.1.toList ++ [], w.2) Q))) := (WpK_iff [17, 26, 37] 4 92 _ Q).symm
set_option maxRecDepth 100000 in
theorem sg_X5_judged_37 (S : PS) (I : Nat → Nat → Int) (w0 : PV) (w1 : PV) (w2 : PV) (w3 : PV) (y0 : Int) (Q : PV1 → Prop) : Wp 92 (37, [w0, w1, w2, w3], [zI y0], zH S I) Q ↔ (Q (some (zI y0), zH S I)) := (WpK_iff [17, 26, 37] 1 92 _ Q).symm
set_option maxRecDepth 100000 in
theorem sg_X5_judged_17_9 (S : PS) (I : Nat → Nat → Int) (w0 : PV) (w1 : PV) (x2 : Int) (w3 : PV) (Q : PV1 → Prop) : Wp 92 (17, [w0, w1, zI x2, w3], [zA 9], zH S I) Q ↔ (Wp 103 (0, [zI x2], [], zH S I) (fun w => Wp 92 (26, [w0, w1, zI x2, zA 9], w.1.toList ++ [], w.2) Q)) := (WpK_iff [17, 26, 37] 5 92 _ Q).symm
set_option maxRecDepth 100000 in
theorem sg_X5_judged_26_9 (S : PS) (I : Nat → Nat → Int) (w0 : PV) (w1 : PV) (x2 : Int) (y0 : Int) (Q : PV1 → Prop) : Wp 92 (26, [w0, w1, zI x2, zA 9], [zI y0], zH S I) Q ↔ (cond (decide (y0 = 0)) (Q (some (zI ((-101))), zH S I)) (Wp 67 (0, [zA 9, zI x2, zU], [], zH S I) (fun w => Wp 92 (37, [w0, w1, zI x2, zA 9], w.1.toList ++ [], w.2) Q))) := (WpK_iff [17, 26, 37] 4 92 _ Q).symm
set_option maxRecDepth 100000 in
theorem sg_X5_right_0_0 (S : PS) (I : Nat → Nat → Int) (x1 : Int) (w2 : PV) (w3 : PV) (w4 : PV) (Q : PV1 → Prop) : Wp 93 (0, [zA 0, zI x1, w2, w3, w4], [], zH S I) Q ↔ (Wp 106 (0, [zA 0, zI x1], [], zH S I) (fun w => Wp 93 (5, [zA 0, zI x1, w2, w3, w4], w.1.toList ++ [], w.2) Q)) := (WpK_iff [5, 17, 30, 36] 3 93 _ Q).symm
set_option maxRecDepth 100000 in
theorem sg_X5_right_5_n (S : PS) (I : Nat → Nat → Int) (w0 : PV) (w1 : PV) (w2 : PV) (w3 : PV) (w4 : PV) (Q : PV1 → Prop) : Wp 93 (5, [w0, w1, w2, w3, w4], [zR none], zH S I) Q ↔ (Q (some (zI ((-1))), zH S I)) := (WpK_iff [5, 17, 30, 36] 5 93 _ Q).symm
set_option maxRecDepth 100000 in
theorem sg_X5_right_5_7 (S : PS) (I : Nat → Nat → Int) (w0 : PV) (w1 : PV) (w2 : PV) (w3 : PV) (w4 : PV) (Q : PV1 → Prop) : Wp 93 (5, [w0, w1, w2, w3, w4], [zA 7], zH S I) Q ↔ (Wp 93 (17, [w0, w1, zA 7, zI 0, zI 0], [], zH S I) Q) := (WpK_iff [5, 17, 30, 36] 7 93 _ Q).symm
set_option maxRecDepth 100000 in
theorem sg_X5_right_17_7 (S : PS) (I : Nat → Nat → Int) (w0 : PV) (w1 : PV) (x3 : Int) (x4 : Int) (Q : PV1 → Prop) : Wp 93 (17, [w0, w1, zA 7, zI x3, zI x4], [], zH S I) Q ↔ (cond (decide (x4 < 32)) (Wp 67 (0, [zA 7, zI x4, zU], [], zH S I) (fun w => Wp 93 (30, [w0, w1, zA 7, zI x3, zI x4], w.1.toList ++ [], w.2) Q)) (Q (some (zI x3), zH S I))) := (WpK_iff [5, 17, 30, 36] 6 93 _ Q).symm
set_option maxRecDepth 100000 in
theorem sg_X5_right_30_7 (S : PS) (I : Nat → Nat → Int) (w0 : PV) (w1 : PV) (x3 : Int) (x4 : Int) (y0 : Int) (Q : PV1 → Prop) : Wp 93 (30, [w0, w1, zA 7, zI x3, zI x4], [zI y0], zH S I) Q ↔ (Wp 68 (0, [zA 7, zI x4, zU, zU, zU], [], zH S I) (fun w => Wp 93 (36, [w0, w1, zA 7, zI x3, zI x4], w.1.toList ++ [zI y0], w.2) Q)) := (WpK_iff [5, 17, 30, 36] 3 93 _ Q).symm
set_option maxRecDepth 100000 in
theorem sg_X5_right_36_7 (S : PS) (I : Nat → Nat → Int) (w0 : PV) (w1 : PV) (x3 : Int) (x4 : Int) (y0 : Int) (y1 : Int) (Q : PV1 → Prop) : Wp 93 (36, [w0, w1, zA 7, zI x3, zI x4], [zI y1, zI y0], zH S I) Q ↔ (cond (decide (y0 = y1)) (Wp 93 (17, [w0, w1, zA 7, zI (zad x3 1), zI (zad x4 1)], [], zH S I) Q) (Wp 93 (17, [w0, w1, zA 7, zI x3, zI (zad x4 1)], [], zH S I) Q)) := (WpK_iff [5, 17, 30, 36] 4 93 _ Q).symm
set_option maxRecDepth 100000 in
theorem sg_X5_right_5_9 (S : PS) (I : Nat → Nat → Int) (w0 : PV) (w1 : PV) (w2 : PV) (w3 : PV) (w4 : PV) (Q : PV1 → Prop) : Wp 93 (5, [w0, w1, w2, w3, w4], [zA 9], zH S I) Q ↔ (Wp 93 (17, [w0, w1, zA 9, zI 0, zI 0], [], zH S I) Q) := (WpK_iff [5, 17, 30, 36] 7 93 _ Q).symm
set_option maxRecDepth 100000 in
theorem sg_X5_right_17_9 (S : PS) (I : Nat → Nat → Int) (w0 : PV) (w1 : PV) (x3 : Int) (x4 : Int) (Q : PV1 → Prop) : Wp 93 (17, [w0, w1, zA 9, zI x3, zI x4], [], zH S I) Q ↔ (cond (decide (x4 < 32)) (Wp 67 (0, [zA 9, zI x4, zU], [], zH S I) (fun w => Wp 93 (30, [w0, w1, zA 9, zI x3, zI x4], w.1.toList ++ [], w.2) Q)) (Q (some (zI x3), zH S I))) := (WpK_iff [5, 17, 30, 36] 6 93 _ Q).symm
set_option maxRecDepth 100000 in
theorem sg_X5_right_30_9 (S : PS) (I : Nat → Nat → Int) (w0 : PV) (w1 : PV) (x3 : Int) (x4 : Int) (y0 : Int) (Q : PV1 → Prop) : Wp 93 (30, [w0, w1, zA 9, zI x3, zI x4], [zI y0], zH S I) Q ↔ (Wp 68 (0, [zA 9, zI x4, zU, zU, zU], [], zH S I) (fun w => Wp 93 (36, [w0, w1, zA 9, zI x3, zI x4], w.1.toList ++ [zI y0], w.2) Q)) := (WpK_iff [5, 17, 30, 36] 3 93 _ Q).symm
set_option maxRecDepth 100000 in
theorem sg_X5_right_36_9 (S : PS) (I : Nat → Nat → Int) (w0 : PV) (w1 : PV) (x3 : Int) (x4 : Int) (y0 : Int) (y1 : Int) (Q : PV1 → Prop) : Wp 93 (36, [w0, w1, zA 9, zI x3, zI x4], [zI y1, zI y0], zH S I) Q ↔ (cond (decide (y0 = y1)) (Wp 93 (17, [w0, w1, zA 9, zI (zad x3 1), zI (zad x4 1)], [], zH S I) Q) (Wp 93 (17, [w0, w1, zA 9, zI x3, zI (zad x4 1)], [], zH S I) Q)) := (WpK_iff [5, 17, 30, 36] 4 93 _ Q).symm
set_option maxRecDepth 100000 in
theorem sg_X5_covered_0_0 (S : PS) (I : Nat → Nat → Int) (x1 : Int) (x2 : Int) (w3 : PV) (Q : PV1 → Prop) : Wp 94 (0, [zA 0, zI x1, zI x2, w3], [], zH S I) Q ↔ (Wp 106 (0, [zA 0, zI x1], [], zH S I) (fun w => Wp 94 (5, [zA 0, zI x1, zI x2, w3], w.1.toList ++ [], w.2) Q)) := (WpK_iff [5, 18, 28, 39] 3 94 _ Q).symm
set_option maxRecDepth 100000 in
theorem sg_X5_covered_5_0_n (S : PS) (I : Nat → Nat → Int) (w1 : PV) (x2 : Int) (w3 : PV) (Q : PV1 → Prop) : Wp 94 (5, [zA 0, w1, zI x2, w3], [zR none], zH S I) Q ↔ (Q (some (zI ((-1))), zH S I)) := (WpK_iff [5, 18, 28, 39] 5 94 _ Q).symm
set_option maxRecDepth 100000 in
theorem sg_X5_covered_5_0_7 (S : PS) (I : Nat → Nat → Int) (w1 : PV) (x2 : Int) (w3 : PV) (Q : PV1 → Prop) : Wp 94 (5, [zA 0, w1, zI x2, w3], [zA 7], zH S I) Q ↔ (Wp 23 (0, [zA 1, zI x2], [], zH S I) (fun w => Wp 94 (18, [zA 0, w1, zI x2, zA 7], w.1.toList ++ [], w.2) Q)) := (WpK_iff [5, 18, 28, 39] 7 94 _ Q).symm
set_option maxRecDepth 100000 in
theorem sg_X5_covered_18_7 (S : PS) (I : Nat → Nat → Int) (w0 : PV) (w1 : PV) (x2 : Int) (y0 : Int) (Q : PV1 → Prop) : Wp 94 (18, [w0, w1, zI x2, zA 7], [zI y0], zH S I) Q ↔ (cond (decide (y0 = 0)) (Q (some (zI ((-1))), zH S I)) (Wp 61 (0, [zA 7, zI x2], [], zH S I) (fun w => Wp 94 (28, [w0, w1, zI x2, zA 7], w.1.toList ++ [], w.2) Q))) := (WpK_iff [5, 18, 28, 39] 4 94 _ Q).symm
set_option maxRecDepth 100000 in
theorem sg_X5_covered_28_7 (S : PS) (I : Nat → Nat → Int) (w0 : PV) (w1 : PV) (x2 : Int) (y0 : Int) (Q : PV1 → Prop) : Wp 94 (28, [w0, w1, zI x2, zA 7], [zI y0], zH S I) Q ↔ (cond (decide (y0 = 0)) (Q (some (zI ((-2))), zH S I)) (Wp 72 (0, [zA 7, zI x2, zU], [], zH S I) (fun w => Wp 94 (39, [w0, w1, zI x2, zA 7], w.1.toList ++ [], w.2) Q))) := (WpK_iff [5, 18, 28, 39] 4 94 _ Q).symm
set_option maxRecDepth 100000 in
theorem sg_X5_covered_39 (S : PS) (I : Nat → Nat → Int) (w0 : PV) (w1 : PV) (w2 : PV) (w3 : PV) (y0 : Int) (Q : PV1 → Prop) : Wp 94 (39, [w0, w1, w2, w3], [zI y0], zH S I) Q ↔ (cond (decide (y0 = (-2))) (Q (some (zI 1), zH S I)) (Q (some (zI 0), zH S I))) := (WpK_iff [5, 18, 28, 39] 5 94 _ Q).symm
set_option maxRecDepth 100000 in
theorem sg_X5_covered_5_0_9 (S : PS) (I : Nat → Nat → Int) (w1 : PV) (x2 : Int) (w3 : PV) (Q : PV1 → Prop) : Wp 94 (5, [zA 0, w1, zI x2, w3], [zA 9], zH S I) Q ↔ (Wp 23 (0, [zA 1, zI x2], [], zH S I) (fun w => Wp 94 (18, [zA 0, w1, zI x2, zA 9], w.1.toList ++ [], w.2) Q)) := (WpK_iff [5, 18, 28, 39] 7 94 _ Q).symm
set_option maxRecDepth 100000 in
theorem sg_X5_covered_18_9 (S : PS) (I : Nat → Nat → Int) (w0 : PV) (w1 : PV) (x2 : Int) (y0 : Int) (Q : PV1 → Prop) : Wp 94 (18, [w0, w1, zI x2, zA 9], [zI y0], zH S I) Q ↔ (cond (decide (y0 = 0)) (Q (some (zI ((-1))), zH S I)) (Wp 61 (0, [zA 9, zI x2], [], zH S I) (fun w => Wp 94 (28, [w0, w1, zI x2, zA 9], w.1.toList ++ [], w.2) Q))) := (WpK_iff [5, 18, 28, 39] 4 94 _ Q).symm
set_option maxRecDepth 100000 in
theorem sg_X5_covered_28_9 (S : PS) (I : Nat → Nat → Int) (w0 : PV) (w1 : PV) (x2 : Int) (y0 : Int) (Q : PV1 → Prop) : Wp 94 (28, [w0, w1, zI x2, zA 9], [zI y0], zH S I) Q ↔ (cond (decide (y0 = 0)) (Q (some (zI ((-2))), zH S I)) (Wp 72 (0, [zA 9, zI x2, zU], [], zH S I) (fun w => Wp 94 (39, [w0, w1, zI x2, zA 9], w.1.toList ++ [], w.2) Q))) := (WpK_iff [5, 18, 28, 39] 4 94 _ Q).symm
set_option maxRecDepth 100000 in
theorem sg_X5_shown_0_0 (S : PS) (I : Nat → Nat → Int) (x1 : Int) (x2 : Int) (w3 : PV) (Q : PV1 → Prop) : Wp 95 (0, [zA 0, zI x1, zI x2, w3], [], zH S I) Q ↔ (Wp 106 (0, [zA 0, zI x1], [], zH S I) (fun w => Wp 95 (5, [zA 0, zI x1, zI x2, w3], w.1.toList ++ [], w.2) Q)) := (WpK_iff [5, 18, 28] 3 95 _ Q).symm
set_option maxRecDepth 100000 in
theorem sg_X5_shown_5_0_n (S : PS) (I : Nat → Nat → Int) (w1 : PV) (x2 : Int) (w3 : PV) (Q : PV1 → Prop) : Wp 95 (5, [zA 0, w1, zI x2, w3], [zR none], zH S I) Q ↔ (Q (some (zI ((-1))), zH S I)) := (WpK_iff [5, 18, 28] 5 95 _ Q).symm
set_option maxRecDepth 100000 in
theorem sg_X5_shown_5_0_7 (S : PS) (I : Nat → Nat → Int) (w1 : PV) (x2 : Int) (w3 : PV) (Q : PV1 → Prop) : Wp 95 (5, [zA 0, w1, zI x2, w3], [zA 7], zH S I) Q ↔ (Wp 23 (0, [zA 1, zI x2], [], zH S I) (fun w => Wp 95 (18, [zA 0, w1, zI x2, zA 7], w.1.toList ++ [], w.2) Q)) := (WpK_iff [5, 18, 28] 7 95 _ Q).symm
set_option maxRecDepth 100000 in
theorem sg_X5_shown_18_7 (S : PS) (I : Nat → Nat → Int) (w0 : PV) (w1 : PV) (x2 : Int) (y0 : Int) (Q : PV1 → Prop) : Wp 95 (18, [w0, w1, zI x2, zA 7], [zI y0], zH S I) Q ↔ (cond (decide (y0 = 0)) (Q (some (zI ((-1))), zH S I)) (Wp 72 (0, [zA 7, zI x2, zU], [], zH S I) (fun w => Wp 95 (28, [w0, w1, zI x2, zA 7], w.1.toList ++ [], w.2) Q))) := (WpK_iff [5, 18, 28] 4 95 _ Q).symm
set_option maxRecDepth 100000 in
theorem sg_X5_shown_28 (S : PS) (I : Nat → Nat → Int) (w0 : PV) (w1 : PV) (w2 : PV) (w3 : PV) (y0 : Int) (Q : PV1 → Prop) : Wp 95 (28, [w0, w1, w2, w3], [zI y0], zH S I) Q ↔ (Q (some (zI y0), zH S I)) := (WpK_iff [5, 18, 28] 1 95 _ Q).symm
set_option maxRecDepth 100000 in
theorem sg_X5_shown_5_0_9 (S : PS) (I : Nat → Nat → Int) (w1 : PV) (x2 : Int) (w3 : PV) (Q : PV1 → Prop) : Wp 95 (5, [zA 0, w1, zI x2, w3], [zA 9], zH S I) Q ↔ (Wp 23 (0, [zA 1, zI x2], [], zH S I) (fun w => Wp 95 (18, [zA 0, w1, zI x2, zA 9], w.1.toList ++ [], w.2) Q)) := (WpK_iff [5, 18, 28] 7 95 _ Q).symm
set_option maxRecDepth 100000 in
theorem sg_X5_shown_18_9 (S : PS) (I : Nat → Nat → Int) (w0 : PV) (w1 : PV) (x2 : Int) (y0 : Int) (Q : PV1 → Prop) : Wp 95 (18, [w0, w1, zI x2, zA 9], [zI y0], zH S I) Q ↔ (cond (decide (y0 = 0)) (Q (some (zI ((-1))), zH S I)) (Wp 72 (0, [zA 9, zI x2, zU], [], zH S I) (fun w => Wp 95 (28, [w0, w1, zI x2, zA 9], w.1.toList ++ [], w.2) Q))) := (WpK_iff [5, 18, 28] 4 95 _ Q).symm
set_option maxRecDepth 100000 in
theorem sg_X5_spare_0_0 (S : PS) (I : Nat → Nat → Int) (x1 : Int) (x2 : Int) (w3 : PV) (Q : PV1 → Prop) : Wp 96 (0, [zA 0, zI x1, zI x2, w3], [], zH S I) Q ↔ (Wp 106 (0, [zA 0, zI x1], [], zH S I) (fun w => Wp 96 (5, [zA 0, zI x1, zI x2, w3], w.1.toList ++ [], w.2) Q)) := (WpK_iff [5, 14, 23, 43, 57, 64] 3 96 _ Q).symm
set_option maxRecDepth 100000 in
theorem sg_X5_spare_5_0_n (S : PS) (I : Nat → Nat → Int) (w1 : PV) (x2 : Int) (w3 : PV) (Q : PV1 → Prop) : Wp 96 (5, [zA 0, w1, zI x2, w3], [zR none], zH S I) Q ↔ (Q (some (zI ((-1))), zH S I)) := (WpK_iff [5, 14, 23, 43, 57, 64] 5 96 _ Q).symm
set_option maxRecDepth 100000 in
theorem sg_X5_spare_5_0_7 (S : PS) (I : Nat → Nat → Int) (w1 : PV) (x2 : Int) (w3 : PV) (Q : PV1 → Prop) : Wp 96 (5, [zA 0, w1, zI x2, w3], [zA 7], zH S I) Q ↔ (Wp 104 (0, [zI x2], [], zH S I) (fun w => Wp 96 (14, [zA 0, w1, zI x2, zA 7], w.1.toList ++ [], w.2) Q)) := (WpK_iff [5, 14, 23, 43, 57, 64] 5 96 _ Q).symm
set_option maxRecDepth 100000 in
theorem sg_X5_spare_14_0_7 (S : PS) (I : Nat → Nat → Int) (w1 : PV) (x2 : Int) (y0 : Int) (Q : PV1 → Prop) : Wp 96 (14, [zA 0, w1, zI x2, zA 7], [zI y0], zH S I) Q ↔ (cond (decide (y0 = 0)) (Q (some (zI ((-1))), zH S I)) (Wp 63 (0, [zA 7], [], zH S I) (fun w => Wp 96 (23, [zA 0, w1, zI x2, zA 7], w.1.toList ++ [], w.2) Q))) := (WpK_iff [5, 14, 23, 43, 57, 64] 3 96 _ Q).symm
set_option maxRecDepth 100000 in
theorem sg_X5_spare_23_0_7 (S : PS) (I : Nat → Nat → Int) (w1 : PV) (x2 : Int) (y0 : Int) (Q : PV1 → Prop) : Wp 96 (23, [zA 0, w1, zI x2, zA 7], [zI y0], zH S I) Q ↔ (cond (decide (y0 = 0)) (Wp 26 (0, [zA 1, zI 16, zI 0, zI 0, zI 0, zI x2, zI 0], [], zH S I) (fun w => Wp 96 (43, [zA 0, w1, zI x2, zA 7], w.1.toList ++ [], w.2) Q)) (Q (some (zI ((-3))), zH S I))) := (WpK_iff [5, 14, 23, 43, 57, 64] 10 96 _ Q).symm
set_option maxRecDepth 100000 in
theorem sg_X5_spare_43_0_7 (S : PS) (I : Nat → Nat → Int) (w1 : PV) (w2 : PV) (Q : PV1 → Prop) : Wp 96 (43, [zA 0, w1, w2, zA 7], [], zH S I) Q ↔ (Wp 39 (0, [zA 11, zA 7, zI 16, zA 28, zU, zU], [], zH S I) (fun w => Wp 96 (57, [zA 0, w1, w2, zA 7], w.1.toList ++ [], w.2) Q)) := (WpK_iff [5, 14, 23, 43, 57, 64] 7 96 _ Q).symm
set_option maxRecDepth 100000 in
theorem sg_X5_spare_57_0 (S : PS) (I : Nat → Nat → Int) (w1 : PV) (w2 : PV) (w3 : PV) (Q : PV1 → Prop) : Wp 96 (57, [zA 0, w1, w2, w3], [], zH S I) Q ↔ (Wp 15 (0, [zA 28], [], zH S I) (fun w => Wp 96 (64, [zA 0, w1, w2, w3], w.1.toList ++ [], w.2) Q)) := (WpK_iff [5, 14, 23, 43, 57, 64] 3 96 _ Q).symm
set_option maxRecDepth 100000 in
theorem sg_X5_spare_64 (S : PS) (I : Nat → Nat → Int) (w0 : PV) (w1 : PV) (w2 : PV) (w3 : PV) (y0 : Int) (Q : PV1 → Prop) : Wp 96 (64, [w0, w1, w2, w3], [zI y0], zH S I) Q ↔ (Q (some (zI y0), zH S I)) := (WpK_iff [5, 14, 23, 43, 57, 64] 1 96 _ Q).symm
set_option maxRecDepth 100000 in
theorem sg_X5_spare_5_0_9 (S : PS) (I : Nat → Nat → Int) (w1 : PV) (x2 : Int) (w3 : PV) (Q : PV1 → Prop) : Wp 96 (5, [zA 0, w1, zI x2, w3], [zA 9], zH S I) Q ↔ (Wp 104 (0, [zI x2], [], zH S I) (fun w => Wp 96 (14, [zA 0, w1, zI x2, zA 9], w.1.toList ++ [], w.2) Q)) := (WpK_iff [5, 14, 23, 43, 57, 64] 5 96 _ Q).symm
set_option maxRecDepth 100000 in
theorem sg_X5_spare_14_0_9 (S : PS) (I : Nat → Nat → Int) (w1 : PV) (x2 : Int) (y0 : Int) (Q : PV1 → Prop) : Wp 96 (14, [zA 0, w1, zI x2, zA 9], [zI y0], zH S I) Q ↔ (cond (decide (y0 = 0)) (Q (some (zI ((-1))), zH S I)) (Wp 63 (0, [zA 9], [], zH S I) (fun w => Wp 96 (23, [zA 0, w1, zI x2, zA 9], w.1.toList ++ [], w.2) Q))) := (WpK_iff [5, 14, 23, 43, 57, 64] 3 96 _ Q).symm
set_option maxRecDepth 100000 in
theorem sg_X5_spare_23_0_9 (S : PS) (I : Nat → Nat → Int) (w1 : PV) (x2 : Int) (y0 : Int) (Q : PV1 → Prop) : Wp 96 (23, [zA 0, w1, zI x2, zA 9], [zI y0], zH S I) Q ↔ (cond (decide (y0 = 0)) (Wp 26 (0, [zA 1, zI 16, zI 0, zI 0, zI 0, zI x2, zI 0], [], zH S I) (fun w => Wp 96 (43, [zA 0, w1, zI x2, zA 9], w.1.toList ++ [], w.2) Q)) (Q (some (zI ((-3))), zH S I))) := (WpK_iff [5, 14, 23, 43, 57, 64] 10 96 _ Q).symm
set_option maxRecDepth 100000 in
theorem sg_X5_spare_43_0_9 (S : PS) (I : Nat → Nat → Int) (w1 : PV) (w2 : PV) (Q : PV1 → Prop) : Wp 96 (43, [zA 0, w1, w2, zA 9], [], zH S I) Q ↔ (Wp 39 (0, [zA 11, zA 9, zI 16, zA 28, zU, zU], [], zH S I) (fun w => Wp 96 (57, [zA 0, w1, w2, zA 9], w.1.toList ++ [], w.2) Q)) := (WpK_iff [5, 14, 23, 43, 57, 64] 7 96 _ Q).symm
set_option maxRecDepth 100000 in
theorem sg_X5_melt_0_0 (S : PS) (I : Nat → Nat → Int) (x1 : Int) (x2 : Int) (x3 : Int) (w4 : PV) (w5 : PV) (w6 : PV) (w7 : PV) (Q : PV1 → Prop) : Wp 97 (0, [zA 0, zI x1, zI x2, zI x3, w4, w5, w6, w7], [], zH S I) Q ↔ (Wp 106 (0, [zA 0, zI x1], [], zH S I) (fun w => Wp 97 (5, [zA 0, zI x1, zI x2, zI x3, w4, w5, w6, w7], w.1.toList ++ [], w.2) Q)) := (WpK_iff [5, 17, 25, 44, 58, 68, 83, 118, 135, 142, 157, 160, 169, 172, 187, 195, 202] 3 97 _ Q).symm
set_option maxRecDepth 100000 in
theorem sg_X5_melt_5_0_n (S : PS) (I : Nat → Nat → Int) (w1 : PV) (x2 : Int) (x3 : Int) (w4 : PV) (w5 : PV) (w6 : PV) (w7 : PV) (Q : PV1 → Prop) : Wp 97 (5, [zA 0, w1, zI x2, zI x3, w4, w5, w6, w7], [zR none], zH S I) Q ↔ (Q (some (zI ((-1))), zH S I)) := (WpK_iff [5, 17, 25, 44, 58, 68, 83, 118, 135, 142, 157, 160, 169, 172, 187, 195, 202] 5 97 _ Q).symm
set_option maxRecDepth 100000 in
theorem sg_X5_melt_5_0_7 (S : PS) (I : Nat → Nat → Int) (w1 : PV) (x2 : Int) (x3 : Int) (w4 : PV) (w5 : PV) (w6 : PV) (w7 : PV) (Q : PV1 → Prop) : Wp 97 (5, [zA 0, w1, zI x2, zI x3, w4, w5, w6, w7], [zA 7], zH S I) Q ↔ (Wp 112 (0, [zA 0, zI x2], [], zH S I) (fun w => Wp 97 (17, [zA 0, w1, zI x2, zI x3, zA 7, w5, w6, w7], w.1.toList ++ [], w.2) Q)) := (WpK_iff [5, 17, 25, 44, 58, 68, 83, 118, 135, 142, 157, 160, 169, 172, 187, 195, 202] 6 97 _ Q).symm
set_option maxRecDepth 100000 in
theorem sg_X5_melt_17_0_7 (S : PS) (I : Nat → Nat → Int) (w1 : PV) (x2 : Int) (x3 : Int) (w5 : PV) (w6 : PV) (w7 : PV) (y0 : Int) (Q : PV1 → Prop) : Wp 97 (17, [zA 0, w1, zI x2, zI x3, zA 7, w5, w6, w7], [zI y0], zH S I) Q ↔ (cond (decide (y0 = 0)) (Q (some (zI ((-1))), zH S I)) (Wp 112 (0, [zA 0, zI x3], [], zH S I) (fun w => Wp 97 (25, [zA 0, w1, zI x2, zI x3, zA 7, w5, w6, w7], w.1.toList ++ [], w.2) Q))) := (WpK_iff [5, 17, 25, 44, 58, 68, 83, 118, 135, 142, 157, 160, 169, 172, 187, 195, 202] 4 97 _ Q).symm
set_option maxRecDepth 100000 in
theorem sg_X5_melt_25_0_7 (S : PS) (I : Nat → Nat → Int) (w1 : PV) (x2 : Int) (x3 : Int) (w5 : PV) (w6 : PV) (w7 : PV) (y0 : Int) (Q : PV1 → Prop) : Wp 97 (25, [zA 0, w1, zI x2, zI x3, zA 7, w5, w6, w7], [zI y0], zH S I) Q ↔ (cond (decide (y0 = 0)) (Q (some (zI ((-1))), zH S I)) (cond (decide (x2 = x3)) (Q (some (zI ((-1))), zH S I)) (Wp 37 (0, [zA 1, zI x2, zI x3, zU], [], zH S I) (fun w => Wp 97 (44, [zA 0, w1, zI x2, zI x3, zA 7, w5, w6, w7], w.1.toList ++ [], w.2) Q)))) := (WpK_iff [5, 17, 25, 44, 58, 68, 83, 118, 135, 142, 157, 160, 169, 172, 187, 195, 202] 9 97 _ Q).symm
set_option maxRecDepth 100000 in
theorem sg_X5_melt_44_0_7 (S : PS) (I : Nat → Nat → Int) (w1 : PV) (x2 : Int) (x3 : Int) (w5 : PV) (w6 : PV) (w7 : PV) (y0 : Int) (Q : PV1 → Prop) : Wp 97 (44, [zA 0, w1, zI x2, zI x3, zA 7, w5, w6, w7], [zI y0], zH S I) Q ↔ (cond (decide (y0 = 0)) (Q (some (zI ((-2))), zH S I)) (Wp 113 (0, [zA 0, zA 7, zI x2, zU], [], zH S I) (fun w => Wp 97 (58, [zA 0, w1, zI x2, zI x3, zA 7, zI y0, w6, w7], w.1.toList ++ [], w.2) Q))) := (WpK_iff [5, 17, 25, 44, 58, 68, 83, 118, 135, 142, 157, 160, 169, 172, 187, 195, 202] 7 97 _ Q).symm
set_option maxRecDepth 100000 in
theorem sg_X5_melt_58_0_7 (S : PS) (I : Nat → Nat → Int) (w1 : PV) (x2 : Int) (x3 : Int) (x5 : Int) (w6 : PV) (w7 : PV) (y0 : Int) (Q : PV1 → Prop) : Wp 97 (58, [zA 0, w1, zI x2, zI x3, zA 7, zI x5, w6, w7], [zI y0], zH S I) Q ↔ (cond (decide (y0 = 0)) (Q (some (zI ((-2))), zH S I)) (Wp 113 (0, [zA 0, zA 7, zI x3, zU], [], zH S I) (fun w => Wp 97 (68, [zA 0, w1, zI x2, zI x3, zA 7, zI x5, w6, w7], w.1.toList ++ [], w.2) Q))) := (WpK_iff [5, 17, 25, 44, 58, 68, 83, 118, 135, 142, 157, 160, 169, 172, 187, 195, 202] 5 97 _ Q).symm
set_option maxRecDepth 100000 in
theorem sg_X5_melt_68_0_7 (S : PS) (I : Nat → Nat → Int) (w1 : PV) (x2 : Int) (x3 : Int) (x5 : Int) (w6 : PV) (w7 : PV) (y0 : Int) (Q : PV1 → Prop) : Wp 97 (68, [zA 0, w1, zI x2, zI x3, zA 7, zI x5, w6, w7], [zI y0], zH S I) Q ↔ (cond (decide (y0 = 0)) (Q (some (zI ((-2))), zH S I)) (Wp 36 (0, [zA 1, zI x2, zI x3], [], zH S I) (fun w => Wp 97 (83, [zA 0, w1, zI x2, zI x3, zA 7, zI x5, w6, w7], w.1.toList ++ [], w.2) Q))) := (WpK_iff [5, 17, 25, 44, 58, 68, 83, 118, 135, 142, 157, 160, 169, 172, 187, 195, 202] 6 97 _ Q).symm
set_option maxRecDepth 100000 in
theorem sg_X5_melt_83_0_7 (S : PS) (I : Nat → Nat → Int) (w1 : PV) (x2 : Int) (x3 : Int) (x5 : Int) (w6 : PV) (w7 : PV) (y0 : Int) (Q : PV1 → Prop) : Wp 97 (83, [zA 0, w1, zI x2, zI x3, zA 7, zI x5, w6, w7], [zI y0], zH S I) Q ↔ (cond (decide (y0 = 0)) (cond (decide (x3 = x2)) (Wp 114 (0, [zA 0, zA 7, zI x3, zI x3, zI x5, zU, zU, zU], [], zH S I) (fun w => Wp 97 (118, [zA 0, w1, zI x2, zI x3, zA 7, zI x5, zI x3, zI x3], w.1.toList ++ [], w.2) Q)) (Wp 114 (0, [zA 0, zA 7, zI x3, zI x2, zI x5, zU, zU, zU], [], zH S I) (fun w => Wp 97 (118, [zA 0, w1, zI x2, zI x3, zA 7, zI x5, zI x3, zI x2], w.1.toList ++ [], w.2) Q))) (cond (decide (x2 = x2)) (Wp 114 (0, [zA 0, zA 7, zI x2, zI x3, zI x5, zU, zU, zU], [], zH S I) (fun w => Wp 97 (118, [zA 0, w1, zI x2, zI x3, zA 7, zI x5, zI x2, zI x3], w.1.toList ++ [], w.2) Q)) (Wp 114 (0, [zA 0, zA 7, zI x2, zI x2, zI x5, zU, zU, zU], [], zH S I) (fun w => Wp 97 (118, [zA 0, w1, zI x2, zI x3, zA 7, zI x5, zI x2, zI x2], w.1.toList ++ [], w.2) Q)))) := (WpK_iff [5, 17, 25, 44, 58, 68, 83, 118, 135, 142, 157, 160, 169, 172, 187, 195, 202] 16 97 _ Q).symm
set_option maxRecDepth 100000 in
theorem sg_X5_melt_118_0_7 (S : PS) (I : Nat → Nat → Int) (w1 : PV) (w2 : PV) (w3 : PV) (x5 : Int) (x6 : Int) (x7 : Int) (y0 : Int) (Q : PV1 → Prop) : Wp 97 (118, [zA 0, w1, w2, w3, zA 7, zI x5, zI x6, zI x7], [zI y0], zH S I) Q ↔ (cond (decide (y0 = 0)) (Q (some (zI ((-2))), zH S I)) (Wp 75 (0, [zA 7, zU, zU], [], zH S I) (fun w => Wp 97 (135, [zA 0, w1, w2, w3, zA 7, zI x5, zI x6, zI x7], w.1.toList ++ [zA 19], w.2) Q))) := (WpK_iff [5, 17, 25, 44, 58, 68, 83, 118, 135, 142, 157, 160, 169, 172, 187, 195, 202] 6 97 _ Q).symm
set_option maxRecDepth 100000 in
theorem sg_X5_melt_135_0_7_19 (S : PS) (I : Nat → Nat → Int) (w1 : PV) (w2 : PV) (w3 : PV) (x5 : Int) (x6 : Int) (x7 : Int) (y1 : Int) (Q : PV1 → Prop) : Wp 97 (135, [zA 0, w1, w2, w3, zA 7, zI x5, zI x6, zI x7], [zI y1, zA 19], zH S I) Q ↔ (Wp 75 (0, [zA 9, zU, zU], [], zH S I) (fun w => Wp 97 (142, [zA 0, w1, w2, w3, zA 7, zI x5, zI x6, zI x7], w.1.toList ++ [zI y1, zA 19], w.2) Q)) := (WpK_iff [5, 17, 25, 44, 58, 68, 83, 118, 135, 142, 157, 160, 169, 172, 187, 195, 202] 3 97 _ Q).symm
set_option maxRecDepth 100000 in
theorem sg_X5_melt_142_0_7_19 (S : PS) (I : Nat → Nat → Int) (w1 : PV) (w2 : PV) (w3 : PV) (x5 : Int) (x6 : Int) (x7 : Int) (y1 : Int) (y2 : Int) (Q : PV1 → Prop) : Wp 97 (142, [zA 0, w1, w2, w3, zA 7, zI x5, zI x6, zI x7], [zI y2, zI y1, zA 19], zH S I) Q ↔ (Wp 31 (0, [zA 1, zI x6], [], zH S I) (fun w => Wp 97 (157, [zA 0, w1, w2, w3, zA 7, zI x5, zI x6, zI x7], w.1.toList ++ [zI x6, zI (I 0 8), zI y2, zI y1, zA 19], w.2) Q)) := (WpK_iff [5, 17, 25, 44, 58, 68, 83, 118, 135, 142, 157, 160, 169, 172, 187, 195, 202] 7 97 _ Q).symm
set_option maxRecDepth 100000 in
theorem sg_X5_melt_157_0_7_19 (S : PS) (I : Nat → Nat → Int) (w1 : PV) (w2 : PV) (w3 : PV) (x5 : Int) (x6 : Int) (x7 : Int) (y1 : Int) (y2 : Int) (y3 : Int) (y4 : Int) (y5 : Int) (Q : PV1 → Prop) : Wp 97 (157, [zA 0, w1, w2, w3, zA 7, zI x5, zI x6, zI x7], [zI y5, zI y4, zI y3, zI y2, zI y1, zA 19], zH S I) Q ↔ (Wp 3 (0, [zA 19, zI y1, zI y2, zI y3, zI y4, zI y5], [], zH S I) (fun w => Wp 97 (160, [zA 0, w1, w2, w3, zA 7, zI x5, zI x6, zI x7], w.1.toList ++ [], w.2) Q)) := (WpK_iff [5, 17, 25, 44, 58, 68, 83, 118, 135, 142, 157, 160, 169, 172, 187, 195, 202] 1 97 _ Q).symm
set_option maxRecDepth 100000 in
theorem sg_X5_melt_160_0_7 (S : PS) (I : Nat → Nat → Int) (w1 : PV) (w2 : PV) (w3 : PV) (x5 : Int) (x6 : Int) (x7 : Int) (Q : PV1 → Prop) : Wp 97 (160, [zA 0, w1, w2, w3, zA 7, zI x5, zI x6, zI x7], [], zH S I) Q ↔ (Wp 60 (0, [zA 7, zI x7, zU], [], zH S I) (fun w => Wp 97 (169, [zA 0, w1, w2, w3, zA 7, zI x5, zI x6, zI x7], w.1.toList ++ [zA 7], w.2) Q)) := (WpK_iff [5, 17, 25, 44, 58, 68, 83, 118, 135, 142, 157, 160, 169, 172, 187, 195, 202] 4 97 _ Q).symm
set_option maxRecDepth 100000 in
theorem sg_X5_melt_169_0_7 (S : PS) (I : Nat → Nat → Int) (w1 : PV) (w2 : PV) (w3 : PV) (w4 : PV) (x5 : Int) (x6 : Int) (w7 : PV) (y1 : Int) (Q : PV1 → Prop) : Wp 97 (169, [zA 0, w1, w2, w3, w4, zI x5, zI x6, w7], [zI y1, zA 7], zH S I) Q ↔ (Wp 64 (0, [zA 7, zI y1], [], zH S I) (fun w => Wp 97 (172, [zA 0, w1, w2, w3, w4, zI x5, zI x6, w7], w.1.toList ++ [], w.2) Q)) := (WpK_iff [5, 17, 25, 44, 58, 68, 83, 118, 135, 142, 157, 160, 169, 172, 187, 195, 202] 1 97 _ Q).symm
set_option maxRecDepth 100000 in
theorem sg_X5_melt_172_0 (S : PS) (I : Nat → Nat → Int) (w1 : PV) (w2 : PV) (w3 : PV) (w4 : PV) (x5 : Int) (x6 : Int) (w7 : PV) (Q : PV1 → Prop) : Wp 97 (172, [zA 0, w1, w2, w3, w4, zI x5, zI x6, w7], [], zH S I) Q ↔ (Wp 31 (0, [zA 1, zI x6], [], zH S I) (fun w => Wp 97 (187, [zA 0, w1, w2, w3, w4, zI x5, zI x6, w7], w.1.toList ++ [zI x6, zA 1], w.2) Q)) := (WpK_iff [5, 17, 25, 44, 58, 68, 83, 118, 135, 142, 157, 160, 169, 172, 187, 195, 202] 7 97 _ Q).symm
set_option maxRecDepth 100000 in
theorem sg_X5_melt_187_0_1 (S : PS) (I : Nat → Nat → Int) (w1 : PV) (w2 : PV) (w3 : PV) (w4 : PV) (x5 : Int) (x6 : Int) (w7 : PV) (y1 : Int) (y2 : Int) (Q : PV1 → Prop) : Wp 97 (187, [zA 0, w1, w2, w3, w4, zI x5, zI x6, w7], [zI y2, zI y1, zA 1], zH S I) Q ↔ (Wp 27 (0, [zA 1, zI y1, zI (zan y2 (zxr x5 ((-1))))], [], zH S I) (fun w => Wp 97 (195, [zA 0, w1, w2, w3, w4, zI x5, zI x6, w7], w.1.toList ++ [], w.2) Q)) := (WpK_iff [5, 17, 25, 44, 58, 68, 83, 118, 135, 142, 157, 160, 169, 172, 187, 195, 202] 5 97 _ Q).symm
set_option maxRecDepth 100000 in
theorem sg_X5_melt_195_0 (S : PS) (I : Nat → Nat → Int) (w1 : PV) (w2 : PV) (w3 : PV) (w4 : PV) (w5 : PV) (x6 : Int) (w7 : PV) (Q : PV1 → Prop) : Wp 97 (195, [zA 0, w1, w2, w3, w4, w5, zI x6, w7], [], zH S I) Q ↔ (Wp 13 (0, [zA 25], [], zH S I) (fun w => Wp 97 (202, [zA 0, w1, w2, w3, w4, w5, zI x6, w7], w.1.toList ++ [], w.2) Q)) := (WpK_iff [5, 17, 25, 44, 58, 68, 83, 118, 135, 142, 157, 160, 169, 172, 187, 195, 202] 3 97 _ Q).symm
set_option maxRecDepth 100000 in
theorem sg_X5_melt_202 (S : PS) (I : Nat → Nat → Int) (w0 : PV) (w1 : PV) (w2 : PV) (w3 : PV) (w4 : PV) (w5 : PV) (x6 : Int) (w7 : PV) (Q : PV1 → Prop) : Wp 97 (202, [w0, w1, w2, w3, w4, w5, zI x6, w7], [], zH S I) Q ↔ (Q (some (zI x6), zH S I)) := (WpK_iff [5, 17, 25, 44, 58, 68, 83, 118, 135, 142, 157, 160, 169, 172, 187, 195, 202] 2 97 _ Q).symm
set_option maxRecDepth 100000 in
theorem sg_X5_melt_5_0_9 (S : PS) (I : Nat → Nat → Int) (w1 : PV) (x2 : Int) (x3 : Int) (w4 : PV) (w5 : PV) (w6 : PV) (w7 : PV) (Q : PV1 → Prop) : Wp 97 (5, [zA 0, w1, zI x2, zI x3, w4, w5, w6, w7], [zA 9], zH S I) Q ↔ (Wp 112 (0, [zA 0, zI x2], [], zH S I) (fun w => Wp 97 (17, [zA 0, w1, zI x2, zI x3, zA 9, w5, w6, w7], w.1.toList ++ [], w.2) Q)) := (WpK_iff [5, 17, 25, 44, 58, 68, 83, 118, 135, 142, 157, 160, 169, 172, 187, 195, 202] 6 97 _ Q).symm
set_option maxRecDepth 100000 in
theorem sg_X5_melt_17_0_9 (S : PS) (I : Nat → Nat → Int) (w1 : PV) (x2 : Int) (x3 : Int) (w5 : PV) (w6 : PV) (w7 : PV) (y0 : Int) (Q : PV1 → Prop) : Wp 97 (17, [zA 0, w1, zI x2, zI x3, zA 9, w5, w6, w7], [zI y0], zH S I) Q ↔ (cond (decide (y0 = 0)) (Q (some (zI ((-1))), zH S I)) (Wp 112 (0, [zA 0, zI x3], [], zH S I) (fun w => Wp 97 (25, [zA 0, w1, zI x2, zI x3, zA 9, w5, w6, w7], w.1.toList ++ [], w.2) Q))) := (WpK_iff [5, 17, 25, 44, 58, 68, 83, 118, 135, 142, 157, 160, 169, 172, 187, 195, 202] 4 97 _ Q).symm
set_option maxRecDepth 100000 in
theorem sg_X5_melt_25_0_9 (S : PS) (I : Nat → Nat → Int) (w1 : PV) (x2 : Int) (x3 : Int) (w5 : PV) (w6 : PV) (w7 : PV) (y0 : Int) (Q : PV1 → Prop) : Wp 97 (25, [zA 0, w1, zI x2, zI x3, zA 9, w5, w6, w7], [zI y0], zH S I) Q ↔ (cond (decide (y0 = 0)) (Q (some (zI ((-1))), zH S I)) (cond (decide (x2 = x3)) (Q (some (zI ((-1))), zH S I)) (Wp 37 (0, [zA 1, zI x2, zI x3, zU], [], zH S I) (fun w => Wp 97 (44, [zA 0, w1, zI x2, zI x3, zA 9, w5, w6, w7], w.1.toList ++ [], w.2) Q)))) := (WpK_iff [5, 17, 25, 44, 58, 68, 83, 118, 135, 142, 157, 160, 169, 172, 187, 195, 202] 9 97 _ Q).symm
set_option maxRecDepth 100000 in
theorem sg_X5_melt_44_0_9 (S : PS) (I : Nat → Nat → Int) (w1 : PV) (x2 : Int) (x3 : Int) (w5 : PV) (w6 : PV) (w7 : PV) (y0 : Int) (Q : PV1 → Prop) : Wp 97 (44, [zA 0, w1, zI x2, zI x3, zA 9, w5, w6, w7], [zI y0], zH S I) Q ↔ (cond (decide (y0 = 0)) (Q (some (zI ((-2))), zH S I)) (Wp 113 (0, [zA 0, zA 9, zI x2, zU], [], zH S I) (fun w => Wp 97 (58, [zA 0, w1, zI x2, zI x3, zA 9, zI y0, w6, w7], w.1.toList ++ [], w.2) Q))) := (WpK_iff [5, 17, 25, 44, 58, 68, 83, 118, 135, 142, 157, 160, 169, 172, 187, 195, 202] 7 97 _ Q).symm
set_option maxRecDepth 100000 in
theorem sg_X5_melt_58_0_9 (S : PS) (I : Nat → Nat → Int) (w1 : PV) (x2 : Int) (x3 : Int) (x5 : Int) (w6 : PV) (w7 : PV) (y0 : Int) (Q : PV1 → Prop) : Wp 97 (58, [zA 0, w1, zI x2, zI x3, zA 9, zI x5, w6, w7], [zI y0], zH S I) Q ↔ (cond (decide (y0 = 0)) (Q (some (zI ((-2))), zH S I)) (Wp 113 (0, [zA 0, zA 9, zI x3, zU], [], zH S I) (fun w => Wp 97 (68, [zA 0, w1, zI x2, zI x3, zA 9, zI x5, w6, w7], w.1.toList ++ [], w.2) Q))) := (WpK_iff [5, 17, 25, 44, 58, 68, 83, 118, 135, 142, 157, 160, 169, 172, 187, 195, 202] 5 97 _ Q).symm
set_option maxRecDepth 100000 in
theorem sg_X5_melt_68_0_9 (S : PS) (I : Nat → Nat → Int) (w1 : PV) (x2 : Int) (x3 : Int) (x5 : Int) (w6 : PV) (w7 : PV) (y0 : Int) (Q : PV1 → Prop) : Wp 97 (68, [zA 0, w1, zI x2, zI x3, zA 9, zI x5, w6, w7], [zI y0], zH S I) Q ↔ (cond (decide (y0 = 0)) (Q (some (zI ((-2))), zH S I)) (Wp 36 (0, [zA 1, zI x2, zI x3], [], zH S I) (fun w => Wp 97 (83, [zA 0, w1, zI x2, zI x3, zA 9, zI x5, w6, w7], w.1.toList ++ [], w.2) Q))) := (WpK_iff [5, 17, 25, 44, 58, 68, 83, 118, 135, 142, 157, 160, 169, 172, 187, 195, 202] 6 97 _ Q).symm
set_option maxRecDepth 100000 in
theorem sg_X5_melt_83_0_9 (S : PS) (I : Nat → Nat → Int) (w1 : PV) (x2 : Int) (x3 : Int) (x5 : Int) (w6 : PV) (w7 : PV) (y0 : Int) (Q : PV1 → Prop) : Wp 97 (83, [zA 0, w1, zI x2, zI x3, zA 9, zI x5, w6, w7], [zI y0], zH S I) Q ↔ (cond (decide (y0 = 0)) (cond (decide (x3 = x2)) (Wp 114 (0, [zA 0, zA 9, zI x3, zI x3, zI x5, zU, zU, zU], [], zH S I) (fun w => Wp 97 (118, [zA 0, w1, zI x2, zI x3, zA 9, zI x5, zI x3, zI x3], w.1.toList ++ [], w.2) Q)) (Wp 114 (0, [zA 0, zA 9, zI x3, zI x2, zI x5, zU, zU, zU], [], zH S I) (fun w => Wp 97 (118, [zA 0, w1, zI x2, zI x3, zA 9, zI x5, zI x3, zI x2], w.1.toList ++ [], w.2) Q))) (cond (decide (x2 = x2)) (Wp 114 (0, [zA 0, zA 9, zI x2, zI x3, zI x5, zU, zU, zU], [], zH S I) (fun w => Wp 97 (118, [zA 0, w1, zI x2, zI x3, zA 9, zI x5, zI x2, zI x3], w.1.toList ++ [], w.2) Q)) (Wp 114 (0, [zA 0, zA 9, zI x2, zI x2, zI x5, zU, zU, zU], [], zH S I) (fun w => Wp 97 (118, [zA 0, w1, zI x2, zI x3, zA 9, zI x5, zI x2, zI x2], w.1.toList ++ [], w.2) Q)))) := (WpK_iff [5, 17, 25, 44, 58, 68, 83, 118, 135, 142, 157, 160, 169, 172, 187, 195, 202] 16 97 _ Q).symm
set_option maxRecDepth 100000 in
theorem sg_X5_melt_118_0_9 (S : PS) (I : Nat → Nat → Int) (w1 : PV) (w2 : PV) (w3 : PV) (x5 : Int) (x6 : Int) (x7 : Int) (y0 : Int) (Q : PV1 → Prop) : Wp 97 (118, [zA 0, w1, w2, w3, zA 9, zI x5, zI x6, zI x7], [zI y0], zH S I) Q ↔ (cond (decide (y0 = 0)) (Q (some (zI ((-2))), zH S I)) (Wp 75 (0, [zA 7, zU, zU], [], zH S I) (fun w => Wp 97 (135, [zA 0, w1, w2, w3, zA 9, zI x5, zI x6, zI x7], w.1.toList ++ [zA 19], w.2) Q))) := (WpK_iff [5, 17, 25, 44, 58, 68, 83, 118, 135, 142, 157, 160, 169, 172, 187, 195, 202] 6 97 _ Q).symm
set_option maxRecDepth 100000 in
theorem sg_X5_melt_135_0_9_19 (S : PS) (I : Nat → Nat → Int) (w1 : PV) (w2 : PV) (w3 : PV) (x5 : Int) (x6 : Int) (x7 : Int) (y1 : Int) (Q : PV1 → Prop) : Wp 97 (135, [zA 0, w1, w2, w3, zA 9, zI x5, zI x6, zI x7], [zI y1, zA 19], zH S I) Q ↔ (Wp 75 (0, [zA 9, zU, zU], [], zH S I) (fun w => Wp 97 (142, [zA 0, w1, w2, w3, zA 9, zI x5, zI x6, zI x7], w.1.toList ++ [zI y1, zA 19], w.2) Q)) := (WpK_iff [5, 17, 25, 44, 58, 68, 83, 118, 135, 142, 157, 160, 169, 172, 187, 195, 202] 3 97 _ Q).symm
set_option maxRecDepth 100000 in
theorem sg_X5_melt_142_0_9_19 (S : PS) (I : Nat → Nat → Int) (w1 : PV) (w2 : PV) (w3 : PV) (x5 : Int) (x6 : Int) (x7 : Int) (y1 : Int) (y2 : Int) (Q : PV1 → Prop) : Wp 97 (142, [zA 0, w1, w2, w3, zA 9, zI x5, zI x6, zI x7], [zI y2, zI y1, zA 19], zH S I) Q ↔ (Wp 31 (0, [zA 1, zI x6], [], zH S I) (fun w => Wp 97 (157, [zA 0, w1, w2, w3, zA 9, zI x5, zI x6, zI x7], w.1.toList ++ [zI x6, zI (I 0 8), zI y2, zI y1, zA 19], w.2) Q)) := (WpK_iff [5, 17, 25, 44, 58, 68, 83, 118, 135, 142, 157, 160, 169, 172, 187, 195, 202] 7 97 _ Q).symm
set_option maxRecDepth 100000 in
theorem sg_X5_melt_157_0_9_19 (S : PS) (I : Nat → Nat → Int) (w1 : PV) (w2 : PV) (w3 : PV) (x5 : Int) (x6 : Int) (x7 : Int) (y1 : Int) (y2 : Int) (y3 : Int) (y4 : Int) (y5 : Int) (Q : PV1 → Prop) : Wp 97 (157, [zA 0, w1, w2, w3, zA 9, zI x5, zI x6, zI x7], [zI y5, zI y4, zI y3, zI y2, zI y1, zA 19], zH S I) Q ↔ (Wp 3 (0, [zA 19, zI y1, zI y2, zI y3, zI y4, zI y5], [], zH S I) (fun w => Wp 97 (160, [zA 0, w1, w2, w3, zA 9, zI x5, zI x6, zI x7], w.1.toList ++ [], w.2) Q)) := (WpK_iff [5, 17, 25, 44, 58, 68, 83, 118, 135, 142, 157, 160, 169, 172, 187, 195, 202] 1 97 _ Q).symm
set_option maxRecDepth 100000 in
theorem sg_X5_melt_160_0_9 (S : PS) (I : Nat → Nat → Int) (w1 : PV) (w2 : PV) (w3 : PV) (x5 : Int) (x6 : Int) (x7 : Int) (Q : PV1 → Prop) : Wp 97 (160, [zA 0, w1, w2, w3, zA 9, zI x5, zI x6, zI x7], [], zH S I) Q ↔ (Wp 60 (0, [zA 9, zI x7, zU], [], zH S I) (fun w => Wp 97 (169, [zA 0, w1, w2, w3, zA 9, zI x5, zI x6, zI x7], w.1.toList ++ [zA 9], w.2) Q)) := (WpK_iff [5, 17, 25, 44, 58, 68, 83, 118, 135, 142, 157, 160, 169, 172, 187, 195, 202] 4 97 _ Q).symm
set_option maxRecDepth 100000 in
theorem sg_X5_melt_169_0_9 (S : PS) (I : Nat → Nat → Int) (w1 : PV) (w2 : PV) (w3 : PV) (w4 : PV) (x5 : Int) (x6 : Int) (w7 : PV) (y1 : Int) (Q : PV1 → Prop) : Wp 97 (169, [zA 0, w1, w2, w3, w4, zI x5, zI x6, w7], [zI y1, zA 9], zH S I) Q ↔ (Wp 64 (0, [zA 9, zI y1], [], zH S I) (fun w => Wp 97 (172, [zA 0, w1, w2, w3, w4, zI x5, zI x6, w7], w.1.toList ++ [], w.2) Q)) := (WpK_iff [5, 17, 25, 44, 58, 68, 83, 118, 135, 142, 157, 160, 169, 172, 187, 195, 202] 1 97 _ Q).symm
set_option maxRecDepth 100000 in
theorem sg_X5_over_0_0 (S : PS) (I : Nat → Nat → Int)  (Q : PV1 → Prop) : Wp 98 (0, [zA 0], [], zH S I) Q ↔ (Wp 111 (0, [zA 0], [], zH S I) (fun w => Wp 98 (4, [zA 0], w.1.toList ++ [], w.2) Q)) := (WpK_iff [4] 2 98 _ Q).symm
set_option maxRecDepth 100000 in
theorem sg_X5_over_4_0 (S : PS) (I : Nat → Nat → Int)  (Q : PV1 → Prop) : Wp 98 (4, [zA 0], [], zH S I) Q ↔ (Q (some (zI ((zs2 I 0 8 (zsb 1 (I 0 8))) 0 8)), zH S (zs2 I 0 8 (zsb 1 (I 0 8))))) := (WpK_iff [4] 9 98 _ Q).symm
set_option maxRecDepth 100000 in
theorem sg_X5_differ_0_0 (S : PS) (I : Nat → Nat → Int) (w1 : PV) (w2 : PV) (Q : PV1 → Prop) : Wp 99 (0, [zA 0, w1, w2], [], zH S I) Q ↔ (Wp 99 (4, [zA 0, zI 0, zI 0], [], zH S I) Q) := (WpK_iff [4, 18, 26] 4 99 _ Q).symm
set_option maxRecDepth 100000 in
theorem sg_X5_differ_4_0 (S : PS) (I : Nat → Nat → Int) (x1 : Int) (x2 : Int) (Q : PV1 → Prop) : Wp 99 (4, [zA 0, zI x1, zI x2], [], zH S I) Q ↔ (cond (decide (x2 < 32)) (Wp 67 (0, [zA 7, zI x2, zU], [], zH S I) (fun w => Wp 99 (18, [zA 0, zI x1, zI x2], w.1.toList ++ [], w.2) Q)) (Q (some (zI x1), zH S I))) := (WpK_iff [4, 18, 26] 7 99 _ Q).symm
set_option maxRecDepth 100000 in
theorem sg_X5_differ_18_0 (S : PS) (I : Nat → Nat → Int) (x1 : Int) (x2 : Int) (y0 : Int) (Q : PV1 → Prop) : Wp 99 (18, [zA 0, zI x1, zI x2], [zI y0], zH S I) Q ↔ (Wp 67 (0, [zA 9, zI x2, zU], [], zH S I) (fun w => Wp 99 (26, [zA 0, zI x1, zI x2], w.1.toList ++ [zI y0], w.2) Q)) := (WpK_iff [4, 18, 26] 4 99 _ Q).symm
set_option maxRecDepth 100000 in
theorem sg_X5_differ_26_0 (S : PS) (I : Nat → Nat → Int) (x1 : Int) (x2 : Int) (y0 : Int) (y1 : Int) (Q : PV1 → Prop) : Wp 99 (26, [zA 0, zI x1, zI x2], [zI y1, zI y0], zH S I) Q ↔ (cond (decide (y0 = y1)) (Wp 99 (4, [zA 0, zI x1, zI (zad x2 1)], [], zH S I) Q) (Wp 99 (4, [zA 0, zI (zad x1 1), zI (zad x2 1)], [], zH S I) Q)) := (WpK_iff [4, 18, 26] 4 99 _ Q).symm
set_option maxRecDepth 100000 in
theorem sg_X5_build_0_0 (S : PS) (I : Nat → Nat → Int) (x1 : Int) (w2 : PV) (w3 : PV) (w4 : PV) (w5 : PV) (w6 : PV) (Q : PV1 → Prop) : Wp 100 (0, [zA 0, zI x1, w2, w3, w4, w5, w6], [], zH S I) Q ↔ (Wp 106 (0, [zA 0, zI x1], [], zH S I) (fun w => Wp 100 (5, [zA 0, zI x1, w2, w3, w4, w5, w6], w.1.toList ++ [], w.2) Q)) := (WpK_iff [5, 13, 28, 38, 46, 51, 78, 86, 95, 104, 119] 3 100 _ Q).symm
set_option maxRecDepth 100000 in
theorem sg_X5_build_5_0_n (S : PS) (I : Nat → Nat → Int) (x1 : Int) (w2 : PV) (w3 : PV) (w4 : PV) (w5 : PV) (w6 : PV) (Q : PV1 → Prop) : Wp 100 (5, [zA 0, zI x1, w2, w3, w4, w5, w6], [zR none], zH S I) Q ↔ (Wp 106 (0, [zA 0, zI (zsb 1 x1)], [], zH S I) (fun w => Wp 100 (13, [zA 0, zI x1, zR none, w3, w4, w5, w6], w.1.toList ++ [], w.2) Q)) := (WpK_iff [5, 13, 28, 38, 46, 51, 78, 86, 95, 104, 119] 6 100 _ Q).symm
set_option maxRecDepth 100000 in
theorem sg_X5_build_13_0_n_n (S : PS) (I : Nat → Nat → Int) (w1 : PV) (w3 : PV) (w4 : PV) (w5 : PV) (w6 : PV) (Q : PV1 → Prop) : Wp 100 (13, [zA 0, w1, zR none, w3, w4, w5, w6], [zR none], zH S I) Q ↔ (Q (some (zI ((-1))), zH S I)) := (WpK_iff [5, 13, 28, 38, 46, 51, 78, 86, 95, 104, 119] 5 100 _ Q).symm
set_option maxRecDepth 100000 in
theorem sg_X5_build_13_0_n_7 (S : PS) (I : Nat → Nat → Int) (w1 : PV) (w3 : PV) (w4 : PV) (w5 : PV) (w6 : PV) (Q : PV1 → Prop) : Wp 100 (13, [zA 0, w1, zR none, w3, w4, w5, w6], [zA 7], zH S I) Q ↔ (Q (some (zI ((-1))), zH S I)) := (WpK_iff [5, 13, 28, 38, 46, 51, 78, 86, 95, 104, 119] 5 100 _ Q).symm
set_option maxRecDepth 100000 in
theorem sg_X5_build_13_0_n_9 (S : PS) (I : Nat → Nat → Int) (w1 : PV) (w3 : PV) (w4 : PV) (w5 : PV) (w6 : PV) (Q : PV1 → Prop) : Wp 100 (13, [zA 0, w1, zR none, w3, w4, w5, w6], [zA 9], zH S I) Q ↔ (Q (some (zI ((-1))), zH S I)) := (WpK_iff [5, 13, 28, 38, 46, 51, 78, 86, 95, 104, 119] 5 100 _ Q).symm
set_option maxRecDepth 100000 in
theorem sg_X5_build_5_0_7 (S : PS) (I : Nat → Nat → Int) (x1 : Int) (w2 : PV) (w3 : PV) (w4 : PV) (w5 : PV) (w6 : PV) (Q : PV1 → Prop) : Wp 100 (5, [zA 0, zI x1, w2, w3, w4, w5, w6], [zA 7], zH S I) Q ↔ (Wp 106 (0, [zA 0, zI (zsb 1 x1)], [], zH S I) (fun w => Wp 100 (13, [zA 0, zI x1, zA 7, w3, w4, w5, w6], w.1.toList ++ [], w.2) Q)) := (WpK_iff [5, 13, 28, 38, 46, 51, 78, 86, 95, 104, 119] 6 100 _ Q).symm
set_option maxRecDepth 100000 in
theorem sg_X5_build_13_0_7_n (S : PS) (I : Nat → Nat → Int) (w1 : PV) (w3 : PV) (w4 : PV) (w5 : PV) (w6 : PV) (Q : PV1 → Prop) : Wp 100 (13, [zA 0, w1, zA 7, w3, w4, w5, w6], [zR none], zH S I) Q ↔ (Q (some (zI ((-1))), zH S I)) := (WpK_iff [5, 13, 28, 38, 46, 51, 78, 86, 95, 104, 119] 7 100 _ Q).symm
set_option maxRecDepth 100000 in
theorem sg_X5_build_13_0_7_7 (S : PS) (I : Nat → Nat → Int) (w1 : PV) (w3 : PV) (w4 : PV) (w5 : PV) (w6 : PV) (Q : PV1 → Prop) : Wp 100 (13, [zA 0, w1, zA 7, w3, w4, w5, w6], [zA 7], zH S I) Q ↔ (Wp 62 (0, [zA 7, zU, zU], [], zH S I) (fun w => Wp 100 (28, [zA 0, w1, zA 7, zA 7, w4, w5, w6], w.1.toList ++ [], w.2) Q)) := (WpK_iff [5, 13, 28, 38, 46, 51, 78, 86, 95, 104, 119] 7 100 _ Q).symm
set_option maxRecDepth 100000 in
theorem sg_X5_build_28_0_7_7 (S : PS) (I : Nat → Nat → Int) (w1 : PV) (w4 : PV) (w5 : PV) (w6 : PV) (y0 : Int) (Q : PV1 → Prop) : Wp 100 (28, [zA 0, w1, zA 7, zA 7, w4, w5, w6], [zI y0], zH S I) Q ↔ (cond (decide (0 < y0)) (Q (some (zI ((-2))), zH S I)) (Wp 111 (0, [zA 0], [], zH S I) (fun w => Wp 100 (38, [zA 0, w1, zA 7, zA 7, w4, w5, w6], w.1.toList ++ [], w.2) Q))) := (WpK_iff [5, 13, 28, 38, 46, 51, 78, 86, 95, 104, 119] 3 100 _ Q).symm
set_option maxRecDepth 100000 in
theorem sg_X5_build_38_0_7_7 (S : PS) (I : Nat → Nat → Int) (w1 : PV) (w4 : PV) (w5 : PV) (w6 : PV) (Q : PV1 → Prop) : Wp 100 (38, [zA 0, w1, zA 7, zA 7, w4, w5, w6], [], zH S I) Q ↔ (Wp 74 (0, [zA 7, zI ((-1)), zU, zU, zU, zU], [], zH S I) (fun w => Wp 100 (46, [zA 0, w1, zA 7, zA 7, zI 0, w5, w6], w.1.toList ++ [], w.2) Q)) := (WpK_iff [5, 13, 28, 38, 46, 51, 78, 86, 95, 104, 119] 5 100 _ Q).symm
set_option maxRecDepth 100000 in
theorem sg_X5_build_46_0_7_7 (S : PS) (I : Nat → Nat → Int) (w1 : PV) (x4 : Int) (w5 : PV) (w6 : PV) (y0 : Int) (Q : PV1 → Prop) : Wp 100 (46, [zA 0, w1, zA 7, zA 7, zI x4, w5, w6], [zI y0], zH S I) Q ↔ (Wp 100 (51, [zA 0, w1, zA 7, zA 7, zI x4, zI y0, zI 0], [], zH S I) Q) := (WpK_iff [5, 13, 28, 38, 46, 51, 78, 86, 95, 104, 119] 3 100 _ Q).symm
set_option maxRecDepth 100000 in
theorem sg_X5_build_51_0_7_7 (S : PS) (I : Nat → Nat → Int) (w1 : PV) (x4 : Int) (x5 : Int) (x6 : Int) (Q : PV1 → Prop) : Wp 100 (51, [zA 0, w1, zA 7, zA 7, zI x4, zI x5, zI x6], [], zH S I) Q ↔ (cond (decide (x6 < 6)) (cond (decide (x5 = (-1))) (Wp 13 (0, [zA 25], [], zH S I) (fun w => Wp 100 (119, [zA 0, w1, zA 7, zA 7, zI x4, zI x5, zI x6], w.1.toList ++ [], w.2) Q)) (Wp 39 (0, [zA 11, zA 7, zI x5, zA 28, zU, zU], [], zH S I) (fun w => Wp 100 (78, [zA 0, w1, zA 7, zA 7, zI x4, zI x5, zI x6], w.1.toList ++ [], w.2) Q))) (Wp 13 (0, [zA 25], [], zH S I) (fun w => Wp 100 (119, [zA 0, w1, zA 7, zA 7, zI x4, zI x5, zI x6], w.1.toList ++ [], w.2) Q))) := (WpK_iff [5, 13, 28, 38, 46, 51, 78, 86, 95, 104, 119] 13 100 _ Q).symm
set_option maxRecDepth 100000 in
theorem sg_X5_build_119 (S : PS) (I : Nat → Nat → Int) (w0 : PV) (w1 : PV) (w2 : PV) (w3 : PV) (x4 : Int) (w5 : PV) (w6 : PV) (Q : PV1 → Prop) : Wp 100 (119, [w0, w1, w2, w3, zI x4, w5, w6], [], zH S I) Q ↔ (Q (some (zI x4), zH S I)) := (WpK_iff [5, 13, 28, 38, 46, 51, 78, 86, 95, 104, 119] 2 100 _ Q).symm
set_option maxRecDepth 100000 in
theorem sg_X5_build_78_0_7_7 (S : PS) (I : Nat → Nat → Int) (w1 : PV) (x4 : Int) (x5 : Int) (x6 : Int) (Q : PV1 → Prop) : Wp 100 (78, [zA 0, w1, zA 7, zA 7, zI x4, zI x5, zI x6], [], zH S I) Q ↔ (Wp 66 (0, [zA 7, zA 28, zU], [], zH S I) (fun w => Wp 100 (86, [zA 0, w1, zA 7, zA 7, zI x4, zI x5, zI x6], w.1.toList ++ [], w.2) Q)) := (WpK_iff [5, 13, 28, 38, 46, 51, 78, 86, 95, 104, 119] 4 100 _ Q).symm
set_option maxRecDepth 100000 in
theorem sg_X5_build_86_0_7_7 (S : PS) (I : Nat → Nat → Int) (w1 : PV) (x4 : Int) (x5 : Int) (x6 : Int) (Q : PV1 → Prop) : Wp 100 (86, [zA 0, w1, zA 7, zA 7, zI x4, zI x5, zI x6], [], zH S I) Q ↔ (Wp 15 (0, [zA 28], [], zH S I) (fun w => Wp 100 (95, [zA 0, w1, zA 7, zA 7, zI x4, zI x5, zI x6], w.1.toList ++ [zI x4], w.2) Q)) := (WpK_iff [5, 13, 28, 38, 46, 51, 78, 86, 95, 104, 119] 4 100 _ Q).symm
set_option maxRecDepth 100000 in
theorem sg_X5_build_95_0_7_7 (S : PS) (I : Nat → Nat → Int) (w1 : PV) (w4 : PV) (x5 : Int) (x6 : Int) (y0 : Int) (y1 : Int) (Q : PV1 → Prop) : Wp 100 (95, [zA 0, w1, zA 7, zA 7, w4, zI x5, zI x6], [zI y1, zI y0], zH S I) Q ↔ (Wp 74 (0, [zA 7, zI x5, zU, zU, zU, zU], [], zH S I) (fun w => Wp 100 (104, [zA 0, w1, zA 7, zA 7, zI (zad y0 y1), zI x5, zI x6], w.1.toList ++ [], w.2) Q)) := (WpK_iff [5, 13, 28, 38, 46, 51, 78, 86, 95, 104, 119] 5 100 _ Q).symm
set_option maxRecDepth 100000 in
theorem sg_X5_build_104_0_7_7 (S : PS) (I : Nat → Nat → Int) (w1 : PV) (x4 : Int) (w5 : PV) (x6 : Int) (y0 : Int) (Q : PV1 → Prop) : Wp 100 (104, [zA 0, w1, zA 7, zA 7, zI x4, w5, zI x6], [zI y0], zH S I) Q ↔ (Wp 100 (51, [zA 0, w1, zA 7, zA 7, zI x4, zI y0, zI (zad x6 1)], [], zH S I) Q) := (WpK_iff [5, 13, 28, 38, 46, 51, 78, 86, 95, 104, 119] 3 100 _ Q).symm
set_option maxRecDepth 100000 in
theorem sg_X5_build_13_0_7_9 (S : PS) (I : Nat → Nat → Int) (w1 : PV) (w3 : PV) (w4 : PV) (w5 : PV) (w6 : PV) (Q : PV1 → Prop) : Wp 100 (13, [zA 0, w1, zA 7, w3, w4, w5, w6], [zA 9], zH S I) Q ↔ (Wp 62 (0, [zA 9, zU, zU], [], zH S I) (fun w => Wp 100 (28, [zA 0, w1, zA 7, zA 9, w4, w5, w6], w.1.toList ++ [], w.2) Q)) := (WpK_iff [5, 13, 28, 38, 46, 51, 78, 86, 95, 104, 119] 7 100 _ Q).symm
set_option maxRecDepth 100000 in
theorem sg_X5_build_28_0_7_9 (S : PS) (I : Nat → Nat → Int) (w1 : PV) (w4 : PV) (w5 : PV) (w6 : PV) (y0 : Int) (Q : PV1 → Prop) : Wp 100 (28, [zA 0, w1, zA 7, zA 9, w4, w5, w6], [zI y0], zH S I) Q ↔ (cond (decide (0 < y0)) (Q (some (zI ((-2))), zH S I)) (Wp 111 (0, [zA 0], [], zH S I) (fun w => Wp 100 (38, [zA 0, w1, zA 7, zA 9, w4, w5, w6], w.1.toList ++ [], w.2) Q))) := (WpK_iff [5, 13, 28, 38, 46, 51, 78, 86, 95, 104, 119] 3 100 _ Q).symm
set_option maxRecDepth 100000 in
theorem sg_X5_build_38_0_7_9 (S : PS) (I : Nat → Nat → Int) (w1 : PV) (w4 : PV) (w5 : PV) (w6 : PV) (Q : PV1 → Prop) : Wp 100 (38, [zA 0, w1, zA 7, zA 9, w4, w5, w6], [], zH S I) Q ↔ (Wp 74 (0, [zA 7, zI ((-1)), zU, zU, zU, zU], [], zH S I) (fun w => Wp 100 (46, [zA 0, w1, zA 7, zA 9, zI 0, w5, w6], w.1.toList ++ [], w.2) Q)) := (WpK_iff [5, 13, 28, 38, 46, 51, 78, 86, 95, 104, 119] 5 100 _ Q).symm
set_option maxRecDepth 100000 in
theorem sg_X5_build_46_0_7_9 (S : PS) (I : Nat → Nat → Int) (w1 : PV) (x4 : Int) (w5 : PV) (w6 : PV) (y0 : Int) (Q : PV1 → Prop) : Wp 100 (46, [zA 0, w1, zA 7, zA 9, zI x4, w5, w6], [zI y0], zH S I) Q ↔ (Wp 100 (51, [zA 0, w1, zA 7, zA 9, zI x4, zI y0, zI 0], [], zH S I) Q) := (WpK_iff [5, 13, 28, 38, 46, 51, 78, 86, 95, 104, 119] 3 100 _ Q).symm
set_option maxRecDepth 100000 in
theorem sg_X5_build_51_0_7_9 (S : PS) (I : Nat → Nat → Int) (w1 : PV) (x4 : Int) (x5 : Int) (x6 : Int) (Q : PV1 → Prop) : Wp 100 (51, [zA 0, w1, zA 7, zA 9, zI x4, zI x5, zI x6], [], zH S I) Q ↔ (cond (decide (x6 < 6)) (cond (decide (x5 = (-1))) (Wp 13 (0, [zA 25], [], zH S I) (fun w => Wp 100 (119, [zA 0, w1, zA 7, zA 9, zI x4, zI x5, zI x6], w.1.toList ++ [], w.2) Q)) (Wp 39 (0, [zA 11, zA 9, zI x5, zA 28, zU, zU], [], zH S I) (fun w => Wp 100 (78, [zA 0, w1, zA 7, zA 9, zI x4, zI x5, zI x6], w.1.toList ++ [], w.2) Q))) (Wp 13 (0, [zA 25], [], zH S I) (fun w => Wp 100 (119, [zA 0, w1, zA 7, zA 9, zI x4, zI x5, zI x6], w.1.toList ++ [], w.2) Q))) := (WpK_iff [5, 13, 28, 38, 46, 51, 78, 86, 95, 104, 119] 13 100 _ Q).symm
set_option maxRecDepth 100000 in
theorem sg_X5_build_78_0_7_9 (S : PS) (I : Nat → Nat → Int) (w1 : PV) (x4 : Int) (x5 : Int) (x6 : Int) (Q : PV1 → Prop) : Wp 100 (78, [zA 0, w1, zA 7, zA 9, zI x4, zI x5, zI x6], [], zH S I) Q ↔ (Wp 66 (0, [zA 9, zA 28, zU], [], zH S I) (fun w => Wp 100 (86, [zA 0, w1, zA 7, zA 9, zI x4, zI x5, zI x6], w.1.toList ++ [], w.2) Q)) := (WpK_iff [5, 13, 28, 38, 46, 51, 78, 86, 95, 104, 119] 4 100 _ Q).symm
set_option maxRecDepth 100000 in
theorem sg_X5_build_86_0_7_9 (S : PS) (I : Nat → Nat → Int) (w1 : PV) (x4 : Int) (x5 : Int) (x6 : Int) (Q : PV1 → Prop) : Wp 100 (86, [zA 0, w1, zA 7, zA 9, zI x4, zI x5, zI x6], [], zH S I) Q ↔ (Wp 15 (0, [zA 28], [], zH S I) (fun w => Wp 100 (95, [zA 0, w1, zA 7, zA 9, zI x4, zI x5, zI x6], w.1.toList ++ [zI x4], w.2) Q)) := (WpK_iff [5, 13, 28, 38, 46, 51, 78, 86, 95, 104, 119] 4 100 _ Q).symm
set_option maxRecDepth 100000 in
theorem sg_X5_build_95_0_7_9 (S : PS) (I : Nat → Nat → Int) (w1 : PV) (w4 : PV) (x5 : Int) (x6 : Int) (y0 : Int) (y1 : Int) (Q : PV1 → Prop) : Wp 100 (95, [zA 0, w1, zA 7, zA 9, w4, zI x5, zI x6], [zI y1, zI y0], zH S I) Q ↔ (Wp 74 (0, [zA 7, zI x5, zU, zU, zU, zU], [], zH S I) (fun w => Wp 100 (104, [zA 0, w1, zA 7, zA 9, zI (zad y0 y1), zI x5, zI x6], w.1.toList ++ [], w.2) Q)) := (WpK_iff [5, 13, 28, 38, 46, 51, 78, 86, 95, 104, 119] 5 100 _ Q).symm
set_option maxRecDepth 100000 in
theorem sg_X5_build_104_0_7_9 (S : PS) (I : Nat → Nat → Int) (w1 : PV) (x4 : Int) (w5 : PV) (x6 : Int) (y0 : Int) (Q : PV1 → Prop) : Wp 100 (104, [zA 0, w1, zA 7, zA 9, zI x4, w5, zI x6], [zI y0], zH S I) Q ↔ (Wp 100 (51, [zA 0, w1, zA 7, zA 9, zI x4, zI y0, zI (zad x6 1)], [], zH S I) Q) := (WpK_iff [5, 13, 28, 38, 46, 51, 78, 86, 95, 104, 119] 3 100 _ Q).symm
set_option maxRecDepth 100000 in
theorem sg_X5_build_5_0_9 (S : PS) (I : Nat → Nat → Int) (x1 : Int) (w2 : PV) (w3 : PV) (w4 : PV) (w5 : PV) (w6 : PV) (Q : PV1 → Prop) : Wp 100 (5, [zA 0, zI x1, w2, w3, w4, w5, w6], [zA 9], zH S I) Q ↔ (Wp 106 (0, [zA 0, zI (zsb 1 x1)], [], zH S I) (fun w => Wp 100 (13, [zA 0, zI x1, zA 9, w3, w4, w5, w6], w.1.toList ++ [], w.2) Q)) := (WpK_iff [5, 13, 28, 38, 46, 51, 78, 86, 95, 104, 119] 6 100 _ Q).symm
set_option maxRecDepth 100000 in
theorem sg_X5_build_13_0_9_n (S : PS) (I : Nat → Nat → Int) (w1 : PV) (w3 : PV) (w4 : PV) (w5 : PV) (w6 : PV) (Q : PV1 → Prop) : Wp 100 (13, [zA 0, w1, zA 9, w3, w4, w5, w6], [zR none], zH S I) Q ↔ (Q (some (zI ((-1))), zH S I)) := (WpK_iff [5, 13, 28, 38, 46, 51, 78, 86, 95, 104, 119] 7 100 _ Q).symm
set_option maxRecDepth 100000 in
theorem sg_X5_build_13_0_9_7 (S : PS) (I : Nat → Nat → Int) (w1 : PV) (w3 : PV) (w4 : PV) (w5 : PV) (w6 : PV) (Q : PV1 → Prop) : Wp 100 (13, [zA 0, w1, zA 9, w3, w4, w5, w6], [zA 7], zH S I) Q ↔ (Wp 62 (0, [zA 7, zU, zU], [], zH S I) (fun w => Wp 100 (28, [zA 0, w1, zA 9, zA 7, w4, w5, w6], w.1.toList ++ [], w.2) Q)) := (WpK_iff [5, 13, 28, 38, 46, 51, 78, 86, 95, 104, 119] 7 100 _ Q).symm
set_option maxRecDepth 100000 in
theorem sg_X5_build_28_0_9_7 (S : PS) (I : Nat → Nat → Int) (w1 : PV) (w4 : PV) (w5 : PV) (w6 : PV) (y0 : Int) (Q : PV1 → Prop) : Wp 100 (28, [zA 0, w1, zA 9, zA 7, w4, w5, w6], [zI y0], zH S I) Q ↔ (cond (decide (0 < y0)) (Q (some (zI ((-2))), zH S I)) (Wp 111 (0, [zA 0], [], zH S I) (fun w => Wp 100 (38, [zA 0, w1, zA 9, zA 7, w4, w5, w6], w.1.toList ++ [], w.2) Q))) := (WpK_iff [5, 13, 28, 38, 46, 51, 78, 86, 95, 104, 119] 3 100 _ Q).symm
set_option maxRecDepth 100000 in
theorem sg_X5_build_38_0_9_7 (S : PS) (I : Nat → Nat → Int) (w1 : PV) (w4 : PV) (w5 : PV) (w6 : PV) (Q : PV1 → Prop) : Wp 100 (38, [zA 0, w1, zA 9, zA 7, w4, w5, w6], [], zH S I) Q ↔ (Wp 74 (0, [zA 9, zI ((-1)), zU, zU, zU, zU], [], zH S I) (fun w => Wp 100 (46, [zA 0, w1, zA 9, zA 7, zI 0, w5, w6], w.1.toList ++ [], w.2) Q)) := (WpK_iff [5, 13, 28, 38, 46, 51, 78, 86, 95, 104, 119] 5 100 _ Q).symm
set_option maxRecDepth 100000 in
theorem sg_X5_build_46_0_9_7 (S : PS) (I : Nat → Nat → Int) (w1 : PV) (x4 : Int) (w5 : PV) (w6 : PV) (y0 : Int) (Q : PV1 → Prop) : Wp 100 (46, [zA 0, w1, zA 9, zA 7, zI x4, w5, w6], [zI y0], zH S I) Q ↔ (Wp 100 (51, [zA 0, w1, zA 9, zA 7, zI x4, zI y0, zI 0], [], zH S I) Q) := (WpK_iff [5, 13, 28, 38, 46, 51, 78, 86, 95, 104, 119] 3 100 _ Q).symm
set_option maxRecDepth 100000 in
theorem sg_X5_build_51_0_9_7 (S : PS) (I : Nat → Nat → Int) (w1 : PV) (x4 : Int) (x5 : Int) (x6 : Int) (Q : PV1 → Prop) : Wp 100 (51, [zA 0, w1, zA 9, zA 7, zI x4, zI x5, zI x6], [], zH S I) Q ↔ (cond (decide (x6 < 6)) (cond (decide (x5 = (-1))) (Wp 13 (0, [zA 25], [], zH S I) (fun w => Wp 100 (119, [zA 0, w1, zA 9, zA 7, zI x4, zI x5, zI x6], w.1.toList ++ [], w.2) Q)) (Wp 39 (0, [zA 11, zA 7, zI x5, zA 28, zU, zU], [], zH S I) (fun w => Wp 100 (78, [zA 0, w1, zA 9, zA 7, zI x4, zI x5, zI x6], w.1.toList ++ [], w.2) Q))) (Wp 13 (0, [zA 25], [], zH S I) (fun w => Wp 100 (119, [zA 0, w1, zA 9, zA 7, zI x4, zI x5, zI x6], w.1.toList ++ [], w.2) Q))) := (WpK_iff [5, 13, 28, 38, 46, 51, 78, 86, 95, 104, 119] 13 100 _ Q).symm
set_option maxRecDepth 100000 in
theorem sg_X5_build_78_0_9_7 (S : PS) (I : Nat → Nat → Int) (w1 : PV) (x4 : Int) (x5 : Int) (x6 : Int) (Q : PV1 → Prop) : Wp 100 (78, [zA 0, w1, zA 9, zA 7, zI x4, zI x5, zI x6], [], zH S I) Q ↔ (Wp 66 (0, [zA 7, zA 28, zU], [], zH S I) (fun w => Wp 100 (86, [zA 0, w1, zA 9, zA 7, zI x4, zI x5, zI x6], w.1.toList ++ [], w.2) Q)) := (WpK_iff [5, 13, 28, 38, 46, 51, 78, 86, 95, 104, 119] 4 100 _ Q).symm
set_option maxRecDepth 100000 in
theorem sg_X5_build_86_0_9_7 (S : PS) (I : Nat → Nat → Int) (w1 : PV) (x4 : Int) (x5 : Int) (x6 : Int) (Q : PV1 → Prop) : Wp 100 (86, [zA 0, w1, zA 9, zA 7, zI x4, zI x5, zI x6], [], zH S I) Q ↔ (Wp 15 (0, [zA 28], [], zH S I) (fun w => Wp 100 (95, [zA 0, w1, zA 9, zA 7, zI x4, zI x5, zI x6], w.1.toList ++ [zI x4], w.2) Q)) := (WpK_iff [5, 13, 28, 38, 46, 51, 78, 86, 95, 104, 119] 4 100 _ Q).symm
set_option maxRecDepth 100000 in
theorem sg_X5_build_95_0_9_7 (S : PS) (I : Nat → Nat → Int) (w1 : PV) (w4 : PV) (x5 : Int) (x6 : Int) (y0 : Int) (y1 : Int) (Q : PV1 → Prop) : Wp 100 (95, [zA 0, w1, zA 9, zA 7, w4, zI x5, zI x6], [zI y1, zI y0], zH S I) Q ↔ (Wp 74 (0, [zA 9, zI x5, zU, zU, zU, zU], [], zH S I) (fun w => Wp 100 (104, [zA 0, w1, zA 9, zA 7, zI (zad y0 y1), zI x5, zI x6], w.1.toList ++ [], w.2) Q)) := (WpK_iff [5, 13, 28, 38, 46, 51, 78, 86, 95, 104, 119] 5 100 _ Q).symm
set_option maxRecDepth 100000 in
theorem sg_X5_build_104_0_9_7 (S : PS) (I : Nat → Nat → Int) (w1 : PV) (x4 : Int) (w5 : PV) (x6 : Int) (y0 : Int) (Q : PV1 → Prop) : Wp 100 (104, [zA 0, w1, zA 9, zA 7, zI x4, w5, zI x6], [zI y0], zH S I) Q ↔ (Wp 100 (51, [zA 0, w1, zA 9, zA 7, zI x4, zI y0, zI (zad x6 1)], [], zH S I) Q) := (WpK_iff [5, 13, 28, 38, 46, 51, 78, 86, 95, 104, 119] 3 100 _ Q).symm
set_option maxRecDepth 100000 in
theorem sg_X5_build_13_0_9_9 (S : PS) (I : Nat → Nat → Int) (w1 : PV) (w3 : PV) (w4 : PV) (w5 : PV) (w6 : PV) (Q : PV1 → Prop) : Wp 100 (13, [zA 0, w1, zA 9, w3, w4, w5, w6], [zA 9], zH S I) Q ↔ (Wp 62 (0, [zA 9, zU, zU], [], zH S I) (fun w => Wp 100 (28, [zA 0, w1, zA 9, zA 9, w4, w5, w6], w.1.toList ++ [], w.2) Q)) := (WpK_iff [5, 13, 28, 38, 46, 51, 78, 86, 95, 104, 119] 7 100 _ Q).symm
set_option maxRecDepth 100000 in
theorem sg_X5_build_28_0_9_9 (S : PS) (I : Nat → Nat → Int) (w1 : PV) (w4 : PV) (w5 : PV) (w6 : PV) (y0 : Int) (Q : PV1 → Prop) : Wp 100 (28, [zA 0, w1, zA 9, zA 9, w4, w5, w6], [zI y0], zH S I) Q ↔ (cond (decide (0 < y0)) (Q (some (zI ((-2))), zH S I)) (Wp 111 (0, [zA 0], [], zH S I) (fun w => Wp 100 (38, [zA 0, w1, zA 9, zA 9, w4, w5, w6], w.1.toList ++ [], w.2) Q))) := (WpK_iff [5, 13, 28, 38, 46, 51, 78, 86, 95, 104, 119] 3 100 _ Q).symm
set_option maxRecDepth 100000 in
theorem sg_X5_build_38_0_9_9 (S : PS) (I : Nat → Nat → Int) (w1 : PV) (w4 : PV) (w5 : PV) (w6 : PV) (Q : PV1 → Prop) : Wp 100 (38, [zA 0, w1, zA 9, zA 9, w4, w5, w6], [], zH S I) Q ↔ (Wp 74 (0, [zA 9, zI ((-1)), zU, zU, zU, zU], [], zH S I) (fun w => Wp 100 (46, [zA 0, w1, zA 9, zA 9, zI 0, w5, w6], w.1.toList ++ [], w.2) Q)) := (WpK_iff [5, 13, 28, 38, 46, 51, 78, 86, 95, 104, 119] 5 100 _ Q).symm
set_option maxRecDepth 100000 in
theorem sg_X5_build_46_0_9_9 (S : PS) (I : Nat → Nat → Int) (w1 : PV) (x4 : Int) (w5 : PV) (w6 : PV) (y0 : Int) (Q : PV1 → Prop) : Wp 100 (46, [zA 0, w1, zA 9, zA 9, zI x4, w5, w6], [zI y0], zH S I) Q ↔ (Wp 100 (51, [zA 0, w1, zA 9, zA 9, zI x4, zI y0, zI 0], [], zH S I) Q) := (WpK_iff [5, 13, 28, 38, 46, 51, 78, 86, 95, 104, 119] 3 100 _ Q).symm
set_option maxRecDepth 100000 in
theorem sg_X5_build_51_0_9_9 (S : PS) (I : Nat → Nat → Int) (w1 : PV) (x4 : Int) (x5 : Int) (x6 : Int) (Q : PV1 → Prop) : Wp 100 (51, [zA 0, w1, zA 9, zA 9, zI x4, zI x5, zI x6], [], zH S I) Q ↔ (cond (decide (x6 < 6)) (cond (decide (x5 = (-1))) (Wp 13 (0, [zA 25], [], zH S I) (fun w => Wp 100 (119, [zA 0, w1, zA 9, zA 9, zI x4, zI x5, zI x6], w.1.toList ++ [], w.2) Q)) (Wp 39 (0, [zA 11, zA 9, zI x5, zA 28, zU, zU], [], zH S I) (fun w => Wp 100 (78, [zA 0, w1, zA 9, zA 9, zI x4, zI x5, zI x6], w.1.toList ++ [], w.2) Q))) (Wp 13 (0, [zA 25], [], zH S I) (fun w => Wp 100 (119, [zA 0, w1, zA 9, zA 9, zI x4, zI x5, zI x6], w.1.toList ++ [], w.2) Q))) := (WpK_iff [5, 13, 28, 38, 46, 51, 78, 86, 95, 104, 119] 13 100 _ Q).symm
set_option maxRecDepth 100000 in
theorem sg_X5_build_78_0_9_9 (S : PS) (I : Nat → Nat → Int) (w1 : PV) (x4 : Int) (x5 : Int) (x6 : Int) (Q : PV1 → Prop) : Wp 100 (78, [zA 0, w1, zA 9, zA 9, zI x4, zI x5, zI x6], [], zH S I) Q ↔ (Wp 66 (0, [zA 9, zA 28, zU], [], zH S I) (fun w => Wp 100 (86, [zA 0, w1, zA 9, zA 9, zI x4, zI x5, zI x6], w.1.toList ++ [], w.2) Q)) := (WpK_iff [5, 13, 28, 38, 46, 51, 78, 86, 95, 104, 119] 4 100 _ Q).symm
set_option maxRecDepth 100000 in
theorem sg_X5_build_86_0_9_9 (S : PS) (I : Nat → Nat → Int) (w1 : PV) (x4 : Int) (x5 : Int) (x6 : Int) (Q : PV1 → Prop) : Wp 100 (86, [zA 0, w1, zA 9, zA 9, zI x4, zI x5, zI x6], [], zH S I) Q ↔ (Wp 15 (0, [zA 28], [], zH S I) (fun w => Wp 100 (95, [zA 0, w1, zA 9, zA 9, zI x4, zI x5, zI x6], w.1.toList ++ [zI x4], w.2) Q)) := (WpK_iff [5, 13, 28, 38, 46, 51, 78, 86, 95, 104, 119] 4 100 _ Q).symm
set_option maxRecDepth 100000 in
theorem sg_X5_build_95_0_9_9 (S : PS) (I : Nat → Nat → Int) (w1 : PV) (w4 : PV) (x5 : Int) (x6 : Int) (y0 : Int) (y1 : Int) (Q : PV1 → Prop) : Wp 100 (95, [zA 0, w1, zA 9, zA 9, w4, zI x5, zI x6], [zI y1, zI y0], zH S I) Q ↔ (Wp 74 (0, [zA 9, zI x5, zU, zU, zU, zU], [], zH S I) (fun w => Wp 100 (104, [zA 0, w1, zA 9, zA 9, zI (zad y0 y1), zI x5, zI x6], w.1.toList ++ [], w.2) Q)) := (WpK_iff [5, 13, 28, 38, 46, 51, 78, 86, 95, 104, 119] 5 100 _ Q).symm
set_option maxRecDepth 100000 in
theorem sg_X5_build_104_0_9_9 (S : PS) (I : Nat → Nat → Int) (w1 : PV) (x4 : Int) (w5 : PV) (x6 : Int) (y0 : Int) (Q : PV1 → Prop) : Wp 100 (104, [zA 0, w1, zA 9, zA 9, zI x4, w5, zI x6], [zI y0], zH S I) Q ↔ (Wp 100 (51, [zA 0, w1, zA 9, zA 9, zI x4, zI y0, zI (zad x6 1)], [], zH S I) Q) := (WpK_iff [5, 13, 28, 38, 46, 51, 78, 86, 95, 104, 119] 3 100 _ Q).symm
set_option maxRecDepth 100000 in
theorem sg_X5_undo_0_0 (S : PS) (I : Nat → Nat → Int)  (Q : PV1 → Prop) : Wp 101 (0, [zA 0], [], zH S I) Q ↔ (Wp 2 (0, [zA 19], [], zH S I) (fun w => Wp 101 (7, [zA 0], w.1.toList ++ [], w.2) Q)) := (WpK_iff [7, 24, 27, 38, 41, 49, 59, 74, 81, 84, 91, 98, 105] 3 101 _ Q).symm
set_option maxRecDepth 100000 in
theorem sg_X5_undo_7_0 (S : PS) (I : Nat → Nat → Int) (y0 : Int) (Q : PV1 → Prop) : Wp 101 (7, [zA 0], [zI y0], zH S I) Q ↔ (cond (decide (y0 = 0)) (Q (some (zI ((-2))), zH S I)) (Wp 7 (0, [zA 19], [], zH S I) (fun w => Wp 101 (24, [zA 0], w.1.toList ++ [zA 7], w.2) Q))) := (WpK_iff [7, 24, 27, 38, 41, 49, 59, 74, 81, 84, 91, 98, 105] 6 101 _ Q).symm
set_option maxRecDepth 100000 in
theorem sg_X5_undo_24_0_7 (S : PS) (I : Nat → Nat → Int) (y1 : Int) (Q : PV1 → Prop) : Wp 101 (24, [zA 0], [zI y1, zA 7], zH S I) Q ↔ (Wp 76 (0, [zA 7, zI y1, zU, zU], [], zH S I) (fun w => Wp 101 (27, [zA 0], w.1.toList ++ [], w.2) Q)) := (WpK_iff [7, 24, 27, 38, 41, 49, 59, 74, 81, 84, 91, 98, 105] 1 101 _ Q).symm
set_option maxRecDepth 100000 in
theorem sg_X5_undo_27_0 (S : PS) (I : Nat → Nat → Int)  (Q : PV1 → Prop) : Wp 101 (27, [zA 0], [], zH S I) Q ↔ (Wp 8 (0, [zA 19], [], zH S I) (fun w => Wp 101 (38, [zA 0], w.1.toList ++ [zA 9], w.2) Q)) := (WpK_iff [7, 24, 27, 38, 41, 49, 59, 74, 81, 84, 91, 98, 105] 5 101 _ Q).symm
set_option maxRecDepth 100000 in
theorem sg_X5_undo_38_0_9 (S : PS) (I : Nat → Nat → Int) (y1 : Int) (Q : PV1 → Prop) : Wp 101 (38, [zA 0], [zI y1, zA 9], zH S I) Q ↔ (Wp 76 (0, [zA 9, zI y1, zU, zU], [], zH S I) (fun w => Wp 101 (41, [zA 0], w.1.toList ++ [], w.2) Q)) := (WpK_iff [7, 24, 27, 38, 41, 49, 59, 74, 81, 84, 91, 98, 105] 1 101 _ Q).symm
set_option maxRecDepth 100000 in
theorem sg_X5_undo_41_0 (S : PS) (I : Nat → Nat → Int)  (Q : PV1 → Prop) : Wp 101 (41, [zA 0], [], zH S I) Q ↔ (Wp 9 (0, [zA 19], [], zH S I) (fun w => Wp 101 (49, [zA 0], w.1.toList ++ [zA 0], w.2) Q)) := (WpK_iff [7, 24, 27, 38, 41, 49, 59, 74, 81, 84, 91, 98, 105] 4 101 _ Q).symm
set_option maxRecDepth 100000 in
theorem sg_X5_undo_49_0_0 (S : PS) (I : Nat → Nat → Int) (y1 : Int) (Q : PV1 → Prop) : Wp 101 (49, [zA 0], [zI y1, zA 0], zH S I) Q ↔ (Wp 10 (0, [zA 19], [], zH S (zs2 I 0 8 y1)) (fun w => Wp 101 (59, [zA 0], w.1.toList ++ [], w.2) Q)) := (WpK_iff [7, 24, 27, 38, 41, 49, 59, 74, 81, 84, 91, 98, 105] 4 101 _ Q).symm
set_option maxRecDepth 100000 in
theorem sg_X5_undo_59_0 (S : PS) (I : Nat → Nat → Int) (y0 : Int) (Q : PV1 → Prop) : Wp 101 (59, [zA 0], [zI y0], zH S I) Q ↔ (cond (decide (y0 = (-1))) (Wp 101 (84, [zA 0], [], zH S I) Q) (Wp 10 (0, [zA 19], [], zH S I) (fun w => Wp 101 (74, [zA 0], w.1.toList ++ [zA 1], w.2) Q))) := (WpK_iff [7, 24, 27, 38, 41, 49, 59, 74, 81, 84, 91, 98, 105] 7 101 _ Q).symm
set_option maxRecDepth 100000 in
theorem sg_X5_undo_84_0 (S : PS) (I : Nat → Nat → Int)  (Q : PV1 → Prop) : Wp 101 (84, [zA 0], [], zH S I) Q ↔ (Wp 4 (0, [zA 19], [], zH S I) (fun w => Wp 101 (91, [zA 0], w.1.toList ++ [], w.2) Q)) := (WpK_iff [7, 24, 27, 38, 41, 49, 59, 74, 81, 84, 91, 98, 105] 3 101 _ Q).symm
set_option maxRecDepth 100000 in
theorem sg_X5_undo_91_0 (S : PS) (I : Nat → Nat → Int)  (Q : PV1 → Prop) : Wp 101 (91, [zA 0], [], zH S I) Q ↔ (Wp 13 (0, [zA 25], [], zH S I) (fun w => Wp 101 (98, [zA 0], w.1.toList ++ [], w.2) Q)) := (WpK_iff [7, 24, 27, 38, 41, 49, 59, 74, 81, 84, 91, 98, 105] 3 101 _ Q).symm
set_option maxRecDepth 100000 in
theorem sg_X5_undo_98_0 (S : PS) (I : Nat → Nat → Int)  (Q : PV1 → Prop) : Wp 101 (98, [zA 0], [], zH S I) Q ↔ (Wp 2 (0, [zA 19], [], zH S I) (fun w => Wp 101 (105, [zA 0], w.1.toList ++ [], w.2) Q)) := (WpK_iff [7, 24, 27, 38, 41, 49, 59, 74, 81, 84, 91, 98, 105] 3 101 _ Q).symm
set_option maxRecDepth 100000 in
theorem sg_X5_undo_105 (S : PS) (I : Nat → Nat → Int) (w0 : PV) (y0 : Int) (Q : PV1 → Prop) : Wp 101 (105, [w0], [zI y0], zH S I) Q ↔ (Q (some (zI y0), zH S I)) := (WpK_iff [7, 24, 27, 38, 41, 49, 59, 74, 81, 84, 91, 98, 105] 1 101 _ Q).symm
set_option maxRecDepth 100000 in
theorem sg_X5_undo_74_0_1 (S : PS) (I : Nat → Nat → Int) (y1 : Int) (Q : PV1 → Prop) : Wp 101 (74, [zA 0], [zI y1, zA 1], zH S I) Q ↔ (Wp 11 (0, [zA 19], [], zH S I) (fun w => Wp 101 (81, [zA 0], w.1.toList ++ [zI y1, zA 1], w.2) Q)) := (WpK_iff [7, 24, 27, 38, 41, 49, 59, 74, 81, 84, 91, 98, 105] 3 101 _ Q).symm
set_option maxRecDepth 100000 in
theorem sg_X5_undo_81_0_1 (S : PS) (I : Nat → Nat → Int) (y1 : Int) (y2 : Int) (Q : PV1 → Prop) : Wp 101 (81, [zA 0], [zI y2, zI y1, zA 1], zH S I) Q ↔ (Wp 27 (0, [zA 1, zI y1, zI y2], [], zH S I) (fun w => Wp 101 (84, [zA 0], w.1.toList ++ [], w.2) Q)) := (WpK_iff [7, 24, 27, 38, 41, 49, 59, 74, 81, 84, 91, 98, 105] 1 101 _ Q).symm
set_option maxRecDepth 100000 in
theorem sg_X5_count_0_0 (S : PS) (I : Nat → Nat → Int) (x1 : Int) (Q : PV1 → Prop) : Wp 102 (0, [zA 0, zI x1], [], zH S I) Q ↔ (cond (decide (x1 = 0)) (Wp 24 (0, [zA 1, zU, zU], [], zH S I) (fun w => Wp 102 (49, [zA 0, zI x1], w.1.toList ++ [zI 16], w.2) Q)) (cond (decide (x1 = 1)) (Wp 62 (0, [zA 7, zU, zU], [], zH S I) (fun w => Wp 102 (58, [zA 0, zI x1], w.1.toList ++ [], w.2) Q)) (cond (decide (x1 = 2)) (Wp 62 (0, [zA 9, zU, zU], [], zH S I) (fun w => Wp 102 (66, [zA 0, zI x1], w.1.toList ++ [], w.2) Q)) (cond (decide (x1 = 3)) (Wp 57 (0, [zA 7], [], zH S I) (fun w => Wp 102 (74, [zA 0, zI x1], w.1.toList ++ [], w.2) Q)) (cond (decide (x1 = 4)) (Q (some (zI (I 0 8)), zH S I)) (cond (decide (x1 = 5)) (Wp 2 (0, [zA 19], [], zH S I) (fun w => Wp 102 (87, [zA 0, zI x1], w.1.toList ++ [], w.2) Q)) (Q (some (zI ((-1))), zH S I)))))))) := (WpK_iff [49, 58, 66, 74, 87] 6 102 _ Q).symm
set_option maxRecDepth 100000 in
theorem sg_X5_count_49 (S : PS) (I : Nat → Nat → Int) (w0 : PV) (w1 : PV) (y0 : Int) (y1 : Int) (Q : PV1 → Prop) : Wp 102 (49, [w0, w1], [zI y1, zI y0], zH S I) Q ↔ (Q (some (zI (zsb y0 y1)), zH S I)) := (WpK_iff [49, 58, 66, 74, 87] 2 102 _ Q).symm
set_option maxRecDepth 100000 in
theorem sg_X5_count_58 (S : PS) (I : Nat → Nat → Int) (w0 : PV) (w1 : PV) (y0 : Int) (Q : PV1 → Prop) : Wp 102 (58, [w0, w1], [zI y0], zH S I) Q ↔ (Q (some (zI y0), zH S I)) := (WpK_iff [49, 58, 66, 74, 87] 1 102 _ Q).symm
set_option maxRecDepth 100000 in
theorem sg_X5_count_66 (S : PS) (I : Nat → Nat → Int) (w0 : PV) (w1 : PV) (y0 : Int) (Q : PV1 → Prop) : Wp 102 (66, [w0, w1], [zI y0], zH S I) Q ↔ (Q (some (zI y0), zH S I)) := (WpK_iff [49, 58, 66, 74, 87] 1 102 _ Q).symm
set_option maxRecDepth 100000 in
theorem sg_X5_count_74 (S : PS) (I : Nat → Nat → Int) (w0 : PV) (w1 : PV) (y0 : Int) (Q : PV1 → Prop) : Wp 102 (74, [w0, w1], [zI y0], zH S I) Q ↔ (Q (some (zI y0), zH S I)) := (WpK_iff [49, 58, 66, 74, 87] 1 102 _ Q).symm
set_option maxRecDepth 100000 in
theorem sg_X5_count_87 (S : PS) (I : Nat → Nat → Int) (w0 : PV) (w1 : PV) (y0 : Int) (Q : PV1 → Prop) : Wp 102 (87, [w0, w1], [zI y0], zH S I) Q ↔ (Q (some (zI y0), zH S I)) := (WpK_iff [49, 58, 66, 74, 87] 1 102 _ Q).symm
set_option maxRecDepth 100000 in
theorem sg_X5_isKey_0 (S : PS) (I : Nat → Nat → Int) (x0 : Int) (Q : PV1 → Prop) : Wp 103 (0, [zI x0], [], zH S I) Q ↔ (cond (decide (x0 < 0)) (cond (zbb 0) (Q (some (zI 0), zH S I)) False) (cond (decide (x0 < 32)) (cond (zbb 1) (Q (some (zI 1), zH S I)) False) (cond (zbb 0) (Q (some (zI 0), zH S I)) False))) := (WpK_iff [] 8 103 _ Q).symm
set_option maxRecDepth 100000 in
theorem sg_X5_isRank_0 (S : PS) (I : Nat → Nat → Int) (x0 : Int) (Q : PV1 → Prop) : Wp 104 (0, [zI x0], [], zH S I) Q ↔ (cond (decide (x0 < 0)) (cond (zbb 0) (Q (some (zI 0), zH S I)) False) (cond (decide (x0 < 100)) (cond (zbb 1) (Q (some (zI 1), zH S I)) False) (cond (zbb 0) (Q (some (zI 0), zH S I)) False))) := (WpK_iff [] 8 104 _ Q).symm
set_option maxRecDepth 100000 in
theorem sg_X5_isAct_0 (S : PS) (I : Nat → Nat → Int) (x0 : Int) (Q : PV1 → Prop) : Wp 105 (0, [zI x0], [], zH S I) Q ↔ (cond (decide (x0 < 0)) (cond (zbb 0) (Q (some (zI 0), zH S I)) False) (cond (decide (x0 < 16)) (cond (zbb 1) (Q (some (zI 1), zH S I)) False) (cond (zbb 0) (Q (some (zI 0), zH S I)) False))) := (WpK_iff [] 8 105 _ Q).symm
set_option maxRecDepth 100000 in
theorem sg_X5_ruleMade_0_0 (S : PS) (I : Nat → Nat → Int) (x1 : Int) (x2 : Int) (x3 : Int) (x4 : Int) (x5 : Int) (w6 : PV) (Q : PV1 → Prop) : Wp 107 (0, [zA 0, zI x1, zI x2, zI x3, zI x4, zI x5, w6], [], zH S I) Q ↔ (Wp 25 (0, [zA 1, zU], [], zH S I) (fun w => Wp 107 (7, [zA 0, zI x1, zI x2, zI x3, zI x4, zI x5, w6], w.1.toList ++ [], w.2) Q)) := (WpK_iff [7, 34] 3 107 _ Q).symm
set_option maxRecDepth 100000 in
theorem sg_X5_ruleMade_7_0 (S : PS) (I : Nat → Nat → Int) (x1 : Int) (x2 : Int) (x3 : Int) (x4 : Int) (x5 : Int) (w6 : PV) (y0 : Int) (Q : PV1 → Prop) : Wp 107 (7, [zA 0, zI x1, zI x2, zI x3, zI x4, zI x5, w6], [zI y0], zH S I) Q ↔ (cond (decide (y0 = (-1))) (Q (some (zI ((-3))), zH S I)) (Wp 26 (0, [zA 1, zI y0, zI x1, zI x2, zI x3, zI x4, zI x5], [], zH S I) (fun w => Wp 107 (34, [zA 0, zI x1, zI x2, zI x3, zI x4, zI x5, zI y0], w.1.toList ++ [], w.2) Q))) := (WpK_iff [7, 34] 13 107 _ Q).symm
set_option maxRecDepth 100000 in
theorem sg_X5_ruleMade_34 (S : PS) (I : Nat → Nat → Int) (w0 : PV) (w1 : PV) (w2 : PV) (w3 : PV) (w4 : PV) (w5 : PV) (x6 : Int) (Q : PV1 → Prop) : Wp 107 (34, [w0, w1, w2, w3, w4, w5, zI x6], [], zH S I) Q ↔ (Q (some (zI x6), zH S I)) := (WpK_iff [7, 34] 2 107 _ Q).symm
set_option maxRecDepth 100000 in
theorem sg_X5_rowsOfSpan_0 (S : PS) (I : Nat → Nat → Int) (x0 : Int) (x1 : Int) (w2 : PV) (w3 : PV) (w4 : PV) (Q : PV1 → Prop) : Wp 109 (0, [zI x0, zI x1, w2, w3, w4], [], zH S I) Q ↔ (Wp 109 (7, [zI x0, zI x1, zI 0, zI x0, zI 0], [], zH S I) Q) := (WpK_iff [7, 25] 6 109 _ Q).symm
set_option maxRecDepth 100000 in
theorem sg_X5_rowsOfSpan_7 (S : PS) (I : Nat → Nat → Int) (w0 : PV) (x1 : Int) (x2 : Int) (x3 : Int) (x4 : Int) (Q : PV1 → Prop) : Wp 109 (7, [w0, zI x1, zI x2, zI x3, zI x4], [], zH S I) Q ↔ (cond (decide (x4 < 32)) (cond (decide (x1 < x3)) (Q (some (zI x2), zH S I)) (Wp 108 (0, [zI x3, zI x1, zU, zU, zU], [], zH S I) (fun w => Wp 109 (25, [w0, zI x1, zI x2, zI x3, zI x4], w.1.toList ++ [zI x3], w.2) Q))) (Q (some (zI x2), zH S I))) := (WpK_iff [7, 25] 10 109 _ Q).symm
set_option maxRecDepth 100000 in
theorem sg_X5_rowsOfSpan_25 (S : PS) (I : Nat → Nat → Int) (w0 : PV) (x1 : Int) (x2 : Int) (w3 : PV) (x4 : Int) (y0 : Int) (y1 : Int) (Q : PV1 → Prop) : Wp 109 (25, [w0, zI x1, zI x2, w3, zI x4], [zI y1, zI y0], zH S I) Q ↔ (Wp 109 (7, [w0, zI x1, zI (zad x2 1), zI (zad y0 y1), zI (zad x4 1)], [], zH S I) Q) := (WpK_iff [7, 25] 5 109 _ Q).symm
set_option maxRecDepth 100000 in
theorem sg_X5_keysOfRow_0 (S : PS) (I : Nat → Nat → Int) (x0 : Int) (x1 : Int) (w2 : PV) (w3 : PV) (w4 : PV) (Q : PV1 → Prop) : Wp 108 (0, [zI x0, zI x1, w2, w3, w4], [], zH S I) Q ↔ (Wp 108 (4, [zI x0, zI x1, zI 1, zI 0, w4], [], zH S I) Q) := (WpK_iff [4] 4 108 _ Q).symm
set_option maxRecDepth 100000 in
theorem sg_X5_keysOfRow_4 (S : PS) (I : Nat → Nat → Int) (x0 : Int) (x1 : Int) (x2 : Int) (x3 : Int) (w4 : PV) (Q : PV1 → Prop) : Wp 108 (4, [zI x0, zI x1, zI x2, zI x3, w4], [], zH S I) Q ↔ (cond (decide (x3 < 5)) (cond (decide (zan x0 (zsb (zml x2 2) 1) = 0)) (cond (decide (x1 < zsb (zad x0 (zml x2 2)) 1)) (Q (some (zI x2), zH S I)) (Wp 108 (4, [zI x0, zI x1, zI (zml x2 2), zI (zad x3 1), zI (zml x2 2)], [], zH S I) Q)) (Q (some (zI x2), zH S I))) (Q (some (zI x2), zH S I))) := (WpK_iff [4] 24 108 _ Q).symm
set_option maxRecDepth 100000 in
theorem sg_X5_tableNumbered_0_0 (S : PS) (I : Nat → Nat → Int) (x1 : Int) (Q : PV1 → Prop) : Wp 106 (0, [zA 0, zI x1], [], zH S I) Q ↔ (cond (decide (x1 < 0)) (Q (some (zR none), zH S I)) (cond (decide (x1 < 2)) (cond (decide (x1 = 0)) (Q (some (zA 7), zH S I)) (Q (some (zA 9), zH S I))) (Q (some (zR none), zH S I)))) := (WpK_iff [] 11 106 _ Q).symm
set_option maxRecDepth 100000 in
theorem sg_X5_refusedPut_0_0_n (S : PS) (I : Nat → Nat → Int) (x2 : Int) (Q : PV1 → Prop) : Wp 110 (0, [zA 0, zR none, zI x2], [], zH S I) Q ↔ (Q (some (zI ((-1))), zH S I)) := (WpK_iff [12, 22, 32] 4 110 _ Q).symm
set_option maxRecDepth 100000 in
theorem sg_X5_refusedPut_0_0_7 (S : PS) (I : Nat → Nat → Int) (x2 : Int) (Q : PV1 → Prop) : Wp 110 (0, [zA 0, zA 7, zI x2], [], zH S I) Q ↔ (Wp 23 (0, [zA 1, zI x2], [], zH S I) (fun w => Wp 110 (12, [zA 0, zA 7, zI x2], w.1.toList ++ [], w.2) Q)) := (WpK_iff [12, 22, 32] 6 110 _ Q).symm
set_option maxRecDepth 100000 in
theorem sg_X5_refusedPut_12_7 (S : PS) (I : Nat → Nat → Int) (w0 : PV) (x2 : Int) (y0 : Int) (Q : PV1 → Prop) : Wp 110 (12, [w0, zA 7, zI x2], [zI y0], zH S I) Q ↔ (cond (decide (y0 = 0)) (Q (some (zI ((-1))), zH S I)) (Wp 61 (0, [zA 7, zI x2], [], zH S I) (fun w => Wp 110 (22, [w0, zA 7, zI x2], w.1.toList ++ [], w.2) Q))) := (WpK_iff [12, 22, 32] 4 110 _ Q).symm
set_option maxRecDepth 100000 in
theorem sg_X5_refusedPut_22_7 (S : PS) (I : Nat → Nat → Int) (w0 : PV) (w2 : PV) (y0 : Int) (Q : PV1 → Prop) : Wp 110 (22, [w0, zA 7, w2], [zI y0], zH S I) Q ↔ (cond (decide (y0 = 0)) (Wp 63 (0, [zA 7], [], zH S I) (fun w => Wp 110 (32, [w0, zA 7, w2], w.1.toList ++ [], w.2) Q)) (Q (some (zI ((-2))), zH S I))) := (WpK_iff [12, 22, 32] 3 110 _ Q).symm
set_option maxRecDepth 100000 in
theorem sg_X5_refusedPut_32 (S : PS) (I : Nat → Nat → Int) (w0 : PV) (w1 : PV) (w2 : PV) (y0 : Int) (Q : PV1 → Prop) : Wp 110 (32, [w0, w1, w2], [zI y0], zH S I) Q ↔ (cond (decide (y0 = 0)) (Q (some (zI 0), zH S I)) (Q (some (zI ((-3))), zH S I))) := (WpK_iff [12, 22, 32] 4 110 _ Q).symm
set_option maxRecDepth 100000 in
theorem sg_X5_remember_0_0 (S : PS) (I : Nat → Nat → Int)  (Q : PV1 → Prop) : Wp 111 (0, [zA 0], [], zH S I) Q ↔ (Wp 75 (0, [zA 7, zU, zU], [], zH S I) (fun w => Wp 111 (11, [zA 0], w.1.toList ++ [zA 19], w.2) Q)) := (WpK_iff [11, 18, 27] 5 111 _ Q).symm
set_option maxRecDepth 100000 in
theorem sg_X5_remember_11_0_19 (S : PS) (I : Nat → Nat → Int) (y1 : Int) (Q : PV1 → Prop) : Wp 111 (11, [zA 0], [zI y1, zA 19], zH S I) Q ↔ (Wp 75 (0, [zA 9, zU, zU], [], zH S I) (fun w => Wp 111 (18, [zA 0], w.1.toList ++ [zI y1, zA 19], w.2) Q)) := (WpK_iff [11, 18, 27] 3 111 _ Q).symm
set_option maxRecDepth 100000 in
theorem sg_X5_remember_18_0_19 (S : PS) (I : Nat → Nat → Int) (y1 : Int) (y2 : Int) (Q : PV1 → Prop) : Wp 111 (18, [zA 0], [zI y2, zI y1, zA 19], zH S I) Q ↔ (Wp 3 (0, [zA 19, zI y1, zI y2, zI (I 0 8), zI ((-1)), zI 0], [], zH S I) (fun w => Wp 111 (27, [zA 0], w.1.toList ++ [], w.2) Q)) := (WpK_iff [11, 18, 27] 5 111 _ Q).symm
set_option maxRecDepth 100000 in
theorem sg_X5_remember_27 (S : PS) (I : Nat → Nat → Int) (w0 : PV) (Q : PV1 → Prop) : Wp 111 (27, [w0], [], zH S I) Q ↔ (Q (none, zH S I)) := (WpK_iff [11, 18, 27] 1 111 _ Q).symm
set_option maxRecDepth 100000 in
theorem sg_X5_refusedPut_0_0_9 (S : PS) (I : Nat → Nat → Int) (x2 : Int) (Q : PV1 → Prop) : Wp 110 (0, [zA 0, zA 9, zI x2], [], zH S I) Q ↔ (Wp 23 (0, [zA 1, zI x2], [], zH S I) (fun w => Wp 110 (12, [zA 0, zA 9, zI x2], w.1.toList ++ [], w.2) Q)) := (WpK_iff [12, 22, 32] 6 110 _ Q).symm
set_option maxRecDepth 100000 in
theorem sg_X5_refusedPut_12_9 (S : PS) (I : Nat → Nat → Int) (w0 : PV) (x2 : Int) (y0 : Int) (Q : PV1 → Prop) : Wp 110 (12, [w0, zA 9, zI x2], [zI y0], zH S I) Q ↔ (cond (decide (y0 = 0)) (Q (some (zI ((-1))), zH S I)) (Wp 61 (0, [zA 9, zI x2], [], zH S I) (fun w => Wp 110 (22, [w0, zA 9, zI x2], w.1.toList ++ [], w.2) Q))) := (WpK_iff [12, 22, 32] 4 110 _ Q).symm
set_option maxRecDepth 100000 in
theorem sg_X5_refusedPut_22_9 (S : PS) (I : Nat → Nat → Int) (w0 : PV) (w2 : PV) (y0 : Int) (Q : PV1 → Prop) : Wp 110 (22, [w0, zA 9, w2], [zI y0], zH S I) Q ↔ (cond (decide (y0 = 0)) (Wp 63 (0, [zA 9], [], zH S I) (fun w => Wp 110 (32, [w0, zA 9, w2], w.1.toList ++ [], w.2) Q)) (Q (some (zI ((-2))), zH S I))) := (WpK_iff [12, 22, 32] 3 110 _ Q).symm
set_option maxRecDepth 100000 in
theorem sg_X5_isMeltable_0_0 (S : PS) (I : Nat → Nat → Int) (x1 : Int) (Q : PV1 → Prop) : Wp 112 (0, [zA 0, zI x1], [], zH S I) Q ↔ (Wp 23 (0, [zA 1, zI x1], [], zH S I) (fun w => Wp 112 (8, [zA 0, zI x1], w.1.toList ++ [], w.2) Q)) := (WpK_iff [8, 19] 4 112 _ Q).symm
set_option maxRecDepth 100000 in
theorem sg_X5_isMeltable_8_0 (S : PS) (I : Nat → Nat → Int) (x1 : Int) (y0 : Int) (Q : PV1 → Prop) : Wp 112 (8, [zA 0, zI x1], [zI y0], zH S I) Q ↔ (cond (decide (y0 = 0)) (cond (zbb 0) (Q (some (zI 0), zH S I)) False) (Wp 29 (0, [zA 1, zI x1], [], zH S I) (fun w => Wp 112 (19, [zA 0, zI x1], w.1.toList ++ [], w.2) Q))) := (WpK_iff [8, 19] 5 112 _ Q).symm
set_option maxRecDepth 100000 in
theorem sg_X5_isMeltable_19 (S : PS) (I : Nat → Nat → Int) (w0 : PV) (w1 : PV) (y0 : Int) (Q : PV1 → Prop) : Wp 112 (19, [w0, w1], [zI y0], zH S I) Q ↔ (cond (decide (y0 = 2)) (cond (zbb 0) (Q (some (zI 0), zH S I)) False) (cond (zbb 1) (Q (some (zI 1), zH S I)) False)) := (WpK_iff [8, 19] 5 112 _ Q).symm
set_option maxRecDepth 100000 in
theorem sg_X5_standsOnlyIn_0_0_7 (S : PS) (I : Nat → Nat → Int) (x2 : Int) (w3 : PV) (Q : PV1 → Prop) : Wp 113 (0, [zA 0, zA 7, zI x2, w3], [], zH S I) Q ↔ (Wp 61 (0, [zA 7, zI x2], [], zH S I) (fun w => Wp 113 (25, [zA 0, zA 7, zI x2, zA 9], w.1.toList ++ [], w.2) Q)) := (WpK_iff [25, 33] 11 113 _ Q).symm
set_option maxRecDepth 100000 in
theorem sg_X5_standsOnlyIn_25_9 (S : PS) (I : Nat → Nat → Int) (w0 : PV) (w1 : PV) (x2 : Int) (y0 : Int) (Q : PV1 → Prop) : Wp 113 (25, [w0, w1, zI x2, zA 9], [zI y0], zH S I) Q ↔ (cond (decide (y0 = 0)) (cond (zbb 0) (Q (some (zI 0), zH S I)) False) (Wp 61 (0, [zA 9, zI x2], [], zH S I) (fun w => Wp 113 (33, [w0, w1, zI x2, zA 9], w.1.toList ++ [], w.2) Q))) := (WpK_iff [25, 33] 4 113 _ Q).symm
set_option maxRecDepth 100000 in
theorem sg_X5_standsOnlyIn_33 (S : PS) (I : Nat → Nat → Int) (w0 : PV) (w1 : PV) (w2 : PV) (w3 : PV) (y0 : Int) (Q : PV1 → Prop) : Wp 113 (33, [w0, w1, w2, w3], [zI y0], zH S I) Q ↔ (cond (decide (y0 = 0)) (cond (zbb 1) (Q (some (zI 1), zH S I)) False) (cond (zbb 0) (Q (some (zI 0), zH S I)) False)) := (WpK_iff [25, 33] 4 113 _ Q).symm
set_option maxRecDepth 100000 in
theorem sg_X5_meltHolds_0_0_7 (S : PS) (I : Nat → Nat → Int) (x2 : Int) (x3 : Int) (x4 : Int) (w5 : PV) (w6 : PV) (w7 : PV) (Q : PV1 → Prop) : Wp 114 (0, [zA 0, zA 7, zI x2, zI x3, zI x4, w5, w6, w7], [], zH S I) Q ↔ (Wp 60 (0, [zA 7, zI x3, zU], [], zH S I) (fun w => Wp 114 (5, [zA 0, zA 7, zI x2, zI x3, zI x4, w5, w6, w7], w.1.toList ++ [], w.2) Q)) := (WpK_iff [5, 15, 25, 31, 46, 50, 61, 81, 88] 3 114 _ Q).symm
set_option maxRecDepth 100000 in
theorem sg_X5_meltHolds_5_0_7 (S : PS) (I : Nat → Nat → Int) (x2 : Int) (x3 : Int) (x4 : Int) (w5 : PV) (w6 : PV) (w7 : PV) (y0 : Int) (Q : PV1 → Prop) : Wp 114 (5, [zA 0, zA 7, zI x2, zI x3, zI x4, w5, w6, w7], [zI y0], zH S I) Q ↔ (Wp 31 (0, [zA 1, zI x2], [], zH S I) (fun w => Wp 114 (15, [zA 0, zA 7, zI x2, zI x3, zI x4, zI y0, w6, w7], w.1.toList ++ [], w.2) Q)) := (WpK_iff [5, 15, 25, 31, 46, 50, 61, 81, 88] 5 114 _ Q).symm
set_option maxRecDepth 100000 in
theorem sg_X5_meltHolds_15_0_7 (S : PS) (I : Nat → Nat → Int) (x2 : Int) (x3 : Int) (x4 : Int) (x5 : Int) (w6 : PV) (w7 : PV) (y0 : Int) (Q : PV1 → Prop) : Wp 114 (15, [zA 0, zA 7, zI x2, zI x3, zI x4, zI x5, w6, w7], [zI y0], zH S I) Q ↔ (Wp 69 (0, [zA 7, zA 31, zU], [], zH S I) (fun w => Wp 114 (25, [zA 0, zA 7, zI x2, zI x3, zI x4, zI x5, zI y0, w7], w.1.toList ++ [], w.2) Q)) := (WpK_iff [5, 15, 25, 31, 46, 50, 61, 81, 88] 5 114 _ Q).symm
set_option maxRecDepth 100000 in
theorem sg_X5_meltHolds_25_0_7 (S : PS) (I : Nat → Nat → Int) (x2 : Int) (x3 : Int) (x4 : Int) (x5 : Int) (x6 : Int) (w7 : PV) (Q : PV1 → Prop) : Wp 114 (25, [zA 0, zA 7, zI x2, zI x3, zI x4, zI x5, zI x6, w7], [], zH S I) Q ↔ (Wp 64 (0, [zA 7, zI x5], [], zH S I) (fun w => Wp 114 (31, [zA 0, zA 7, zI x2, zI x3, zI x4, zI x5, zI x6, w7], w.1.toList ++ [], w.2) Q)) := (WpK_iff [5, 15, 25, 31, 46, 50, 61, 81, 88] 3 114 _ Q).symm
set_option maxRecDepth 100000 in
theorem sg_X5_meltHolds_31_0_7 (S : PS) (I : Nat → Nat → Int) (x2 : Int) (x3 : Int) (x4 : Int) (x5 : Int) (x6 : Int) (w7 : PV) (Q : PV1 → Prop) : Wp 114 (31, [zA 0, zA 7, zI x2, zI x3, zI x4, zI x5, zI x6, w7], [], zH S I) Q ↔ (Wp 27 (0, [zA 1, zI x2, zI (zan x6 (zxr x4 ((-1))))], [], zH S I) (fun w => Wp 114 (46, [zA 0, zA 7, zI x2, zI x3, zI x4, zI x5, zI x6, w7], w.1.toList ++ [], w.2) Q)) := (WpK_iff [5, 15, 25, 31, 46, 50, 61, 81, 88] 9 114 _ Q).symm
set_option maxRecDepth 100000 in
theorem sg_X5_meltHolds_46_0_7 (S : PS) (I : Nat → Nat → Int) (x2 : Int) (x3 : Int) (w4 : PV) (x5 : Int) (x6 : Int) (w7 : PV) (Q : PV1 → Prop) : Wp 114 (46, [zA 0, zA 7, zI x2, zI x3, w4, zI x5, zI x6, w7], [], zH S I) Q ↔ (Wp 71 (0, [zA 7, zU, zU], [], zH S I) (fun w => Wp 114 (50, [zA 0, zA 7, zI x2, zI x3, w4, zI x5, zI x6, w7], w.1.toList ++ [], w.2) Q)) := (WpK_iff [5, 15, 25, 31, 46, 50, 61, 81, 88] 2 114 _ Q).symm
set_option maxRecDepth 100000 in
theorem sg_X5_meltHolds_50_0_7 (S : PS) (I : Nat → Nat → Int) (x2 : Int) (x3 : Int) (w4 : PV) (x5 : Int) (x6 : Int) (w7 : PV) (y0 : Int) (Q : PV1 → Prop) : Wp 114 (50, [zA 0, zA 7, zI x2, zI x3, w4, zI x5, zI x6, w7], [zI y0], zH S I) Q ↔ (cond (decide (y0 = 0)) (Wp 27 (0, [zA 1, zI x2, zI x6], [], zH S I) (fun w => Wp 114 (81, [zA 0, zA 7, zI x2, zI x3, w4, zI x5, zI x6, zI 0], w.1.toList ++ [], w.2) Q)) (Wp 70 (0, [zA 7, zA 31, zU], [], zH S I) (fun w => Wp 114 (61, [zA 0, zA 7, zI x2, zI x3, w4, zI x5, zI x6, w7], w.1.toList ++ [], w.2) Q))) := (WpK_iff [5, 15, 25, 31, 46, 50, 61, 81, 88] 8 114 _ Q).symm
set_option maxRecDepth 100000 in
theorem sg_X5_meltHolds_81_7 (S : PS) (I : Nat → Nat → Int) (w0 : PV) (w2 : PV) (x3 : Int) (w4 : PV) (x5 : Int) (w6 : PV) (x7 : Int) (Q : PV1 → Prop) : Wp 114 (81, [w0, zA 7, w2, zI x3, w4, zI x5, w6, zI x7], [], zH S I) Q ↔ (Wp 65 (0, [zA 7, zI x3, zI x5], [], zH S I) (fun w => Wp 114 (88, [w0, zA 7, w2, zI x3, w4, zI x5, w6, zI x7], w.1.toList ++ [], w.2) Q)) := (WpK_iff [5, 15, 25, 31, 46, 50, 61, 81, 88] 4 114 _ Q).symm
set_option maxRecDepth 100000 in
theorem sg_X5_meltHolds_88 (S : PS) (I : Nat → Nat → Int) (w0 : PV) (w1 : PV) (w2 : PV) (w3 : PV) (w4 : PV) (w5 : PV) (w6 : PV) (x7 : Int) (Q : PV1 → Prop) : Wp 114 (88, [w0, w1, w2, w3, w4, w5, w6, zI x7], [], zH S I) Q ↔ (cond (zbb x7) (Q (some (zI x7), zH S I)) False) := (WpK_iff [5, 15, 25, 31, 46, 50, 61, 81, 88] 2 114 _ Q).symm
set_option maxRecDepth 100000 in
theorem sg_X5_meltHolds_61_0_7 (S : PS) (I : Nat → Nat → Int) (x2 : Int) (x3 : Int) (w4 : PV) (x5 : Int) (x6 : Int) (w7 : PV) (y0 : Int) (Q : PV1 → Prop) : Wp 114 (61, [zA 0, zA 7, zI x2, zI x3, w4, zI x5, zI x6, w7], [zI y0], zH S I) Q ↔ (cond (decide (y0 = 0)) (Wp 27 (0, [zA 1, zI x2, zI x6], [], zH S I) (fun w => Wp 114 (81, [zA 0, zA 7, zI x2, zI x3, w4, zI x5, zI x6, zI 0], w.1.toList ++ [], w.2) Q)) (Wp 27 (0, [zA 1, zI x2, zI x6], [], zH S I) (fun w => Wp 114 (81, [zA 0, zA 7, zI x2, zI x3, w4, zI x5, zI x6, zI 1], w.1.toList ++ [], w.2) Q))) := (WpK_iff [5, 15, 25, 31, 46, 50, 61, 81, 88] 9 114 _ Q).symm
set_option maxRecDepth 100000 in
theorem sg_X5_standsOnlyIn_0_0_9 (S : PS) (I : Nat → Nat → Int) (x2 : Int) (w3 : PV) (Q : PV1 → Prop) : Wp 113 (0, [zA 0, zA 9, zI x2, w3], [], zH S I) Q ↔ (Wp 61 (0, [zA 9, zI x2], [], zH S I) (fun w => Wp 113 (25, [zA 0, zA 9, zI x2, zA 7], w.1.toList ++ [], w.2) Q)) := (WpK_iff [25, 33] 10 113 _ Q).symm
set_option maxRecDepth 100000 in
theorem sg_X5_standsOnlyIn_25_7 (S : PS) (I : Nat → Nat → Int) (w0 : PV) (w1 : PV) (x2 : Int) (y0 : Int) (Q : PV1 → Prop) : Wp 113 (25, [w0, w1, zI x2, zA 7], [zI y0], zH S I) Q ↔ (cond (decide (y0 = 0)) (cond (zbb 0) (Q (some (zI 0), zH S I)) False) (Wp 61 (0, [zA 7, zI x2], [], zH S I) (fun w => Wp 113 (33, [w0, w1, zI x2, zA 7], w.1.toList ++ [], w.2) Q))) := (WpK_iff [25, 33] 4 113 _ Q).symm
set_option maxRecDepth 100000 in
theorem sg_X5_meltHolds_0_0_9 (S : PS) (I : Nat → Nat → Int) (x2 : Int) (x3 : Int) (x4 : Int) (w5 : PV) (w6 : PV) (w7 : PV) (Q : PV1 → Prop) : Wp 114 (0, [zA 0, zA 9, zI x2, zI x3, zI x4, w5, w6, w7], [], zH S I) Q ↔ (Wp 60 (0, [zA 9, zI x3, zU], [], zH S I) (fun w => Wp 114 (5, [zA 0, zA 9, zI x2, zI x3, zI x4, w5, w6, w7], w.1.toList ++ [], w.2) Q)) := (WpK_iff [5, 15, 25, 31, 46, 50, 61, 81, 88] 3 114 _ Q).symm
set_option maxRecDepth 100000 in
theorem sg_X5_meltHolds_5_0_9 (S : PS) (I : Nat → Nat → Int) (x2 : Int) (x3 : Int) (x4 : Int) (w5 : PV) (w6 : PV) (w7 : PV) (y0 : Int) (Q : PV1 → Prop) : Wp 114 (5, [zA 0, zA 9, zI x2, zI x3, zI x4, w5, w6, w7], [zI y0], zH S I) Q ↔ (Wp 31 (0, [zA 1, zI x2], [], zH S I) (fun w => Wp 114 (15, [zA 0, zA 9, zI x2, zI x3, zI x4, zI y0, w6, w7], w.1.toList ++ [], w.2) Q)) := (WpK_iff [5, 15, 25, 31, 46, 50, 61, 81, 88] 5 114 _ Q).symm
set_option maxRecDepth 100000 in
theorem sg_X5_meltHolds_15_0_9 (S : PS) (I : Nat → Nat → Int) (x2 : Int) (x3 : Int) (x4 : Int) (x5 : Int) (w6 : PV) (w7 : PV) (y0 : Int) (Q : PV1 → Prop) : Wp 114 (15, [zA 0, zA 9, zI x2, zI x3, zI x4, zI x5, w6, w7], [zI y0], zH S I) Q ↔ (Wp 69 (0, [zA 9, zA 31, zU], [], zH S I) (fun w => Wp 114 (25, [zA 0, zA 9, zI x2, zI x3, zI x4, zI x5, zI y0, w7], w.1.toList ++ [], w.2) Q)) := (WpK_iff [5, 15, 25, 31, 46, 50, 61, 81, 88] 5 114 _ Q).symm
set_option maxRecDepth 100000 in
theorem sg_X5_meltHolds_25_0_9 (S : PS) (I : Nat → Nat → Int) (x2 : Int) (x3 : Int) (x4 : Int) (x5 : Int) (x6 : Int) (w7 : PV) (Q : PV1 → Prop) : Wp 114 (25, [zA 0, zA 9, zI x2, zI x3, zI x4, zI x5, zI x6, w7], [], zH S I) Q ↔ (Wp 64 (0, [zA 9, zI x5], [], zH S I) (fun w => Wp 114 (31, [zA 0, zA 9, zI x2, zI x3, zI x4, zI x5, zI x6, w7], w.1.toList ++ [], w.2) Q)) := (WpK_iff [5, 15, 25, 31, 46, 50, 61, 81, 88] 3 114 _ Q).symm
set_option maxRecDepth 100000 in
theorem sg_X5_meltHolds_31_0_9 (S : PS) (I : Nat → Nat → Int) (x2 : Int) (x3 : Int) (x4 : Int) (x5 : Int) (x6 : Int) (w7 : PV) (Q : PV1 → Prop) : Wp 114 (31, [zA 0, zA 9, zI x2, zI x3, zI x4, zI x5, zI x6, w7], [], zH S I) Q ↔ (Wp 27 (0, [zA 1, zI x2, zI (zan x6 (zxr x4 ((-1))))], [], zH S I) (fun w => Wp 114 (46, [zA 0, zA 9, zI x2, zI x3, zI x4, zI x5, zI x6, w7], w.1.toList ++ [], w.2) Q)) := (WpK_iff [5, 15, 25, 31, 46, 50, 61, 81, 88] 9 114 _ Q).symm
set_option maxRecDepth 100000 in
theorem sg_X5_meltHolds_46_0_9 (S : PS) (I : Nat → Nat → Int) (x2 : Int) (x3 : Int) (w4 : PV) (x5 : Int) (x6 : Int) (w7 : PV) (Q : PV1 → Prop) : Wp 114 (46, [zA 0, zA 9, zI x2, zI x3, w4, zI x5, zI x6, w7], [], zH S I) Q ↔ (Wp 71 (0, [zA 9, zU, zU], [], zH S I) (fun w => Wp 114 (50, [zA 0, zA 9, zI x2, zI x3, w4, zI x5, zI x6, w7], w.1.toList ++ [], w.2) Q)) := (WpK_iff [5, 15, 25, 31, 46, 50, 61, 81, 88] 2 114 _ Q).symm
set_option maxRecDepth 100000 in
theorem sg_X5_meltHolds_50_0_9 (S : PS) (I : Nat → Nat → Int) (x2 : Int) (x3 : Int) (w4 : PV) (x5 : Int) (x6 : Int) (w7 : PV) (y0 : Int) (Q : PV1 → Prop) : Wp 114 (50, [zA 0, zA 9, zI x2, zI x3, w4, zI x5, zI x6, w7], [zI y0], zH S I) Q ↔ (cond (decide (y0 = 0)) (Wp 27 (0, [zA 1, zI x2, zI x6], [], zH S I) (fun w => Wp 114 (81, [zA 0, zA 9, zI x2, zI x3, w4, zI x5, zI x6, zI 0], w.1.toList ++ [], w.2) Q)) (Wp 70 (0, [zA 9, zA 31, zU], [], zH S I) (fun w => Wp 114 (61, [zA 0, zA 9, zI x2, zI x3, w4, zI x5, zI x6, w7], w.1.toList ++ [], w.2) Q))) := (WpK_iff [5, 15, 25, 31, 46, 50, 61, 81, 88] 8 114 _ Q).symm
set_option maxRecDepth 100000 in
theorem sg_X5_meltHolds_81_9 (S : PS) (I : Nat → Nat → Int) (w0 : PV) (w2 : PV) (x3 : Int) (w4 : PV) (x5 : Int) (w6 : PV) (x7 : Int) (Q : PV1 → Prop) : Wp 114 (81, [w0, zA 9, w2, zI x3, w4, zI x5, w6, zI x7], [], zH S I) Q ↔ (Wp 65 (0, [zA 9, zI x3, zI x5], [], zH S I) (fun w => Wp 114 (88, [w0, zA 9, w2, zI x3, w4, zI x5, w6, zI x7], w.1.toList ++ [], w.2) Q)) := (WpK_iff [5, 15, 25, 31, 46, 50, 61, 81, 88] 4 114 _ Q).symm
set_option maxRecDepth 100000 in
theorem sg_X5_meltHolds_61_0_9 (S : PS) (I : Nat → Nat → Int) (x2 : Int) (x3 : Int) (w4 : PV) (x5 : Int) (x6 : Int) (w7 : PV) (y0 : Int) (Q : PV1 → Prop) : Wp 114 (61, [zA 0, zA 9, zI x2, zI x3, w4, zI x5, zI x6, w7], [zI y0], zH S I) Q ↔ (cond (decide (y0 = 0)) (Wp 27 (0, [zA 1, zI x2, zI x6], [], zH S I) (fun w => Wp 114 (81, [zA 0, zA 9, zI x2, zI x3, w4, zI x5, zI x6, zI 0], w.1.toList ++ [], w.2) Q)) (Wp 27 (0, [zA 1, zI x2, zI x6], [], zH S I) (fun w => Wp 114 (81, [zA 0, zA 9, zI x2, zI x3, w4, zI x5, zI x6, zI 1], w.1.toList ++ [], w.2) Q))) := (WpK_iff [5, 15, 25, 31, 46, 50, 61, 81, 88] 9 114 _ Q).symm
end
section
/-! what each stretch of the code does (laid by a program; each is checked by unfolding) -/
set_option maxRecDepth 100000 in
theorem sg_X6_places_0_32 (S : PS) (I : Nat → Nat → Int) (x1 : Int) (w2 : PV) (w3 : PV) (Q : PV1 → Prop) : Wp 125 (0, [zA 32, zI x1, w2, w3], [], zH S I) Q ↔ (Wp 115 (0, [zI x1, zI 2, zI 6], [], zH S I) (fun w => Wp 125 (7, [zA 32, zI x1, w2, w3], w.1.toList ++ [], w.2) Q)) := (WpK_iff [7, 41, 43] 4 125 _ Q).symm
set_option maxRecDepth 100000 in
theorem sg_X6_places_7_32 (S : PS) (I : Nat → Nat → Int) (x1 : Int) (w2 : PV) (w3 : PV) (y0 : Int) (Q : PV1 → Prop) : Wp 125 (7, [zA 32, zI x1, w2, w3], [zI y0], zH S I) Q ↔ (cond (decide (y0 = 0)) (Q (some (zI ((-1))), zH S I)) (Wp 117 (0, [zA 32, zU], [], zH S (zs2 (zs2 (zs2 (zs2 I 32 6 x1) 32 7 0) 32 9 0) 32 21 0)) (fun w => Wp 125 (41, [zA 32, zI x1, zI (I 32 6), w3], w.1.toList ++ [], w.2) Q))) := (WpK_iff [7, 41, 43] 18 125 _ Q).symm
set_option maxRecDepth 100000 in
theorem sg_X6_places_41_32 (S : PS) (I : Nat → Nat → Int) (w1 : PV) (x2 : Int) (w3 : PV) (Q : PV1 → Prop) : Wp 125 (41, [zA 32, w1, zI x2, w3], [], zH S I) Q ↔ (Wp 125 (43, [zA 32, w1, zI x2, zI 0], [], zH S I) Q) := (WpK_iff [7, 41, 43] 2 125 _ Q).symm
set_option maxRecDepth 100000 in
theorem sg_X6_places_43_32 (S : PS) (I : Nat → Nat → Int) (w1 : PV) (x2 : Int) (x3 : Int) (Q : PV1 → Prop) : Wp 125 (43, [zA 32, w1, zI x2, zI x3], [], zH S I) Q ↔ (cond (decide (x3 < 16)) (cond (zib x3 16 && zbb 0) (Wp 125 (43, [zA 32, w1, zI x2, zI (zad x3 1)], [], zH S (zs2 I 33 (x3 : Int).toNat 0)) Q) False) (Q (some (zI x2), zH S I))) := (WpK_iff [7, 41, 43] 10 125 _ Q).symm
set_option maxRecDepth 100000 in
theorem sg_X6_rule_0_32 (S : PS) (I : Nat → Nat → Int) (x1 : Int) (x2 : Int) (x3 : Int) (x4 : Int) (Q : PV1 → Prop) : Wp 128 (0, [zA 32, zI x1, zI x2, zI x3, zI x4], [], zH S I) Q ↔ (Wp 115 (0, [zI x1, zI 0, zI 31], [], zH S I) (fun w => Wp 128 (7, [zA 32, zI x1, zI x2, zI x3, zI x4], w.1.toList ++ [], w.2) Q)) := (WpK_iff [7, 17, 27, 38, 47, 65] 4 128 _ Q).symm
set_option maxRecDepth 100000 in
theorem sg_X6_rule_7_32 (S : PS) (I : Nat → Nat → Int) (x1 : Int) (x2 : Int) (x3 : Int) (x4 : Int) (y0 : Int) (Q : PV1 → Prop) : Wp 128 (7, [zA 32, zI x1, zI x2, zI x3, zI x4], [zI y0], zH S I) Q ↔ (cond (decide (y0 = 0)) (Q (some (zI ((-1))), zH S I)) (Wp 115 (0, [zI x2, zI 0, zI 31], [], zH S I) (fun w => Wp 128 (17, [zA 32, zI x1, zI x2, zI x3, zI x4], w.1.toList ++ [], w.2) Q))) := (WpK_iff [7, 17, 27, 38, 47, 65] 5 128 _ Q).symm
set_option maxRecDepth 100000 in
theorem sg_X6_rule_17_32 (S : PS) (I : Nat → Nat → Int) (x1 : Int) (x2 : Int) (x3 : Int) (x4 : Int) (y0 : Int) (Q : PV1 → Prop) : Wp 128 (17, [zA 32, zI x1, zI x2, zI x3, zI x4], [zI y0], zH S I) Q ↔ (cond (decide (y0 = 0)) (Q (some (zI ((-1))), zH S I)) (Wp 115 (0, [zI x3, zI 0, zI 99], [], zH S I) (fun w => Wp 128 (27, [zA 32, zI x1, zI x2, zI x3, zI x4], w.1.toList ++ [], w.2) Q))) := (WpK_iff [7, 17, 27, 38, 47, 65] 5 128 _ Q).symm
set_option maxRecDepth 100000 in
theorem sg_X6_rule_27_32 (S : PS) (I : Nat → Nat → Int) (x1 : Int) (x2 : Int) (x3 : Int) (x4 : Int) (y0 : Int) (Q : PV1 → Prop) : Wp 128 (27, [zA 32, zI x1, zI x2, zI x3, zI x4], [zI y0], zH S I) Q ↔ (cond (decide (y0 = 0)) (Q (some (zI ((-1))), zH S I)) (Wp 115 (0, [zI x4, zI 0, zI 15], [], zH S I) (fun w => Wp 128 (38, [zA 32, zI x1, zI x2, zI x3, zI x4], w.1.toList ++ [], w.2) Q))) := (WpK_iff [7, 17, 27, 38, 47, 65] 5 128 _ Q).symm
set_option maxRecDepth 100000 in
theorem sg_X6_rule_38_32 (S : PS) (I : Nat → Nat → Int) (x1 : Int) (x2 : Int) (x3 : Int) (x4 : Int) (y0 : Int) (Q : PV1 → Prop) : Wp 128 (38, [zA 32, zI x1, zI x2, zI x3, zI x4], [zI y0], zH S I) Q ↔ (cond (decide (y0 = 0)) (Q (some (zI ((-1))), zH S I)) (Wp 126 (0, [zA 32, zU, zU], [], zH S I) (fun w => Wp 128 (47, [zA 32, zI x1, zI x2, zI x3, zI x4], w.1.toList ++ [], w.2) Q))) := (WpK_iff [7, 17, 27, 38, 47, 65] 3 128 _ Q).symm
set_option maxRecDepth 100000 in
theorem sg_X6_rule_47_32 (S : PS) (I : Nat → Nat → Int) (x1 : Int) (x2 : Int) (x3 : Int) (x4 : Int) (y0 : Int) (Q : PV1 → Prop) : Wp 128 (47, [zA 32, zI x1, zI x2, zI x3, zI x4], [zI y0], zH S I) Q ↔ (cond (decide (y0 = 0)) (Wp 128 (65, [zA 32, zI x1, zI x2, zI x3, zI x4], [zI ((-3))], zH S I) Q) (Wp 127 (0, [zA 32, zI 0, zI x1, zI x2, zI x3, zI x4, zU], [], zH S I) (fun w => Wp 128 (65, [zA 32, zI x1, zI x2, zI x3, zI x4], w.1.toList ++ [], w.2) Q))) := (WpK_iff [7, 17, 27, 38, 47, 65] 8 128 _ Q).symm
set_option maxRecDepth 100000 in
theorem sg_X6_rule_65 (S : PS) (I : Nat → Nat → Int) (w0 : PV) (w1 : PV) (w2 : PV) (w3 : PV) (w4 : PV) (y0 : Int) (Q : PV1 → Prop) : Wp 128 (65, [w0, w1, w2, w3, w4], [zI y0], zH S I) Q ↔ (Q (some (zI y0), zH S I)) := (WpK_iff [7, 17, 27, 38, 47, 65] 1 128 _ Q).symm
set_option maxRecDepth 100000 in
theorem sg_X6_last_0_32 (S : PS) (I : Nat → Nat → Int) (x1 : Int) (Q : PV1 → Prop) : Wp 129 (0, [zA 32, zI x1], [], zH S I) Q ↔ (Wp 115 (0, [zI x1, zI 0, zI 15], [], zH S I) (fun w => Wp 129 (7, [zA 32, zI x1], w.1.toList ++ [], w.2) Q)) := (WpK_iff [7, 18, 35] 4 129 _ Q).symm
set_option maxRecDepth 100000 in
theorem sg_X6_last_7_32 (S : PS) (I : Nat → Nat → Int) (x1 : Int) (y0 : Int) (Q : PV1 → Prop) : Wp 129 (7, [zA 32, zI x1], [zI y0], zH S I) Q ↔ (cond (decide (y0 = 0)) (Wp 129 (35, [zA 32, zI x1], [zI ((-1))], zH S I) Q) (Wp 126 (0, [zA 32, zU, zU], [], zH S I) (fun w => Wp 129 (18, [zA 32, zI x1], w.1.toList ++ [], w.2) Q))) := (WpK_iff [7, 18, 35] 3 129 _ Q).symm
set_option maxRecDepth 100000 in
theorem sg_X6_last_35 (S : PS) (I : Nat → Nat → Int) (w0 : PV) (w1 : PV) (y0 : Int) (Q : PV1 → Prop) : Wp 129 (35, [w0, w1], [zI y0], zH S I) Q ↔ (Q (some (zI y0), zH S I)) := (WpK_iff [7, 18, 35] 1 129 _ Q).symm
set_option maxRecDepth 100000 in
theorem sg_X6_last_18_32 (S : PS) (I : Nat → Nat → Int) (x1 : Int) (y0 : Int) (Q : PV1 → Prop) : Wp 129 (18, [zA 32, zI x1], [zI y0], zH S I) Q ↔ (cond (decide (y0 = 0)) (Wp 129 (35, [zA 32, zI x1], [zI ((-3))], zH S I) Q) (Wp 127 (0, [zA 32, zI 2, zI 0, zI 0, zI 0, zI x1, zU], [], zH S I) (fun w => Wp 129 (35, [zA 32, zI x1], w.1.toList ++ [], w.2) Q))) := (WpK_iff [7, 18, 35] 8 129 _ Q).symm
set_option maxRecDepth 100000 in
theorem sg_X6_span_0_32 (S : PS) (I : Nat → Nat → Int) (x1 : Int) (x2 : Int) (x3 : Int) (x4 : Int) (w5 : PV) (w6 : PV) (w7 : PV) (Q : PV1 → Prop) : Wp 131 (0, [zA 32, zI x1, zI x2, zI x3, zI x4, w5, w6, w7], [], zH S I) Q ↔ (Wp 115 (0, [zI x1, zI 0, zI 31], [], zH S I) (fun w => Wp 131 (7, [zA 32, zI x1, zI x2, zI x3, zI x4, w5, w6, w7], w.1.toList ++ [], w.2) Q)) := (WpK_iff [7, 17, 27, 38, 49, 66, 78, 87, 105, 112, 122] 4 131 _ Q).symm
set_option maxRecDepth 100000 in
theorem sg_X6_span_7_32 (S : PS) (I : Nat → Nat → Int) (x1 : Int) (x2 : Int) (x3 : Int) (x4 : Int) (w5 : PV) (w6 : PV) (w7 : PV) (y0 : Int) (Q : PV1 → Prop) : Wp 131 (7, [zA 32, zI x1, zI x2, zI x3, zI x4, w5, w6, w7], [zI y0], zH S I) Q ↔ (cond (decide (y0 = 0)) (Q (some (zI ((-1))), zH S I)) (Wp 115 (0, [zI x2, zI x1, zI 31], [], zH S I) (fun w => Wp 131 (17, [zA 32, zI x1, zI x2, zI x3, zI x4, w5, w6, w7], w.1.toList ++ [], w.2) Q))) := (WpK_iff [7, 17, 27, 38, 49, 66, 78, 87, 105, 112, 122] 5 131 _ Q).symm
set_option maxRecDepth 100000 in
theorem sg_X6_span_17_32 (S : PS) (I : Nat → Nat → Int) (x1 : Int) (x2 : Int) (x3 : Int) (x4 : Int) (w5 : PV) (w6 : PV) (w7 : PV) (y0 : Int) (Q : PV1 → Prop) : Wp 131 (17, [zA 32, zI x1, zI x2, zI x3, zI x4, w5, w6, w7], [zI y0], zH S I) Q ↔ (cond (decide (y0 = 0)) (Q (some (zI ((-1))), zH S I)) (Wp 115 (0, [zI x3, zI 0, zI 99], [], zH S I) (fun w => Wp 131 (27, [zA 32, zI x1, zI x2, zI x3, zI x4, w5, w6, w7], w.1.toList ++ [], w.2) Q))) := (WpK_iff [7, 17, 27, 38, 49, 66, 78, 87, 105, 112, 122] 5 131 _ Q).symm
set_option maxRecDepth 100000 in
theorem sg_X6_span_27_32 (S : PS) (I : Nat → Nat → Int) (x1 : Int) (x2 : Int) (x3 : Int) (x4 : Int) (w5 : PV) (w6 : PV) (w7 : PV) (y0 : Int) (Q : PV1 → Prop) : Wp 131 (27, [zA 32, zI x1, zI x2, zI x3, zI x4, w5, w6, w7], [zI y0], zH S I) Q ↔ (cond (decide (y0 = 0)) (Q (some (zI ((-1))), zH S I)) (Wp 115 (0, [zI x4, zI 0, zI 15], [], zH S I) (fun w => Wp 131 (38, [zA 32, zI x1, zI x2, zI x3, zI x4, w5, w6, w7], w.1.toList ++ [], w.2) Q))) := (WpK_iff [7, 17, 27, 38, 49, 66, 78, 87, 105, 112, 122] 5 131 _ Q).symm
set_option maxRecDepth 100000 in
theorem sg_X6_span_38_32 (S : PS) (I : Nat → Nat → Int) (x1 : Int) (x2 : Int) (x3 : Int) (x4 : Int) (w5 : PV) (w6 : PV) (w7 : PV) (y0 : Int) (Q : PV1 → Prop) : Wp 131 (38, [zA 32, zI x1, zI x2, zI x3, zI x4, w5, w6, w7], [zI y0], zH S I) Q ↔ (cond (decide (y0 = 0)) (Q (some (zI ((-1))), zH S I)) (Wp 131 (49, [zA 32, zI x1, zI x2, zI x3, zI x4, zI 0, zI x1, w7], [], zH S I) Q)) := (WpK_iff [7, 17, 27, 38, 49, 66, 78, 87, 105, 112, 122] 5 131 _ Q).symm
set_option maxRecDepth 100000 in
theorem sg_X6_span_49_32 (S : PS) (I : Nat → Nat → Int) (x1 : Int) (x2 : Int) (x3 : Int) (x4 : Int) (x5 : Int) (x6 : Int) (w7 : PV) (Q : PV1 → Prop) : Wp 131 (49, [zA 32, zI x1, zI x2, zI x3, zI x4, zI x5, zI x6, w7], [], zH S I) Q ↔ (cond (decide (x2 < x6)) (Wp 126 (0, [zA 32, zU, zU], [], zH S I) (fun w => Wp 131 (78, [zA 32, zI x1, zI x2, zI x3, zI x4, zI x5, zI x6, w7], w.1.toList ++ [zI x5], w.2) Q)) (Wp 130 (0, [zI x6, zI x2, zU], [], zH S I) (fun w => Wp 131 (66, [zA 32, zI x1, zI x2, zI x3, zI x4, zI (zad x5 1), zI x6, w7], w.1.toList ++ [zI x6], w.2) Q))) := (WpK_iff [7, 17, 27, 38, 49, 66, 78, 87, 105, 112, 122] 8 131 _ Q).symm
set_option maxRecDepth 100000 in
theorem sg_X6_span_78_32 (S : PS) (I : Nat → Nat → Int) (x1 : Int) (x2 : Int) (x3 : Int) (x4 : Int) (x5 : Int) (w6 : PV) (w7 : PV) (y0 : Int) (y1 : Int) (Q : PV1 → Prop) : Wp 131 (78, [zA 32, zI x1, zI x2, zI x3, zI x4, zI x5, w6, w7], [zI y1, zI y0], zH S I) Q ↔ (cond (decide (y1 < y0)) (Q (some (zI ((-3))), zH S I)) (Wp 131 (87, [zA 32, zI x1, zI x2, zI x3, zI x4, zI x5, zI x1, w7], [], zH S I) Q)) := (WpK_iff [7, 17, 27, 38, 49, 66, 78, 87, 105, 112, 122] 3 131 _ Q).symm
set_option maxRecDepth 100000 in
theorem sg_X6_span_87_32 (S : PS) (I : Nat → Nat → Int) (w1 : PV) (x2 : Int) (x3 : Int) (x4 : Int) (x5 : Int) (x6 : Int) (w7 : PV) (Q : PV1 → Prop) : Wp 131 (87, [zA 32, w1, zI x2, zI x3, zI x4, zI x5, zI x6, w7], [], zH S I) Q ↔ (cond (decide (x2 < x6)) (Q (some (zI x5), zH S I)) (Wp 130 (0, [zI x6, zI x2, zU], [], zH S I) (fun w => Wp 131 (105, [zA 32, w1, zI x2, zI x3, zI x4, zI x5, zI x6, w7], w.1.toList ++ [zI 32, zI x6, zI 1, zA 32], w.2) Q))) := (WpK_iff [7, 17, 27, 38, 49, 66, 78, 87, 105, 112, 122] 10 131 _ Q).symm
set_option maxRecDepth 100000 in
theorem sg_X6_span_105_32_32 (S : PS) (I : Nat → Nat → Int) (w1 : PV) (x2 : Int) (x3 : Int) (x4 : Int) (x5 : Int) (x6 : Int) (w7 : PV) (y1 : Int) (y2 : Int) (y3 : Int) (y4 : Int) (Q : PV1 → Prop) : Wp 131 (105, [zA 32, w1, zI x2, zI x3, zI x4, zI x5, zI x6, w7], [zI y4, zI y3, zI y2, zI y1, zA 32], zH S I) Q ↔ (Wp 127 (0, [zA 32, zI y1, zI y2, zI (zsb y3 y4), zI x3, zI x4, zU], [], zH S I) (fun w => Wp 131 (112, [zA 32, w1, zI x2, zI x3, zI x4, zI x5, zI x6, w7], w.1.toList ++ [], w.2) Q)) := (WpK_iff [7, 17, 27, 38, 49, 66, 78, 87, 105, 112, 122] 4 131 _ Q).symm
set_option maxRecDepth 100000 in
theorem sg_X6_span_112_32 (S : PS) (I : Nat → Nat → Int) (w1 : PV) (x2 : Int) (x3 : Int) (x4 : Int) (x5 : Int) (x6 : Int) (w7 : PV) (y0 : Int) (Q : PV1 → Prop) : Wp 131 (112, [zA 32, w1, zI x2, zI x3, zI x4, zI x5, zI x6, w7], [zI y0], zH S I) Q ↔ (Wp 130 (0, [zI x6, zI x2, zU], [], zH S I) (fun w => Wp 131 (122, [zA 32, w1, zI x2, zI x3, zI x4, zI x5, zI x6, zI y0], w.1.toList ++ [zI x6], w.2) Q)) := (WpK_iff [7, 17, 27, 38, 49, 66, 78, 87, 105, 112, 122] 5 131 _ Q).symm
set_option maxRecDepth 100000 in
theorem sg_X6_span_122_32 (S : PS) (I : Nat → Nat → Int) (w1 : PV) (x2 : Int) (x3 : Int) (x4 : Int) (x5 : Int) (w6 : PV) (w7 : PV) (y0 : Int) (y1 : Int) (Q : PV1 → Prop) : Wp 131 (122, [zA 32, w1, zI x2, zI x3, zI x4, zI x5, w6, w7], [zI y1, zI y0], zH S I) Q ↔ (Wp 131 (87, [zA 32, w1, zI x2, zI x3, zI x4, zI x5, zI (zad y0 y1), w7], [], zH S I) Q) := (WpK_iff [7, 17, 27, 38, 49, 66, 78, 87, 105, 112, 122] 3 131 _ Q).symm
set_option maxRecDepth 100000 in
theorem sg_X6_span_66_32 (S : PS) (I : Nat → Nat → Int) (x1 : Int) (x2 : Int) (x3 : Int) (x4 : Int) (x5 : Int) (w6 : PV) (w7 : PV) (y0 : Int) (y1 : Int) (Q : PV1 → Prop) : Wp 131 (66, [zA 32, zI x1, zI x2, zI x3, zI x4, zI x5, w6, w7], [zI y1, zI y0], zH S I) Q ↔ (Wp 131 (49, [zA 32, zI x1, zI x2, zI x3, zI x4, zI x5, zI (zad y0 y1), w7], [], zH S I) Q) := (WpK_iff [7, 17, 27, 38, 49, 66, 78, 87, 105, 112, 122] 3 131 _ Q).symm
set_option maxRecDepth 100000 in
theorem sg_X6_told_0_32 (S : PS) (I : Nat → Nat → Int) (x1 : Int) (x2 : Int) (Q : PV1 → Prop) : Wp 133 (0, [zA 32, zI x1, zI x2], [], zH S I) Q ↔ (Wp 118 (0, [zA 32, zI x1], [], zH S I) (fun w => Wp 133 (5, [zA 32, zI x1, zI x2], w.1.toList ++ [], w.2) Q)) := (WpK_iff [5, 99] 3 133 _ Q).symm
set_option maxRecDepth 100000 in
theorem sg_X6_told_5_32 (S : PS) (I : Nat → Nat → Int) (x1 : Int) (x2 : Int) (y0 : Int) (Q : PV1 → Prop) : Wp 133 (5, [zA 32, zI x1, zI x2], [zI y0], zH S I) Q ↔ (cond (decide (y0 = 0)) (Q (some (zI ((-101))), zH S I)) (cond (decide (x2 = 0)) (cond (zib x1 16) (Q (some (zI (I 34 (x1 : Int).toNat)), zH S I)) False) (cond (decide (x2 = 1)) (cond (zib x1 17) (Q (some (zI (I 35 (x1 : Int).toNat)), zH S I)) False) (cond (decide (x2 = 2)) (cond (zib x1 17) (Q (some (zI (I 36 (x1 : Int).toNat)), zH S I)) False) (cond (decide (x2 = 3)) (cond (zib x1 17) (Q (some (zI (I 37 (x1 : Int).toNat)), zH S I)) False) (cond (decide (x2 = 4)) (cond (zib x1 16) (Q (some (zI (I 38 (x1 : Int).toNat)), zH S I)) False) (cond (decide (x2 = 5)) (Wp 132 (0, [zA 32, zI (zsb x2 5), zI x1, zU], [], zH S I) (fun w => Wp 133 (99, [zA 32, zI x1, zI x2], w.1.toList ++ [], w.2) Q)) (cond (decide (x2 = 6)) (Wp 132 (0, [zA 32, zI (zsb x2 5), zI x1, zU], [], zH S I) (fun w => Wp 133 (99, [zA 32, zI x1, zI x2], w.1.toList ++ [], w.2) Q)) (Q (some (zI ((-101))), zH S I)))))))))) := (WpK_iff [5, 99] 9 133 _ Q).symm
set_option maxRecDepth 100000 in
theorem sg_X6_told_99 (S : PS) (I : Nat → Nat → Int) (w0 : PV) (w1 : PV) (w2 : PV) (y0 : Int) (Q : PV1 → Prop) : Wp 133 (99, [w0, w1, w2], [zI y0], zH S I) Q ↔ (Q (some (zI y0), zH S I)) := (WpK_iff [5, 99] 1 133 _ Q).symm
set_option maxRecDepth 100000 in
theorem sg_X6_drop_0_32 (S : PS) (I : Nat → Nat → Int) (x1 : Int) (Q : PV1 → Prop) : Wp 134 (0, [zA 32, zI x1], [], zH S I) Q ↔ (Wp 118 (0, [zA 32, zI x1], [], zH S I) (fun w => Wp 134 (5, [zA 32, zI x1], w.1.toList ++ [], w.2) Q)) := (WpK_iff [5, 16, 25] 3 134 _ Q).symm
set_option maxRecDepth 100000 in
theorem sg_X6_drop_5_32 (S : PS) (I : Nat → Nat → Int) (x1 : Int) (y0 : Int) (Q : PV1 → Prop) : Wp 134 (5, [zA 32, zI x1], [zI y0], zH S I) Q ↔ (cond (decide (y0 = 0)) (Q (some (zI ((-1))), zH S I)) (Wp 132 (0, [zA 32, zI 0, zI x1, zU], [], zH S I) (fun w => Wp 134 (16, [zA 32, zI x1], w.1.toList ++ [], w.2) Q))) := (WpK_iff [5, 16, 25] 5 134 _ Q).symm
set_option maxRecDepth 100000 in
theorem sg_X6_drop_16_32 (S : PS) (I : Nat → Nat → Int) (x1 : Int) (y0 : Int) (Q : PV1 → Prop) : Wp 134 (16, [zA 32, zI x1], [zI y0], zH S I) Q ↔ (cond (decide (y0 < 0)) (Wp 132 (0, [zA 32, zI 1, zI x1, zU], [], zH S I) (fun w => Wp 134 (25, [zA 32, zI x1], w.1.toList ++ [], w.2) Q)) (Q (some (zI ((-2))), zH S I))) := (WpK_iff [5, 16, 25] 5 134 _ Q).symm
set_option maxRecDepth 100000 in
theorem sg_X6_drop_25_32 (S : PS) (I : Nat → Nat → Int) (x1 : Int) (y0 : Int) (Q : PV1 → Prop) : Wp 134 (25, [zA 32, zI x1], [zI y0], zH S I) Q ↔ (cond (decide (y0 < 0)) (cond (zib x1 16 && zbb 0) (Q (some (zI 1), zH S (zs2 (zs2 I 33 (x1 : Int).toNat 0) 32 9 0))) False) (Q (some (zI ((-2))), zH S I))) := (WpK_iff [5, 16, 25] 11 134 _ Q).symm
set_option maxRecDepth 100000 in
theorem sg_X6_act_0_32 (S : PS) (I : Nat → Nat → Int) (x1 : Int) (x2 : Int) (w3 : PV) (Q : PV1 → Prop) : Wp 135 (0, [zA 32, zI x1, zI x2, w3], [], zH S I) Q ↔ (Wp 118 (0, [zA 32, zI x1], [], zH S I) (fun w => Wp 135 (5, [zA 32, zI x1, zI x2, w3], w.1.toList ++ [], w.2) Q)) := (WpK_iff [5, 15] 3 135 _ Q).symm
set_option maxRecDepth 100000 in
theorem sg_X6_act_5_32 (S : PS) (I : Nat → Nat → Int) (x1 : Int) (x2 : Int) (w3 : PV) (y0 : Int) (Q : PV1 → Prop) : Wp 135 (5, [zA 32, zI x1, zI x2, w3], [zI y0], zH S I) Q ↔ (cond (decide (y0 = 0)) (Q (some (zI ((-1))), zH S I)) (Wp 115 (0, [zI x2, zI 0, zI 15], [], zH S I) (fun w => Wp 135 (15, [zA 32, zI x1, zI x2, w3], w.1.toList ++ [], w.2) Q))) := (WpK_iff [5, 15] 5 135 _ Q).symm
set_option maxRecDepth 100000 in
theorem sg_X6_act_15_32 (S : PS) (I : Nat → Nat → Int) (x1 : Int) (x2 : Int) (w3 : PV) (y0 : Int) (Q : PV1 → Prop) : Wp 135 (15, [zA 32, zI x1, zI x2, w3], [zI y0], zH S I) Q ↔ (cond (decide (y0 = 0)) (Q (some (zI ((-1))), zH S I)) (cond (zib x1 16) (cond (decide (I 34 (x1 : Int).toNat = 2)) (Q (some (zI ((-13))), zH S I)) (cond (zib x1 16) (cond (zib x1 16) (Q (some (zI (I 38 (x1 : Int).toNat)), zH S (zs2 (zs2 I 38 (x1 : Int).toNat x2) 32 9 0))) False) False)) False)) := (WpK_iff [5, 15] 22 135 _ Q).symm
set_option maxRecDepth 100000 in
theorem sg_X6_overlap_0_32 (S : PS) (I : Nat → Nat → Int) (x1 : Int) (x2 : Int) (Q : PV1 → Prop) : Wp 136 (0, [zA 32, zI x1, zI x2], [], zH S I) Q ↔ (Wp 118 (0, [zA 32, zI x1], [], zH S I) (fun w => Wp 136 (5, [zA 32, zI x1, zI x2], w.1.toList ++ [], w.2) Q)) := (WpK_iff [5, 13, 26] 3 136 _ Q).symm
set_option maxRecDepth 100000 in
theorem sg_X6_overlap_5_32 (S : PS) (I : Nat → Nat → Int) (x1 : Int) (x2 : Int) (y0 : Int) (Q : PV1 → Prop) : Wp 136 (5, [zA 32, zI x1, zI x2], [zI y0], zH S I) Q ↔ (cond (decide (y0 = 0)) (Q (some (zI ((-1))), zH S I)) (Wp 118 (0, [zA 32, zI x2], [], zH S I) (fun w => Wp 136 (13, [zA 32, zI x1, zI x2], w.1.toList ++ [], w.2) Q))) := (WpK_iff [5, 13, 26] 4 136 _ Q).symm
set_option maxRecDepth 100000 in
theorem sg_X6_overlap_13_32 (S : PS) (I : Nat → Nat → Int) (x1 : Int) (x2 : Int) (y0 : Int) (Q : PV1 → Prop) : Wp 136 (13, [zA 32, zI x1, zI x2], [zI y0], zH S I) Q ↔ (cond (decide (y0 = 0)) (Q (some (zI ((-1))), zH S I)) (Wp 121 (0, [zA 32, zI x1, zI x2], [], zH S I) (fun w => Wp 136 (26, [zA 32, zI x1, zI x2], w.1.toList ++ [], w.2) Q))) := (WpK_iff [5, 13, 26] 5 136 _ Q).symm
set_option maxRecDepth 100000 in
theorem sg_X6_overlap_26 (S : PS) (I : Nat → Nat → Int) (w0 : PV) (w1 : PV) (w2 : PV) (y0 : Int) (Q : PV1 → Prop) : Wp 136 (26, [w0, w1, w2], [zI y0], zH S I) Q ↔ (cond (decide (y0 = 0)) (Q (some (zI 0), zH S I)) (Q (some (zI 1), zH S I))) := (WpK_iff [5, 13, 26] 4 136 _ Q).symm
set_option maxRecDepth 100000 in
theorem sg_X6_higher_0_32 (S : PS) (I : Nat → Nat → Int) (x1 : Int) (x2 : Int) (Q : PV1 → Prop) : Wp 137 (0, [zA 32, zI x1, zI x2], [], zH S I) Q ↔ (Wp 118 (0, [zA 32, zI x1], [], zH S I) (fun w => Wp 137 (5, [zA 32, zI x1, zI x2], w.1.toList ++ [], w.2) Q)) := (WpK_iff [5, 13, 35] 3 137 _ Q).symm
set_option maxRecDepth 100000 in
theorem sg_X6_higher_5_32 (S : PS) (I : Nat → Nat → Int) (x1 : Int) (x2 : Int) (y0 : Int) (Q : PV1 → Prop) : Wp 137 (5, [zA 32, zI x1, zI x2], [zI y0], zH S I) Q ↔ (cond (decide (y0 = 0)) (Q (some (zI ((-1))), zH S I)) (Wp 118 (0, [zA 32, zI x2], [], zH S I) (fun w => Wp 137 (13, [zA 32, zI x1, zI x2], w.1.toList ++ [], w.2) Q))) := (WpK_iff [5, 13, 35] 4 137 _ Q).symm
set_option maxRecDepth 100000 in
theorem sg_X6_higher_13_32 (S : PS) (I : Nat → Nat → Int) (x1 : Int) (x2 : Int) (y0 : Int) (Q : PV1 → Prop) : Wp 137 (13, [zA 32, zI x1, zI x2], [zI y0], zH S I) Q ↔ (cond (decide (y0 = 0)) (Q (some (zI ((-1))), zH S I)) (cond (decide (x1 = x2)) (Q (some (zI 0), zH S I)) (Wp 122 (0, [zA 32, zI x1, zI x2], [], zH S I) (fun w => Wp 137 (35, [zA 32, zI x1, zI x2], w.1.toList ++ [], w.2) Q)))) := (WpK_iff [5, 13, 35] 8 137 _ Q).symm
set_option maxRecDepth 100000 in
theorem sg_X6_higher_35 (S : PS) (I : Nat → Nat → Int) (w0 : PV) (w1 : PV) (w2 : PV) (y0 : Int) (Q : PV1 → Prop) : Wp 137 (35, [w0, w1, w2], [zI y0], zH S I) Q ↔ (cond (decide (y0 = 0)) (Q (some (zI 2), zH S I)) (Q (some (zI 1), zH S I))) := (WpK_iff [5, 13, 35] 4 137 _ Q).symm
set_option maxRecDepth 100000 in
theorem sg_X6_put_0_32 (S : PS) (I : Nat → Nat → Int) (x1 : Int) (x2 : Int) (w3 : PV) (Q : PV1 → Prop) : Wp 148 (0, [zA 32, zI x1, zI x2, w3], [], zH S I) Q ↔ (Wp 146 (0, [zA 32, zI x1, zI x2, zU, zU], [], zH S I) (fun w => Wp 148 (6, [zA 32, zI x1, zI x2, w3], w.1.toList ++ [], w.2) Q)) := (WpK_iff [6, 18, 24] 4 148 _ Q).symm
set_option maxRecDepth 100000 in
theorem sg_X6_put_6_32 (S : PS) (I : Nat → Nat → Int) (x1 : Int) (x2 : Int) (w3 : PV) (y0 : Int) (Q : PV1 → Prop) : Wp 148 (6, [zA 32, zI x1, zI x2, w3], [zI y0], zH S I) Q ↔ (cond (decide (y0 < 0)) (Q (some (zI y0), zH S I)) (Wp 123 (0, [zA 32, zI ((-1)), zU, zU], [], zH S I) (fun w => Wp 148 (18, [zA 32, zI x1, zI x2, zI y0], w.1.toList ++ [], w.2) Q))) := (WpK_iff [6, 18, 24] 6 148 _ Q).symm
set_option maxRecDepth 100000 in
theorem sg_X6_put_18_32 (S : PS) (I : Nat → Nat → Int) (x1 : Int) (x2 : Int) (w3 : PV) (Q : PV1 → Prop) : Wp 148 (18, [zA 32, zI x1, zI x2, w3], [], zH S I) Q ↔ (Wp 147 (0, [zA 32, zI x1, zI x2, zU, zU, zU], [], zH S I) (fun w => Wp 148 (24, [zA 32, zI x1, zI x2, w3], w.1.toList ++ [], w.2) Q)) := (WpK_iff [6, 18, 24] 4 148 _ Q).symm
set_option maxRecDepth 100000 in
theorem sg_X6_put_24 (S : PS) (I : Nat → Nat → Int) (w0 : PV) (w1 : PV) (w2 : PV) (w3 : PV) (y0 : Int) (Q : PV1 → Prop) : Wp 148 (24, [w0, w1, w2, w3], [zI y0], zH S I) Q ↔ (Q (some (zI y0), zH S I)) := (WpK_iff [6, 18, 24] 1 148 _ Q).symm
set_option maxRecDepth 100000 in
theorem sg_X6_writes_0_32 (S : PS) (I : Nat → Nat → Int) (x1 : Int) (x2 : Int) (w3 : PV) (w4 : PV) (Q : PV1 → Prop) : Wp 146 (0, [zA 32, zI x1, zI x2, w3, w4], [], zH S I) Q ↔ (Wp 145 (0, [zA 32, zI x1, zI x2], [], zH S I) (fun w => Wp 146 (6, [zA 32, zI x1, zI x2, w3, w4], w.1.toList ++ [], w.2) Q)) := (WpK_iff [6, 18, 23] 4 146 _ Q).symm
set_option maxRecDepth 100000 in
theorem sg_X6_writes_6_32 (S : PS) (I : Nat → Nat → Int) (x1 : Int) (x2 : Int) (w3 : PV) (w4 : PV) (y0 : Int) (Q : PV1 → Prop) : Wp 146 (6, [zA 32, zI x1, zI x2, w3, w4], [zI y0], zH S I) Q ↔ (cond (decide (y0 < 0)) (Q (some (zI y0), zH S I)) (Wp 142 (0, [zA 32, zI x1, zU, zU, zU, zU], [], zH S I) (fun w => Wp 146 (18, [zA 32, zI x1, zI x2, zI y0, w4], w.1.toList ++ [], w.2) Q))) := (WpK_iff [6, 18, 23] 6 146 _ Q).symm
set_option maxRecDepth 100000 in
theorem sg_X6_writes_18_32 (S : PS) (I : Nat → Nat → Int) (w1 : PV) (x2 : Int) (w3 : PV) (w4 : PV) (Q : PV1 → Prop) : Wp 146 (18, [zA 32, w1, zI x2, w3, w4], [], zH S I) Q ↔ (Wp 144 (0, [zA 32, zI x2, zU, zU], [], zH S I) (fun w => Wp 146 (23, [zA 32, w1, zI x2, w3, w4], w.1.toList ++ [], w.2) Q)) := (WpK_iff [6, 18, 23] 3 146 _ Q).symm
set_option maxRecDepth 100000 in
theorem sg_X6_writes_23_32 (S : PS) (I : Nat → Nat → Int) (w1 : PV) (w2 : PV) (w3 : PV) (w4 : PV) (y0 : Int) (Q : PV1 → Prop) : Wp 146 (23, [zA 32, w1, w2, w3, w4], [zI y0], zH S I) Q ↔ (cond (decide (y0 < 0)) (Q (some (zI ((-3))), zH S I)) (cond (zib y0 2000) (Q (some (zI (zad (I 45 (y0 : Int).toNat) 1)), zH S I)) False)) := (WpK_iff [6, 18, 23] 10 146 _ Q).symm
set_option maxRecDepth 100000 in
theorem sg_X6_write_0_32 (S : PS) (I : Nat → Nat → Int) (x1 : Int) (x2 : Int) (Q : PV1 → Prop) : Wp 149 (0, [zA 32, zI x1, zI x2], [], zH S I) Q ↔ (cond (decide (x1 = (-1))) (Q (some (zI (I 32 21)), zH S I)) (Wp 115 (0, [zI x1, zI 0, zI (zsb (I 32 21) 1)], [], zH S I) (fun w => Wp 149 (21, [zA 32, zI x1, zI x2], w.1.toList ++ [], w.2) Q))) := (WpK_iff [21, 30] 10 149 _ Q).symm
set_option maxRecDepth 100000 in
theorem sg_X6_write_21_32 (S : PS) (I : Nat → Nat → Int) (x1 : Int) (x2 : Int) (y0 : Int) (Q : PV1 → Prop) : Wp 149 (21, [zA 32, zI x1, zI x2], [zI y0], zH S I) Q ↔ (cond (decide (y0 = 0)) (Q (some (zI ((-1))), zH S I)) (Wp 115 (0, [zI x2, zI 0, zI 1], [], zH S I) (fun w => Wp 149 (30, [zA 32, zI x1, zI x2], w.1.toList ++ [], w.2) Q))) := (WpK_iff [21, 30] 5 149 _ Q).symm
set_option maxRecDepth 100000 in
theorem sg_X6_write_30_32 (S : PS) (I : Nat → Nat → Int) (x1 : Int) (x2 : Int) (y0 : Int) (Q : PV1 → Prop) : Wp 149 (30, [zA 32, zI x1, zI x2], [zI y0], zH S I) Q ↔ (cond (decide (y0 = 0)) (Q (some (zI ((-1))), zH S I)) (cond (decide (x2 = 0)) (cond (zib x1 2000) (Q (some (zI (I 48 (x1 : Int).toNat)), zH S I)) False) (cond (zib x1 2000) (Q (some (zI (I 49 (x1 : Int).toNat)), zH S I)) False))) := (WpK_iff [21, 30] 9 149 _ Q).symm
set_option maxRecDepth 100000 in
theorem sg_X6_strike_0_32 (S : PS) (I : Nat → Nat → Int) (x1 : Int) (x2 : Int) (w3 : PV) (Q : PV1 → Prop) : Wp 150 (0, [zA 32, zI x1, zI x2, w3], [], zH S I) Q ↔ (Wp 119 (0, [zI x1], [], zH S I) (fun w => Wp 150 (4, [zA 32, zI x1, zI x2, w3], w.1.toList ++ [], w.2) Q)) := (WpK_iff [4, 12, 23, 36] 2 150 _ Q).symm
set_option maxRecDepth 100000 in
theorem sg_X6_strike_4_32 (S : PS) (I : Nat → Nat → Int) (x1 : Int) (x2 : Int) (w3 : PV) (y0 : Int) (Q : PV1 → Prop) : Wp 150 (4, [zA 32, zI x1, zI x2, w3], [zI y0], zH S I) Q ↔ (cond (decide (y0 = 0)) (Q (some (zI ((-1))), zH S I)) (Wp 118 (0, [zA 32, zI x2], [], zH S I) (fun w => Wp 150 (12, [zA 32, zI x1, zI x2, w3], w.1.toList ++ [], w.2) Q))) := (WpK_iff [4, 12, 23, 36] 4 150 _ Q).symm
set_option maxRecDepth 100000 in
theorem sg_X6_strike_12_32 (S : PS) (I : Nat → Nat → Int) (x1 : Int) (x2 : Int) (w3 : PV) (y0 : Int) (Q : PV1 → Prop) : Wp 150 (12, [zA 32, zI x1, zI x2, w3], [zI y0], zH S I) Q ↔ (cond (decide (y0 = 0)) (Q (some (zI ((-1))), zH S I)) (Wp 132 (0, [zA 32, zI x1, zI x2, zU], [], zH S I) (fun w => Wp 150 (23, [zA 32, zI x1, zI x2, w3], w.1.toList ++ [], w.2) Q))) := (WpK_iff [4, 12, 23, 36] 5 150 _ Q).symm
set_option maxRecDepth 100000 in
theorem sg_X6_strike_23_32 (S : PS) (I : Nat → Nat → Int) (x1 : Int) (w2 : PV) (w3 : PV) (y0 : Int) (Q : PV1 → Prop) : Wp 150 (23, [zA 32, zI x1, w2, w3], [zI y0], zH S I) Q ↔ (cond (decide (y0 < 0)) (Q (some (zI ((-2))), zH S I)) (Wp 123 (0, [zA 32, zI ((-1)), zU, zU], [], zH S I) (fun w => Wp 150 (36, [zA 32, zI x1, w2, zI y0], w.1.toList ++ [], w.2) Q))) := (WpK_iff [4, 12, 23, 36] 6 150 _ Q).symm
set_option maxRecDepth 100000 in
theorem sg_X6_strike_36_32 (S : PS) (I : Nat → Nat → Int) (x1 : Int) (w2 : PV) (x3 : Int) (Q : PV1 → Prop) : Wp 150 (36, [zA 32, zI x1, w2, zI x3], [], zH S I) Q ↔ (cond (zib (zad (zml 6 x1) x3) 12) (Q (some (zI x3), zH S (zs2 (zs2 I 39 (zad (zml 6 x1) x3 : Int).toNat ((-2))) 32 21 0))) False) := (WpK_iff [4, 12, 23, 36] 14 150 _ Q).symm
set_option maxRecDepth 100000 in
theorem sg_X6_at_0_32 (S : PS) (I : Nat → Nat → Int) (x1 : Int) (x2 : Int) (Q : PV1 → Prop) : Wp 151 (0, [zA 32, zI x1, zI x2], [], zH S I) Q ↔ (Wp 119 (0, [zI x1], [], zH S I) (fun w => Wp 151 (4, [zA 32, zI x1, zI x2], w.1.toList ++ [], w.2) Q)) := (WpK_iff [4, 18] 2 151 _ Q).symm
set_option maxRecDepth 100000 in
theorem sg_X6_at_4_32 (S : PS) (I : Nat → Nat → Int) (x1 : Int) (x2 : Int) (y0 : Int) (Q : PV1 → Prop) : Wp 151 (4, [zA 32, zI x1, zI x2], [zI y0], zH S I) Q ↔ (cond (decide (y0 = 0)) (Q (some (zI ((-1))), zH S I)) (Wp 115 (0, [zI x2, zI 0, zI (zsb (I 32 6) 1)], [], zH S I) (fun w => Wp 151 (18, [zA 32, zI x1, zI x2], w.1.toList ++ [], w.2) Q))) := (WpK_iff [4, 18] 8 151 _ Q).symm
set_option maxRecDepth 100000 in
theorem sg_X6_at_18_32 (S : PS) (I : Nat → Nat → Int) (x1 : Int) (x2 : Int) (y0 : Int) (Q : PV1 → Prop) : Wp 151 (18, [zA 32, zI x1, zI x2], [zI y0], zH S I) Q ↔ (cond (decide (y0 = 0)) (Q (some (zI ((-1))), zH S I)) (cond (zib (zad (zml 6 x1) x2) 12) (Q (some (zI (I 39 (zad (zml 6 x1) x2 : Int).toNat)), zH S I)) False)) := (WpK_iff [4, 18] 11 151 _ Q).symm
set_option maxRecDepth 100000 in
theorem sg_X6_judged_0_32 (S : PS) (I : Nat → Nat → Int) (x1 : Int) (x2 : Int) (Q : PV1 → Prop) : Wp 153 (0, [zA 32, zI x1, zI x2], [], zH S I) Q ↔ (Wp 115 (0, [zI x1, zI 0, zI 2], [], zH S I) (fun w => Wp 153 (6, [zA 32, zI x1, zI x2], w.1.toList ++ [], w.2) Q)) := (WpK_iff [6, 16, 42] 4 153 _ Q).symm
set_option maxRecDepth 100000 in
theorem sg_X6_judged_6_32 (S : PS) (I : Nat → Nat → Int) (x1 : Int) (x2 : Int) (y0 : Int) (Q : PV1 → Prop) : Wp 153 (6, [zA 32, zI x1, zI x2], [zI y0], zH S I) Q ↔ (cond (decide (y0 = 0)) (Wp 153 (42, [zA 32, zI x1, zI x2], [zI ((-101))], zH S I) Q) (Wp 115 (0, [zI x2, zI 0, zI 31], [], zH S I) (fun w => Wp 153 (16, [zA 32, zI x1, zI x2], w.1.toList ++ [], w.2) Q))) := (WpK_iff [6, 16, 42] 5 153 _ Q).symm
set_option maxRecDepth 100000 in
theorem sg_X6_judged_42 (S : PS) (I : Nat → Nat → Int) (w0 : PV) (w1 : PV) (w2 : PV) (y0 : Int) (Q : PV1 → Prop) : Wp 153 (42, [w0, w1, w2], [zI y0], zH S I) Q ↔ (Q (some (zI y0), zH S I)) := (WpK_iff [6, 16, 42] 1 153 _ Q).symm
set_option maxRecDepth 100000 in
theorem sg_X6_judged_16_32 (S : PS) (I : Nat → Nat → Int) (x1 : Int) (x2 : Int) (y0 : Int) (Q : PV1 → Prop) : Wp 153 (16, [zA 32, zI x1, zI x2], [zI y0], zH S I) Q ↔ (cond (decide (y0 = 0)) (Wp 153 (42, [zA 32, zI x1, zI x2], [zI ((-101))], zH S I) Q) (cond (decide (x1 = 2)) (Wp 152 (0, [zA 32, zI (I 32 7), zI x2, zU, zU], [], zH S I) (fun w => Wp 153 (42, [zA 32, zI x1, zI x2], w.1.toList ++ [], w.2) Q)) (Wp 152 (0, [zA 32, zI x1, zI x2, zU, zU], [], zH S I) (fun w => Wp 153 (42, [zA 32, zI x1, zI x2], w.1.toList ++ [], w.2) Q)))) := (WpK_iff [6, 16, 42] 10 153 _ Q).symm
set_option maxRecDepth 100000 in
theorem sg_X6_right_0_32 (S : PS) (I : Nat → Nat → Int) (x1 : Int) (w2 : PV) (w3 : PV) (Q : PV1 → Prop) : Wp 155 (0, [zA 32, zI x1, w2, w3], [], zH S I) Q ↔ (Wp 119 (0, [zI x1], [], zH S I) (fun w => Wp 155 (4, [zA 32, zI x1, w2, w3], w.1.toList ++ [], w.2) Q)) := (WpK_iff [4, 13, 26, 32] 2 155 _ Q).symm
set_option maxRecDepth 100000 in
theorem sg_X6_right_4_32 (S : PS) (I : Nat → Nat → Int) (x1 : Int) (w2 : PV) (w3 : PV) (y0 : Int) (Q : PV1 → Prop) : Wp 155 (4, [zA 32, zI x1, w2, w3], [zI y0], zH S I) Q ↔ (cond (decide (y0 = 0)) (Q (some (zI ((-1))), zH S I)) (Wp 155 (13, [zA 32, zI x1, zI 0, zI 0], [], zH S I) Q)) := (WpK_iff [4, 13, 26, 32] 5 155 _ Q).symm
set_option maxRecDepth 100000 in
theorem sg_X6_right_13_32 (S : PS) (I : Nat → Nat → Int) (x1 : Int) (x2 : Int) (x3 : Int) (Q : PV1 → Prop) : Wp 155 (13, [zA 32, zI x1, zI x2, zI x3], [], zH S I) Q ↔ (cond (decide (x3 < 32)) (Wp 152 (0, [zA 32, zI x1, zI x3, zU, zU], [], zH S I) (fun w => Wp 155 (26, [zA 32, zI x1, zI x2, zI x3], w.1.toList ++ [zI x2], w.2) Q)) (Q (some (zI x2), zH S I))) := (WpK_iff [4, 13, 26, 32] 8 155 _ Q).symm
set_option maxRecDepth 100000 in
theorem sg_X6_right_26_32 (S : PS) (I : Nat → Nat → Int) (x1 : Int) (w2 : PV) (x3 : Int) (y0 : Int) (y1 : Int) (Q : PV1 → Prop) : Wp 155 (26, [zA 32, zI x1, w2, zI x3], [zI y1, zI y0], zH S I) Q ↔ (Wp 154 (0, [zA 32, zI x1, zI x3, zU, zU], [], zH S I) (fun w => Wp 155 (32, [zA 32, zI x1, w2, zI x3], w.1.toList ++ [zI y1, zI y0], w.2) Q)) := (WpK_iff [4, 13, 26, 32] 4 155 _ Q).symm
set_option maxRecDepth 100000 in
theorem sg_X6_right_32_32 (S : PS) (I : Nat → Nat → Int) (x1 : Int) (w2 : PV) (x3 : Int) (y0 : Int) (y1 : Int) (y2 : Int) (Q : PV1 → Prop) : Wp 155 (32, [zA 32, zI x1, w2, zI x3], [zI y2, zI y1, zI y0], zH S I) Q ↔ (cond (decide (y1 = y2)) (Wp 155 (13, [zA 32, zI x1, zI (zad y0 1), zI (zad x3 1)], [], zH S I) Q) (Wp 155 (13, [zA 32, zI x1, zI (zad y0 0), zI (zad x3 1)], [], zH S I) Q)) := (WpK_iff [4, 13, 26, 32] 7 155 _ Q).symm
set_option maxRecDepth 100000 in
theorem sg_X6_covered_0_32 (S : PS) (I : Nat → Nat → Int) (x1 : Int) (x2 : Int) (Q : PV1 → Prop) : Wp 157 (0, [zA 32, zI x1, zI x2], [], zH S I) Q ↔ (Wp 119 (0, [zI x1], [], zH S I) (fun w => Wp 157 (4, [zA 32, zI x1, zI x2], w.1.toList ++ [], w.2) Q)) := (WpK_iff [4, 12, 23, 37] 2 157 _ Q).symm
set_option maxRecDepth 100000 in
theorem sg_X6_covered_4_32 (S : PS) (I : Nat → Nat → Int) (x1 : Int) (x2 : Int) (y0 : Int) (Q : PV1 → Prop) : Wp 157 (4, [zA 32, zI x1, zI x2], [zI y0], zH S I) Q ↔ (cond (decide (y0 = 0)) (Q (some (zI ((-1))), zH S I)) (Wp 118 (0, [zA 32, zI x2], [], zH S I) (fun w => Wp 157 (12, [zA 32, zI x1, zI x2], w.1.toList ++ [], w.2) Q))) := (WpK_iff [4, 12, 23, 37] 4 157 _ Q).symm
set_option maxRecDepth 100000 in
theorem sg_X6_covered_12_32 (S : PS) (I : Nat → Nat → Int) (x1 : Int) (x2 : Int) (y0 : Int) (Q : PV1 → Prop) : Wp 157 (12, [zA 32, zI x1, zI x2], [zI y0], zH S I) Q ↔ (cond (decide (y0 = 0)) (Q (some (zI ((-1))), zH S I)) (Wp 132 (0, [zA 32, zI x1, zI x2, zU], [], zH S I) (fun w => Wp 157 (23, [zA 32, zI x1, zI x2], w.1.toList ++ [], w.2) Q))) := (WpK_iff [4, 12, 23, 37] 5 157 _ Q).symm
set_option maxRecDepth 100000 in
theorem sg_X6_covered_23_32 (S : PS) (I : Nat → Nat → Int) (x1 : Int) (x2 : Int) (y0 : Int) (Q : PV1 → Prop) : Wp 157 (23, [zA 32, zI x1, zI x2], [zI y0], zH S I) Q ↔ (cond (decide (y0 < 0)) (Q (some (zI ((-2))), zH S I)) (Wp 156 (0, [zA 32, zI x1, zI x2, zU, zU, zU, zU], [], zH S I) (fun w => Wp 157 (37, [zA 32, zI x1, zI x2], w.1.toList ++ [], w.2) Q))) := (WpK_iff [4, 12, 23, 37] 5 157 _ Q).symm
set_option maxRecDepth 100000 in
theorem sg_X6_covered_37 (S : PS) (I : Nat → Nat → Int) (w0 : PV) (w1 : PV) (w2 : PV) (y0 : Int) (Q : PV1 → Prop) : Wp 157 (37, [w0, w1, w2], [zI y0], zH S I) Q ↔ (cond (decide (y0 < 0)) (Q (some (zI 1), zH S I)) (Q (some (zI 0), zH S I))) := (WpK_iff [4, 12, 23, 37] 4 157 _ Q).symm
set_option maxRecDepth 100000 in
theorem sg_X6_shown_0_32 (S : PS) (I : Nat → Nat → Int) (x1 : Int) (x2 : Int) (Q : PV1 → Prop) : Wp 158 (0, [zA 32, zI x1, zI x2], [], zH S I) Q ↔ (Wp 119 (0, [zI x1], [], zH S I) (fun w => Wp 158 (4, [zA 32, zI x1, zI x2], w.1.toList ++ [], w.2) Q)) := (WpK_iff [4, 12, 25] 2 158 _ Q).symm
set_option maxRecDepth 100000 in
theorem sg_X6_shown_4_32 (S : PS) (I : Nat → Nat → Int) (x1 : Int) (x2 : Int) (y0 : Int) (Q : PV1 → Prop) : Wp 158 (4, [zA 32, zI x1, zI x2], [zI y0], zH S I) Q ↔ (cond (decide (y0 = 0)) (Wp 158 (25, [zA 32, zI x1, zI x2], [zI ((-1))], zH S I) Q) (Wp 118 (0, [zA 32, zI x2], [], zH S I) (fun w => Wp 158 (12, [zA 32, zI x1, zI x2], w.1.toList ++ [], w.2) Q))) := (WpK_iff [4, 12, 25] 4 158 _ Q).symm
set_option maxRecDepth 100000 in
theorem sg_X6_shown_25 (S : PS) (I : Nat → Nat → Int) (w0 : PV) (w1 : PV) (w2 : PV) (y0 : Int) (Q : PV1 → Prop) : Wp 158 (25, [w0, w1, w2], [zI y0], zH S I) Q ↔ (Q (some (zI y0), zH S I)) := (WpK_iff [4, 12, 25] 1 158 _ Q).symm
set_option maxRecDepth 100000 in
theorem sg_X6_shown_12_32 (S : PS) (I : Nat → Nat → Int) (x1 : Int) (x2 : Int) (y0 : Int) (Q : PV1 → Prop) : Wp 158 (12, [zA 32, zI x1, zI x2], [zI y0], zH S I) Q ↔ (cond (decide (y0 = 0)) (Wp 158 (25, [zA 32, zI x1, zI x2], [zI ((-1))], zH S I) Q) (Wp 156 (0, [zA 32, zI x1, zI x2, zU, zU, zU, zU], [], zH S I) (fun w => Wp 158 (25, [zA 32, zI x1, zI x2], w.1.toList ++ [], w.2) Q))) := (WpK_iff [4, 12, 25] 5 158 _ Q).symm
set_option maxRecDepth 100000 in
theorem sg_X6_spare_0_32 (S : PS) (I : Nat → Nat → Int) (x1 : Int) (x2 : Int) (w3 : PV) (w4 : PV) (w5 : PV) (w6 : PV) (Q : PV1 → Prop) : Wp 159 (0, [zA 32, zI x1, zI x2, w3, w4, w5, w6], [], zH S I) Q ↔ (Wp 119 (0, [zI x1], [], zH S I) (fun w => Wp 159 (4, [zA 32, zI x1, zI x2, w3, w4, w5, w6], w.1.toList ++ [], w.2) Q)) := (WpK_iff [4, 14, 24, 35, 48, 58, 103] 2 159 _ Q).symm
set_option maxRecDepth 100000 in
theorem sg_X6_spare_4_32 (S : PS) (I : Nat → Nat → Int) (x1 : Int) (x2 : Int) (w3 : PV) (w4 : PV) (w5 : PV) (w6 : PV) (y0 : Int) (Q : PV1 → Prop) : Wp 159 (4, [zA 32, zI x1, zI x2, w3, w4, w5, w6], [zI y0], zH S I) Q ↔ (cond (decide (y0 = 0)) (Q (some (zI ((-1))), zH S I)) (Wp 115 (0, [zI x2, zI 0, zI 99], [], zH S I) (fun w => Wp 159 (14, [zA 32, zI x1, zI x2, w3, w4, w5, w6], w.1.toList ++ [], w.2) Q))) := (WpK_iff [4, 14, 24, 35, 48, 58, 103] 5 159 _ Q).symm
set_option maxRecDepth 100000 in
theorem sg_X6_spare_14_32 (S : PS) (I : Nat → Nat → Int) (x1 : Int) (x2 : Int) (w3 : PV) (w4 : PV) (w5 : PV) (w6 : PV) (y0 : Int) (Q : PV1 → Prop) : Wp 159 (14, [zA 32, zI x1, zI x2, w3, w4, w5, w6], [zI y0], zH S I) Q ↔ (cond (decide (y0 = 0)) (Q (some (zI ((-1))), zH S I)) (Wp 143 (0, [zA 32, zI x1, zU, zU], [], zH S I) (fun w => Wp 159 (24, [zA 32, zI x1, zI x2, w3, w4, w5, w6], w.1.toList ++ [], w.2) Q))) := (WpK_iff [4, 14, 24, 35, 48, 58, 103] 4 159 _ Q).symm
set_option maxRecDepth 100000 in
theorem sg_X6_spare_24_32 (S : PS) (I : Nat → Nat → Int) (x1 : Int) (x2 : Int) (w3 : PV) (w4 : PV) (w5 : PV) (w6 : PV) (y0 : Int) (Q : PV1 → Prop) : Wp 159 (24, [zA 32, zI x1, zI x2, w3, w4, w5, w6], [zI y0], zH S I) Q ↔ (cond (decide (y0 = 0)) (Q (some (zI ((-3))), zH S I)) (Wp 142 (0, [zA 32, zI x1, zU, zU, zU, zU], [], zH S I) (fun w => Wp 159 (35, [zA 32, zI x1, zI x2, w3, w4, w5, w6], w.1.toList ++ [], w.2) Q))) := (WpK_iff [4, 14, 24, 35, 48, 58, 103] 4 159 _ Q).symm
set_option maxRecDepth 100000 in
theorem sg_X6_spare_35_32 (S : PS) (I : Nat → Nat → Int) (w1 : PV) (x2 : Int) (w3 : PV) (w4 : PV) (w5 : PV) (w6 : PV) (Q : PV1 → Prop) : Wp 159 (35, [zA 32, w1, zI x2, w3, w4, w5, w6], [], zH S I) Q ↔ (cond (zib 16 17) (Wp 159 (48, [zA 32, w1, zI x2, zI 0, zI 0, w5, w6], [], zH S (zs2 I 37 (16 : Int).toNat x2)) Q) False) := (WpK_iff [4, 14, 24, 35, 48, 58, 103] 9 159 _ Q).symm
set_option maxRecDepth 100000 in
theorem sg_X6_spare_48_32 (S : PS) (I : Nat → Nat → Int) (w1 : PV) (w2 : PV) (x3 : Int) (x4 : Int) (w5 : PV) (w6 : PV) (Q : PV1 → Prop) : Wp 159 (48, [zA 32, w1, w2, zI x3, zI x4, w5, w6], [], zH S I) Q ↔ (cond (decide (x4 < 32)) (Wp 159 (58, [zA 32, w1, w2, zI x3, zI x4, zI 0, w6], [], zH S I) Q) (Q (some (zI x3), zH S I))) := (WpK_iff [4, 14, 24, 35, 48, 58, 103] 5 159 _ Q).symm
set_option maxRecDepth 100000 in
theorem sg_X6_spare_58_32 (S : PS) (I : Nat → Nat → Int) (w1 : PV) (w2 : PV) (x3 : Int) (x4 : Int) (x5 : Int) (w6 : PV) (Q : PV1 → Prop) : Wp 159 (58, [zA 32, w1, w2, zI x3, zI x4, zI x5, w6], [], zH S I) Q ↔ (cond (decide (x5 < 32)) (cond (decide (zan x5 (zxr x4 ((-1))) = 0)) (cond (zib 16 17) (cond (zib 16 17) (Wp 144 (0, [zA 32, zI 16, zU, zU], [], zH S (zs2 (zs2 I 36 (16 : Int).toNat x4) 35 (16 : Int).toNat x5)) (fun w => Wp 159 (103, [zA 32, w1, w2, zI x3, zI x4, zI x5, w6], w.1.toList ++ [zA 45], w.2) Q)) False) False) (Wp 159 (58, [zA 32, w1, w2, zI x3, zI x4, zI (zad x5 1), w6], [], zH S I) Q)) (Wp 159 (48, [zA 32, w1, w2, zI x3, zI (zad x4 1), zI x5, w6], [], zH S I) Q)) := (WpK_iff [4, 14, 24, 35, 48, 58, 103] 24 159 _ Q).symm
set_option maxRecDepth 100000 in
theorem sg_X6_spare_103_32_45 (S : PS) (I : Nat → Nat → Int) (w1 : PV) (w2 : PV) (x3 : Int) (x4 : Int) (x5 : Int) (w6 : PV) (y1 : Int) (Q : PV1 → Prop) : Wp 159 (103, [zA 32, w1, w2, zI x3, zI x4, zI x5, w6], [zI y1, zA 45], zH S I) Q ↔ (cond (zib y1 2000) (cond (decide (x3 < zad (I 45 (y1 : Int).toNat) 1)) (Wp 159 (58, [zA 32, w1, w2, zI (zad (I 45 (y1 : Int).toNat) 1), zI x4, zI (zad x5 1), zI (zad (I 45 (y1 : Int).toNat) 1)], [], zH S I) Q) (Wp 159 (58, [zA 32, w1, w2, zI x3, zI x4, zI (zad x5 1), zI (zad (I 45 (y1 : Int).toNat) 1)], [], zH S I) Q)) False) := (WpK_iff [4, 14, 24, 35, 48, 58, 103] 12 159 _ Q).symm
set_option maxRecDepth 100000 in
theorem sg_X6_melt_0_32 (S : PS) (I : Nat → Nat → Int) (x1 : Int) (x2 : Int) (x3 : Int) (w4 : PV) (w5 : PV) (w6 : PV) (w7 : PV) (w8 : PV) (w9 : PV) (w10 : PV) (w11 : PV) (w12 : PV) (Q : PV1 → Prop) : Wp 162 (0, [zA 32, zI x1, zI x2, zI x3, w4, w5, w6, w7, w8, w9, w10, w11, w12], [], zH S I) Q ↔ (Wp 119 (0, [zI x1], [], zH S I) (fun w => Wp 162 (4, [zA 32, zI x1, zI x2, zI x3, w4, w5, w6, w7, w8, w9, w10, w11, w12], w.1.toList ++ [], w.2) Q)) := (WpK_iff [4, 12, 20, 56, 65, 76, 87, 152, 165, 191, 211, 229, 292, 297, 316, 380] 2 162 _ Q).symm
set_option maxRecDepth 100000 in
theorem sg_X6_melt_4_32 (S : PS) (I : Nat → Nat → Int) (x1 : Int) (x2 : Int) (x3 : Int) (w4 : PV) (w5 : PV) (w6 : PV) (w7 : PV) (w8 : PV) (w9 : PV) (w10 : PV) (w11 : PV) (w12 : PV) (y0 : Int) (Q : PV1 → Prop) : Wp 162 (4, [zA 32, zI x1, zI x2, zI x3, w4, w5, w6, w7, w8, w9, w10, w11, w12], [zI y0], zH S I) Q ↔ (cond (decide (y0 = 0)) (Q (some (zI ((-1))), zH S I)) (Wp 118 (0, [zA 32, zI x2], [], zH S I) (fun w => Wp 162 (12, [zA 32, zI x1, zI x2, zI x3, w4, w5, w6, w7, w8, w9, w10, w11, w12], w.1.toList ++ [], w.2) Q))) := (WpK_iff [4, 12, 20, 56, 65, 76, 87, 152, 165, 191, 211, 229, 292, 297, 316, 380] 4 162 _ Q).symm
set_option maxRecDepth 100000 in
theorem sg_X6_melt_12_32 (S : PS) (I : Nat → Nat → Int) (x1 : Int) (x2 : Int) (x3 : Int) (w4 : PV) (w5 : PV) (w6 : PV) (w7 : PV) (w8 : PV) (w9 : PV) (w10 : PV) (w11 : PV) (w12 : PV) (y0 : Int) (Q : PV1 → Prop) : Wp 162 (12, [zA 32, zI x1, zI x2, zI x3, w4, w5, w6, w7, w8, w9, w10, w11, w12], [zI y0], zH S I) Q ↔ (cond (decide (y0 = 0)) (Q (some (zI ((-1))), zH S I)) (Wp 118 (0, [zA 32, zI x3], [], zH S I) (fun w => Wp 162 (20, [zA 32, zI x1, zI x2, zI x3, w4, w5, w6, w7, w8, w9, w10, w11, w12], w.1.toList ++ [], w.2) Q))) := (WpK_iff [4, 12, 20, 56, 65, 76, 87, 152, 165, 191, 211, 229, 292, 297, 316, 380] 4 162 _ Q).symm
set_option maxRecDepth 100000 in
theorem sg_X6_melt_20_32 (S : PS) (I : Nat → Nat → Int) (x1 : Int) (x2 : Int) (x3 : Int) (w4 : PV) (w5 : PV) (w6 : PV) (w7 : PV) (w8 : PV) (w9 : PV) (w10 : PV) (w11 : PV) (w12 : PV) (y0 : Int) (Q : PV1 → Prop) : Wp 162 (20, [zA 32, zI x1, zI x2, zI x3, w4, w5, w6, w7, w8, w9, w10, w11, w12], [zI y0], zH S I) Q ↔ (cond (decide (y0 = 0)) (Q (some (zI ((-1))), zH S I)) (cond (decide (x2 = x3)) (Q (some (zI ((-1))), zH S I)) (cond (zib x2 16) (cond (decide (I 34 (x2 : Int).toNat = 2)) (Q (some (zI ((-1))), zH S I)) (cond (zib x3 16) (cond (decide (I 34 (x3 : Int).toNat = 2)) (Q (some (zI ((-1))), zH S I)) (Wp 132 (0, [zA 32, zI x1, zI x2, zU], [], zH S I) (fun w => Wp 162 (56, [zA 32, zI x1, zI x2, zI x3, w4, w5, w6, w7, w8, w9, w10, w11, w12], w.1.toList ++ [], w.2) Q))) False)) False))) := (WpK_iff [4, 12, 20, 56, 65, 76, 87, 152, 165, 191, 211, 229, 292, 297, 316, 380] 20 162 _ Q).symm
set_option maxRecDepth 100000 in
theorem sg_X6_melt_56_32 (S : PS) (I : Nat → Nat → Int) (x1 : Int) (x2 : Int) (x3 : Int) (w4 : PV) (w5 : PV) (w6 : PV) (w7 : PV) (w8 : PV) (w9 : PV) (w10 : PV) (w11 : PV) (w12 : PV) (y0 : Int) (Q : PV1 → Prop) : Wp 162 (56, [zA 32, zI x1, zI x2, zI x3, w4, w5, w6, w7, w8, w9, w10, w11, w12], [zI y0], zH S I) Q ↔ (cond (decide (y0 < 0)) (cond (zib x2 17) (cond (zib x3 17) (cond (decide (0 = 0)) (Q (some (zI ((-2))), zH S I)) (cond (zib x2 17) (cond (zib x3 17) (cond (decide (I 36 (x2 : Int).toNat = I 36 (x3 : Int).toNat)) (cond (zib x2 16) (cond (zib x3 16) (cond (decide (I 38 (x2 : Int).toNat = I 38 (x3 : Int).toNat)) (Wp 160 (0, [zI (zxr (I 35 (x2 : Int).toNat) (I 35 (x3 : Int).toNat)), zU, zU], [], zH S I) (fun w => Wp 162 (152, [zA 32, zI x1, zI x2, zI x3, zI 0, zI (zxr (I 35 (x2 : Int).toNat) (I 35 (x3 : Int).toNat)), w6, w7, w8, w9, w10, w11, w12], w.1.toList ++ [], w.2) Q)) (Q (some (zI ((-2))), zH S I))) False) False) (Q (some (zI ((-2))), zH S I))) False) False)) False) False) (Wp 132 (0, [zA 32, zI x1, zI x3, zU], [], zH S I) (fun w => Wp 162 (65, [zA 32, zI x1, zI x2, zI x3, w4, w5, w6, w7, w8, w9, w10, w11, w12], w.1.toList ++ [], w.2) Q))) := (WpK_iff [4, 12, 20, 56, 65, 76, 87, 152, 165, 191, 211, 229, 292, 297, 316, 380] 35 162 _ Q).symm
set_option maxRecDepth 100000 in
theorem sg_X6_melt_152_32 (S : PS) (I : Nat → Nat → Int) (x1 : Int) (x2 : Int) (x3 : Int) (w4 : PV) (x5 : Int) (w6 : PV) (w7 : PV) (w8 : PV) (w9 : PV) (w10 : PV) (w11 : PV) (w12 : PV) (y0 : Int) (Q : PV1 → Prop) : Wp 162 (152, [zA 32, zI x1, zI x2, zI x3, w4, zI x5, w6, w7, w8, w9, w10, w11, w12], [zI y0], zH S I) Q ↔ (cond (decide (y0 = 1)) (Wp 122 (0, [zA 32, zI x2, zI x3], [], zH S I) (fun w => Wp 162 (165, [zA 32, zI x1, zI x2, zI x3, w4, zI x5, w6, w7, w8, w9, w10, w11, w12], w.1.toList ++ [], w.2) Q)) (Q (some (zI ((-2))), zH S I))) := (WpK_iff [4, 12, 20, 56, 65, 76, 87, 152, 165, 191, 211, 229, 292, 297, 316, 380] 6 162 _ Q).symm
set_option maxRecDepth 100000 in
theorem sg_X6_melt_165_32 (S : PS) (I : Nat → Nat → Int) (x1 : Int) (x2 : Int) (x3 : Int) (w4 : PV) (x5 : Int) (w6 : PV) (w7 : PV) (w8 : PV) (w9 : PV) (w10 : PV) (w11 : PV) (w12 : PV) (y0 : Int) (Q : PV1 → Prop) : Wp 162 (165, [zA 32, zI x1, zI x2, zI x3, w4, zI x5, w6, w7, w8, w9, w10, w11, w12], [zI y0], zH S I) Q ↔ (cond (decide (y0 = 0)) (cond (decide (x3 = x2)) (Wp 162 (191, [zA 32, zI x1, zI x2, zI x3, w4, zI x5, zI x3, zI x3, zI 0, w9, w10, w11, w12], [], zH S I) Q) (Wp 162 (191, [zA 32, zI x1, zI x2, zI x3, w4, zI x5, zI x3, zI x2, zI 0, w9, w10, w11, w12], [], zH S I) Q)) (cond (decide (x2 = x2)) (Wp 162 (191, [zA 32, zI x1, zI x2, zI x3, w4, zI x5, zI x2, zI x3, zI 0, w9, w10, w11, w12], [], zH S I) Q) (Wp 162 (191, [zA 32, zI x1, zI x2, zI x3, w4, zI x5, zI x2, zI x2, zI 0, w9, w10, w11, w12], [], zH S I) Q))) := (WpK_iff [4, 12, 20, 56, 65, 76, 87, 152, 165, 191, 211, 229, 292, 297, 316, 380] 12 162 _ Q).symm
set_option maxRecDepth 100000 in
theorem sg_X6_melt_191_32 (S : PS) (I : Nat → Nat → Int) (x1 : Int) (w2 : PV) (w3 : PV) (w4 : PV) (x5 : Int) (x6 : Int) (x7 : Int) (x8 : Int) (w9 : PV) (w10 : PV) (w11 : PV) (w12 : PV) (Q : PV1 → Prop) : Wp 162 (191, [zA 32, zI x1, w2, w3, w4, zI x5, zI x6, zI x7, zI x8, w9, w10, w11, w12], [], zH S I) Q ↔ (cond (decide (x8 < 32)) (Wp 152 (0, [zA 32, zI x1, zI x8, zU, zU], [], zH S I) (fun w => Wp 162 (211, [zA 32, zI x1, w2, w3, w4, zI x5, zI x6, zI x7, zI x8, w9, w10, w11, w12], w.1.toList ++ [zI x8, zA 50], w.2) Q)) (Wp 132 (0, [zA 32, zI x1, zI x7, zU], [], zH S I) (fun w => Wp 162 (229, [zA 32, zI x1, w2, w3, w4, zI x5, zI x6, zI x7, zI x8, w9, w10, w11, w12], w.1.toList ++ [zI (zml 6 x1)], w.2) Q))) := (WpK_iff [4, 12, 20, 56, 65, 76, 87, 152, 165, 191, 211, 229, 292, 297, 316, 380] 10 162 _ Q).symm
set_option maxRecDepth 100000 in
theorem sg_X6_melt_211_32_50 (S : PS) (I : Nat → Nat → Int) (x1 : Int) (w2 : PV) (w3 : PV) (w4 : PV) (x5 : Int) (x6 : Int) (x7 : Int) (x8 : Int) (w9 : PV) (w10 : PV) (w11 : PV) (w12 : PV) (y1 : Int) (y2 : Int) (Q : PV1 → Prop) : Wp 162 (211, [zA 32, zI x1, w2, w3, w4, zI x5, zI x6, zI x7, zI x8, w9, w10, w11, w12], [zI y2, zI y1, zA 50], zH S I) Q ↔ (cond (zib y1 32) (Wp 162 (191, [zA 32, zI x1, w2, w3, w4, zI x5, zI x6, zI x7, zI (zad x8 1), w9, w10, w11, w12], [], zH S (zs2 I 50 (y1 : Int).toNat y2)) Q) False) := (WpK_iff [4, 12, 20, 56, 65, 76, 87, 152, 165, 191, 211, 229, 292, 297, 316, 380] 3 162 _ Q).symm
set_option maxRecDepth 100000 in
theorem sg_X6_melt_229_32 (S : PS) (I : Nat → Nat → Int) (x1 : Int) (w2 : PV) (w3 : PV) (w4 : PV) (x5 : Int) (x6 : Int) (x7 : Int) (w8 : PV) (w9 : PV) (w10 : PV) (w11 : PV) (w12 : PV) (y0 : Int) (y1 : Int) (Q : PV1 → Prop) : Wp 162 (229, [zA 32, zI x1, w2, w3, w4, zI x5, zI x6, zI x7, w8, w9, w10, w11, w12], [zI y1, zI y0], zH S I) Q ↔ (cond (zib x6 17) (cond (zib x6 17) (cond (zib (zad y0 y1) 12) (cond (zib x6 17) (cond (zib x6 17) (cond (zib x6 17) (cond (zib x6 17) (Wp 161 (0, [zA 32, zI x1, zU, zU, zU, zU, zU], [], zH S (zs2 (zs2 (zs2 I 39 (zad y0 y1 : Int).toNat ((-2))) 36 (x6 : Int).toNat (zan ((zs2 I 39 (zad y0 y1 : Int).toNat ((-2))) 36 (x6 : Int).toNat) (zxr x5 ((-1))))) 35 (x6 : Int).toNat (zan ((zs2 (zs2 I 39 (zad y0 y1 : Int).toNat ((-2))) 36 (x6 : Int).toNat (zan ((zs2 I 39 (zad y0 y1 : Int).toNat ((-2))) 36 (x6 : Int).toNat) (zxr x5 ((-1))))) 35 (x6 : Int).toNat) (zxr x5 ((-1)))))) (fun w => Wp 162 (292, [zA 32, zI x1, w2, w3, w4, zI x5, zI x6, zI x7, zI (zad y0 y1), zI (I 36 (x6 : Int).toNat), zI (I 35 (x6 : Int).toNat), w11, w12], w.1.toList ++ [], w.2) Q)) False) False) False) False) False) False) False) := (WpK_iff [4, 12, 20, 56, 65, 76, 87, 152, 165, 191, 211, 229, 292, 297, 316, 380] 40 162 _ Q).symm
set_option maxRecDepth 100000 in
theorem sg_X6_melt_292_32 (S : PS) (I : Nat → Nat → Int) (x1 : Int) (w2 : PV) (w3 : PV) (w4 : PV) (x5 : Int) (x6 : Int) (x7 : Int) (x8 : Int) (x9 : Int) (x10 : Int) (w11 : PV) (w12 : PV) (y0 : Int) (Q : PV1 → Prop) : Wp 162 (292, [zA 32, zI x1, w2, w3, w4, zI x5, zI x6, zI x7, zI x8, zI x9, zI x10, w11, w12], [zI y0], zH S I) Q ↔ (Wp 162 (297, [zA 32, zI x1, w2, w3, w4, zI x5, zI x6, zI x7, zI x8, zI x9, zI x10, zI y0, zI 0], [], zH S I) Q) := (WpK_iff [4, 12, 20, 56, 65, 76, 87, 152, 165, 191, 211, 229, 292, 297, 316, 380] 3 162 _ Q).symm
set_option maxRecDepth 100000 in
theorem sg_X6_melt_297_32 (S : PS) (I : Nat → Nat → Int) (x1 : Int) (w2 : PV) (w3 : PV) (w4 : PV) (x5 : Int) (x6 : Int) (x7 : Int) (x8 : Int) (x9 : Int) (x10 : Int) (x11 : Int) (x12 : Int) (Q : PV1 → Prop) : Wp 162 (297, [zA 32, zI x1, w2, w3, w4, zI x5, zI x6, zI x7, zI x8, zI x9, zI x10, zI x11, zI x12], [], zH S I) Q ↔ (cond (decide (x12 < 32)) (cond (decide (x11 = 0)) (Wp 162 (297, [zA 32, zI x1, w2, w3, w4, zI x5, zI x6, zI x7, zI x8, zI x9, zI x10, zI 0, zI (zad x12 1)], [], zH S I) Q) (Wp 152 (0, [zA 32, zI x1, zI x12, zU, zU], [], zH S I) (fun w => Wp 162 (316, [zA 32, zI x1, w2, w3, w4, zI x5, zI x6, zI x7, zI x8, zI x9, zI x10, zI x11, zI x12], w.1.toList ++ [], w.2) Q))) (cond (zib x8 12) (cond (zib x6 17) (cond (zib x6 17) (cond (decide (x11 = 0)) (Q (some (zI ((-2))), zH S (zs2 (zs2 (zs2 I 39 (x8 : Int).toNat x7) 36 (x6 : Int).toNat x9) 35 (x6 : Int).toNat x10))) (Wp 123 (0, [zA 32, zI x6, zU, zU], [], zH S (zs2 (zs2 (zs2 I 39 (x8 : Int).toNat x7) 36 (x6 : Int).toNat x9) 35 (x6 : Int).toNat x10)) (fun w => Wp 162 (380, [zA 32, zI x1, w2, w3, w4, zI x5, zI x6, zI x7, zI x8, zI x9, zI x10, zI x11, zI x12], w.1.toList ++ [], w.2) Q))) False) False) False)) := (WpK_iff [4, 12, 20, 56, 65, 76, 87, 152, 165, 191, 211, 229, 292, 297, 316, 380] 23 162 _ Q).symm
set_option maxRecDepth 100000 in
theorem sg_X6_melt_316_32 (S : PS) (I : Nat → Nat → Int) (x1 : Int) (w2 : PV) (w3 : PV) (w4 : PV) (x5 : Int) (x6 : Int) (x7 : Int) (x8 : Int) (x9 : Int) (x10 : Int) (w11 : PV) (x12 : Int) (y0 : Int) (Q : PV1 → Prop) : Wp 162 (316, [zA 32, zI x1, w2, w3, w4, zI x5, zI x6, zI x7, zI x8, zI x9, zI x10, w11, zI x12], [zI y0], zH S I) Q ↔ (cond (zib x12 32) (cond (decide (y0 = I 50 (x12 : Int).toNat)) (Wp 162 (297, [zA 32, zI x1, w2, w3, w4, zI x5, zI x6, zI x7, zI x8, zI x9, zI x10, zI 1, zI (zad x12 1)], [], zH S I) Q) (Wp 162 (297, [zA 32, zI x1, w2, w3, w4, zI x5, zI x6, zI x7, zI x8, zI x9, zI x10, zI 0, zI (zad x12 1)], [], zH S I) Q)) False) := (WpK_iff [4, 12, 20, 56, 65, 76, 87, 152, 165, 191, 211, 229, 292, 297, 316, 380] 10 162 _ Q).symm
set_option maxRecDepth 100000 in
theorem sg_X6_melt_380_32 (S : PS) (I : Nat → Nat → Int) (w1 : PV) (w2 : PV) (w3 : PV) (w4 : PV) (x5 : Int) (x6 : Int) (w7 : PV) (x8 : Int) (w9 : PV) (w10 : PV) (w11 : PV) (w12 : PV) (Q : PV1 → Prop) : Wp 162 (380, [zA 32, w1, w2, w3, w4, zI x5, zI x6, w7, zI x8, w9, w10, w11, w12], [], zH S I) Q ↔ (cond (zib x8 12) (cond (zib x6 17) (cond (zib x6 17) (cond (zib x6 17) (cond (zib x6 17) (Q (some (zI x6), zH S (zs2 (zs2 (zs2 (zs2 I 39 (x8 : Int).toNat ((-2))) 36 (x6 : Int).toNat (zan ((zs2 I 39 (x8 : Int).toNat ((-2))) 36 (x6 : Int).toNat) (zxr x5 ((-1))))) 35 (x6 : Int).toNat (zan ((zs2 (zs2 I 39 (x8 : Int).toNat ((-2))) 36 (x6 : Int).toNat (zan ((zs2 I 39 (x8 : Int).toNat ((-2))) 36 (x6 : Int).toNat) (zxr x5 ((-1))))) 35 (x6 : Int).toNat) (zxr x5 ((-1))))) 32 21 0))) False) False) False) False) False) := (WpK_iff [4, 12, 20, 56, 65, 76, 87, 152, 165, 191, 211, 229, 292, 297, 316, 380] 30 162 _ Q).symm
set_option maxRecDepth 100000 in
theorem sg_X6_melt_65_32 (S : PS) (I : Nat → Nat → Int) (x1 : Int) (x2 : Int) (x3 : Int) (w4 : PV) (w5 : PV) (w6 : PV) (w7 : PV) (w8 : PV) (w9 : PV) (w10 : PV) (w11 : PV) (w12 : PV) (y0 : Int) (Q : PV1 → Prop) : Wp 162 (65, [zA 32, zI x1, zI x2, zI x3, w4, w5, w6, w7, w8, w9, w10, w11, w12], [zI y0], zH S I) Q ↔ (cond (decide (y0 < 0)) (cond (zib x2 17) (cond (zib x3 17) (cond (decide (0 = 0)) (Q (some (zI ((-2))), zH S I)) (cond (zib x2 17) (cond (zib x3 17) (cond (decide (I 36 (x2 : Int).toNat = I 36 (x3 : Int).toNat)) (cond (zib x2 16) (cond (zib x3 16) (cond (decide (I 38 (x2 : Int).toNat = I 38 (x3 : Int).toNat)) (Wp 160 (0, [zI (zxr (I 35 (x2 : Int).toNat) (I 35 (x3 : Int).toNat)), zU, zU], [], zH S I) (fun w => Wp 162 (152, [zA 32, zI x1, zI x2, zI x3, zI 0, zI (zxr (I 35 (x2 : Int).toNat) (I 35 (x3 : Int).toNat)), w6, w7, w8, w9, w10, w11, w12], w.1.toList ++ [], w.2) Q)) (Q (some (zI ((-2))), zH S I))) False) False) (Q (some (zI ((-2))), zH S I))) False) False)) False) False) (Wp 132 (0, [zA 32, zI (zsb 1 x1), zI x2, zU], [], zH S I) (fun w => Wp 162 (76, [zA 32, zI x1, zI x2, zI x3, w4, w5, w6, w7, w8, w9, w10, w11, w12], w.1.toList ++ [], w.2) Q))) := (WpK_iff [4, 12, 20, 56, 65, 76, 87, 152, 165, 191, 211, 229, 292, 297, 316, 380] 35 162 _ Q).symm
set_option maxRecDepth 100000 in
theorem sg_X6_melt_76_32 (S : PS) (I : Nat → Nat → Int) (x1 : Int) (x2 : Int) (x3 : Int) (w4 : PV) (w5 : PV) (w6 : PV) (w7 : PV) (w8 : PV) (w9 : PV) (w10 : PV) (w11 : PV) (w12 : PV) (y0 : Int) (Q : PV1 → Prop) : Wp 162 (76, [zA 32, zI x1, zI x2, zI x3, w4, w5, w6, w7, w8, w9, w10, w11, w12], [zI y0], zH S I) Q ↔ (cond (decide (y0 < 0)) (Wp 132 (0, [zA 32, zI (zsb 1 x1), zI x3, zU], [], zH S I) (fun w => Wp 162 (87, [zA 32, zI x1, zI x2, zI x3, w4, w5, w6, w7, w8, w9, w10, w11, w12], w.1.toList ++ [], w.2) Q)) (cond (zib x2 17) (cond (zib x3 17) (cond (decide (0 = 0)) (Q (some (zI ((-2))), zH S I)) (cond (zib x2 17) (cond (zib x3 17) (cond (decide (I 36 (x2 : Int).toNat = I 36 (x3 : Int).toNat)) (cond (zib x2 16) (cond (zib x3 16) (cond (decide (I 38 (x2 : Int).toNat = I 38 (x3 : Int).toNat)) (Wp 160 (0, [zI (zxr (I 35 (x2 : Int).toNat) (I 35 (x3 : Int).toNat)), zU, zU], [], zH S I) (fun w => Wp 162 (152, [zA 32, zI x1, zI x2, zI x3, zI 0, zI (zxr (I 35 (x2 : Int).toNat) (I 35 (x3 : Int).toNat)), w6, w7, w8, w9, w10, w11, w12], w.1.toList ++ [], w.2) Q)) (Q (some (zI ((-2))), zH S I))) False) False) (Q (some (zI ((-2))), zH S I))) False) False)) False) False)) := (WpK_iff [4, 12, 20, 56, 65, 76, 87, 152, 165, 191, 211, 229, 292, 297, 316, 380] 35 162 _ Q).symm
set_option maxRecDepth 100000 in
theorem sg_X6_melt_87_32 (S : PS) (I : Nat → Nat → Int) (x1 : Int) (x2 : Int) (x3 : Int) (w4 : PV) (w5 : PV) (w6 : PV) (w7 : PV) (w8 : PV) (w9 : PV) (w10 : PV) (w11 : PV) (w12 : PV) (y0 : Int) (Q : PV1 → Prop) : Wp 162 (87, [zA 32, zI x1, zI x2, zI x3, w4, w5, w6, w7, w8, w9, w10, w11, w12], [zI y0], zH S I) Q ↔ (cond (decide (y0 < 0)) (cond (zib x2 17) (cond (zib x3 17) (cond (decide (1 = 0)) (Q (some (zI ((-2))), zH S I)) (cond (zib x2 17) (cond (zib x3 17) (cond (decide (I 36 (x2 : Int).toNat = I 36 (x3 : Int).toNat)) (cond (zib x2 16) (cond (zib x3 16) (cond (decide (I 38 (x2 : Int).toNat = I 38 (x3 : Int).toNat)) (Wp 160 (0, [zI (zxr (I 35 (x2 : Int).toNat) (I 35 (x3 : Int).toNat)), zU, zU], [], zH S I) (fun w => Wp 162 (152, [zA 32, zI x1, zI x2, zI x3, zI 1, zI (zxr (I 35 (x2 : Int).toNat) (I 35 (x3 : Int).toNat)), w6, w7, w8, w9, w10, w11, w12], w.1.toList ++ [], w.2) Q)) (Q (some (zI ((-2))), zH S I))) False) False) (Q (some (zI ((-2))), zH S I))) False) False)) False) False) (cond (zib x2 17) (cond (zib x3 17) (cond (decide (0 = 0)) (Q (some (zI ((-2))), zH S I)) (cond (zib x2 17) (cond (zib x3 17) (cond (decide (I 36 (x2 : Int).toNat = I 36 (x3 : Int).toNat)) (cond (zib x2 16) (cond (zib x3 16) (cond (decide (I 38 (x2 : Int).toNat = I 38 (x3 : Int).toNat)) (Wp 160 (0, [zI (zxr (I 35 (x2 : Int).toNat) (I 35 (x3 : Int).toNat)), zU, zU], [], zH S I) (fun w => Wp 162 (152, [zA 32, zI x1, zI x2, zI x3, zI 0, zI (zxr (I 35 (x2 : Int).toNat) (I 35 (x3 : Int).toNat)), w6, w7, w8, w9, w10, w11, w12], w.1.toList ++ [], w.2) Q)) (Q (some (zI ((-2))), zH S I))) False) False) (Q (some (zI ((-2))), zH S I))) False) False)) False) False)) := (WpK_iff [4, 12, 20, 56, 65, 76, 87, 152, 165, 191, 211, 229, 292, 297, 316, 380] 36 162 _ Q).symm
set_option maxRecDepth 100000 in
theorem sg_X6_over_0_32 (S : PS) (I : Nat → Nat → Int)  (Q : PV1 → Prop) : Wp 163 (0, [zA 32], [], zH S I) Q ↔ (Wp 123 (0, [zA 32, zI ((-1)), zU, zU], [], zH S I) (fun w => Wp 163 (5, [zA 32], w.1.toList ++ [], w.2) Q)) := (WpK_iff [5] 3 163 _ Q).symm
set_option maxRecDepth 100000 in
theorem sg_X6_over_5_32 (S : PS) (I : Nat → Nat → Int)  (Q : PV1 → Prop) : Wp 163 (5, [zA 32], [], zH S I) Q ↔ (Q (some (zI ((zs2 I 32 7 (zsb 1 (I 32 7))) 32 7)), zH S (zs2 I 32 7 (zsb 1 (I 32 7))))) := (WpK_iff [5] 9 163 _ Q).symm
set_option maxRecDepth 100000 in
theorem sg_X6_differ_0_32 (S : PS) (I : Nat → Nat → Int) (w1 : PV) (w2 : PV) (Q : PV1 → Prop) : Wp 164 (0, [zA 32, w1, w2], [], zH S I) Q ↔ (Wp 164 (4, [zA 32, zI 0, zI 0], [], zH S I) Q) := (WpK_iff [4, 17, 23] 4 164 _ Q).symm
set_option maxRecDepth 100000 in
theorem sg_X6_differ_4_32 (S : PS) (I : Nat → Nat → Int) (x1 : Int) (x2 : Int) (Q : PV1 → Prop) : Wp 164 (4, [zA 32, zI x1, zI x2], [], zH S I) Q ↔ (cond (decide (x2 < 32)) (Wp 152 (0, [zA 32, zI 0, zI x2, zU, zU], [], zH S I) (fun w => Wp 164 (17, [zA 32, zI x1, zI x2], w.1.toList ++ [zI x1], w.2) Q)) (Q (some (zI x1), zH S I))) := (WpK_iff [4, 17, 23] 8 164 _ Q).symm
set_option maxRecDepth 100000 in
theorem sg_X6_differ_17_32 (S : PS) (I : Nat → Nat → Int) (w1 : PV) (x2 : Int) (y0 : Int) (y1 : Int) (Q : PV1 → Prop) : Wp 164 (17, [zA 32, w1, zI x2], [zI y1, zI y0], zH S I) Q ↔ (Wp 152 (0, [zA 32, zI 1, zI x2, zU, zU], [], zH S I) (fun w => Wp 164 (23, [zA 32, w1, zI x2], w.1.toList ++ [zI y1, zI y0], w.2) Q)) := (WpK_iff [4, 17, 23] 4 164 _ Q).symm
set_option maxRecDepth 100000 in
theorem sg_X6_differ_23_32 (S : PS) (I : Nat → Nat → Int) (w1 : PV) (x2 : Int) (y0 : Int) (y1 : Int) (y2 : Int) (Q : PV1 → Prop) : Wp 164 (23, [zA 32, w1, zI x2], [zI y2, zI y1, zI y0], zH S I) Q ↔ (cond (decide (y1 = y2)) (Wp 164 (4, [zA 32, zI (zad y0 0), zI (zad x2 1)], [], zH S I) Q) (Wp 164 (4, [zA 32, zI (zad y0 1), zI (zad x2 1)], [], zH S I) Q)) := (WpK_iff [4, 17, 23] 7 164 _ Q).symm
set_option maxRecDepth 100000 in
theorem sg_X6_build_0_32 (S : PS) (I : Nat → Nat → Int) (x1 : Int) (w2 : PV) (w3 : PV) (w4 : PV) (w5 : PV) (Q : PV1 → Prop) : Wp 165 (0, [zA 32, zI x1, w2, w3, w4, w5], [], zH S I) Q ↔ (Wp 119 (0, [zI x1], [], zH S I) (fun w => Wp 165 (4, [zA 32, zI x1, w2, w3, w4, w5], w.1.toList ++ [], w.2) Q)) := (WpK_iff [4, 11, 51, 55, 65, 89, 101, 117, 160] 2 165 _ Q).symm
set_option maxRecDepth 100000 in
theorem sg_X6_build_4_32 (S : PS) (I : Nat → Nat → Int) (x1 : Int) (w2 : PV) (w3 : PV) (w4 : PV) (w5 : PV) (y0 : Int) (Q : PV1 → Prop) : Wp 165 (4, [zA 32, zI x1, w2, w3, w4, w5], [zI y0], zH S I) Q ↔ (cond (decide (y0 = 0)) (Q (some (zI ((-1))), zH S I)) (Wp 165 (11, [zA 32, zI x1, zI 0, w3, w4, w5], [], zH S I) Q)) := (WpK_iff [4, 11, 51, 55, 65, 89, 101, 117, 160] 3 165 _ Q).symm
set_option maxRecDepth 100000 in
theorem sg_X6_build_11_32 (S : PS) (I : Nat → Nat → Int) (x1 : Int) (x2 : Int) (w3 : PV) (w4 : PV) (w5 : PV) (Q : PV1 → Prop) : Wp 165 (11, [zA 32, zI x1, zI x2, w3, w4, w5], [], zH S I) Q ↔ (cond (decide (x2 < I 32 6)) (cond (zib (zad (zml 6 (zsb 1 x1)) x2) 12) (cond (decide (I 39 (zad (zml 6 (zsb 1 x1)) x2 : Int).toNat = (-2))) (Wp 165 (11, [zA 32, zI x1, zI (zad x2 1), w3, w4, w5], [], zH S I) Q) (Q (some (zI ((-2))), zH S I))) False) (Wp 123 (0, [zA 32, zI ((-1)), zU, zU], [], zH S I) (fun w => Wp 165 (51, [zA 32, zI x1, zI x2, w3, w4, w5], w.1.toList ++ [], w.2) Q))) := (WpK_iff [4, 11, 51, 55, 65, 89, 101, 117, 160] 18 165 _ Q).symm
set_option maxRecDepth 100000 in
theorem sg_X6_build_51_32 (S : PS) (I : Nat → Nat → Int) (x1 : Int) (w2 : PV) (w3 : PV) (w4 : PV) (w5 : PV) (Q : PV1 → Prop) : Wp 165 (51, [zA 32, zI x1, w2, w3, w4, w5], [], zH S I) Q ↔ (Wp 165 (55, [zA 32, zI x1, zI 0, zI 1, w4, w5], [], zH S I) Q) := (WpK_iff [4, 11, 51, 55, 65, 89, 101, 117, 160] 4 165 _ Q).symm
set_option maxRecDepth 100000 in
theorem sg_X6_build_55_32 (S : PS) (I : Nat → Nat → Int) (x1 : Int) (x2 : Int) (x3 : Int) (w4 : PV) (w5 : PV) (Q : PV1 → Prop) : Wp 165 (55, [zA 32, zI x1, zI x2, zI x3, w4, w5], [], zH S I) Q ↔ (cond (decide (x3 = 0)) (Q (some (zI x2), zH S (zs2 I 32 21 0))) (Wp 165 (65, [zA 32, zI x1, zI x2, zI x3, zI ((-1)), zI 0], [], zH S I) Q)) := (WpK_iff [4, 11, 51, 55, 65, 89, 101, 117, 160] 7 165 _ Q).symm
set_option maxRecDepth 100000 in
theorem sg_X6_build_65_32 (S : PS) (I : Nat → Nat → Int) (x1 : Int) (x2 : Int) (w3 : PV) (x4 : Int) (x5 : Int) (Q : PV1 → Prop) : Wp 165 (65, [zA 32, zI x1, zI x2, w3, zI x4, zI x5], [], zH S I) Q ↔ (cond (decide (x5 < 16)) (cond (zib x5 16) (cond (decide (I 33 (x5 : Int).toNat = 0)) (Wp 165 (65, [zA 32, zI x1, zI x2, w3, zI x4, zI (zad x5 1)], [], zH S I) Q) (Wp 132 (0, [zA 32, zI x1, zI x5, zU], [], zH S I) (fun w => Wp 165 (89, [zA 32, zI x1, zI x2, w3, zI x4, zI x5], w.1.toList ++ [], w.2) Q))) False) (cond (decide (x4 < 0)) (cond (decide (0 = 0)) (Wp 165 (55, [zA 32, zI x1, zI (zad x2 0), zI 0, zI x4, zI x5], [], zH S I) Q) (Wp 147 (0, [zA 32, zI (zsb 1 x1), zI x4, zU, zU, zU], [], zH S I) (fun w => Wp 165 (160, [zA 32, zI x1, zI x2, zI 0, zI x4, zI x5], w.1.toList ++ [zI x2], w.2) Q))) (cond (decide (1 = 0)) (Wp 165 (55, [zA 32, zI x1, zI (zad x2 0), zI 1, zI x4, zI x5], [], zH S I) Q) (Wp 147 (0, [zA 32, zI (zsb 1 x1), zI x4, zU, zU, zU], [], zH S I) (fun w => Wp 165 (160, [zA 32, zI x1, zI x2, zI 1, zI x4, zI x5], w.1.toList ++ [zI x2], w.2) Q))))) := (WpK_iff [4, 11, 51, 55, 65, 89, 101, 117, 160] 17 165 _ Q).symm
set_option maxRecDepth 100000 in
theorem sg_X6_build_89_32 (S : PS) (I : Nat → Nat → Int) (x1 : Int) (x2 : Int) (w3 : PV) (x4 : Int) (x5 : Int) (y0 : Int) (Q : PV1 → Prop) : Wp 165 (89, [zA 32, zI x1, zI x2, w3, zI x4, zI x5], [zI y0], zH S I) Q ↔ (cond (decide (y0 < 0)) (Wp 165 (65, [zA 32, zI x1, zI x2, w3, zI x4, zI (zad x5 1)], [], zH S I) Q) (Wp 132 (0, [zA 32, zI (zsb 1 x1), zI x5, zU], [], zH S I) (fun w => Wp 165 (101, [zA 32, zI x1, zI x2, w3, zI x4, zI x5], w.1.toList ++ [], w.2) Q))) := (WpK_iff [4, 11, 51, 55, 65, 89, 101, 117, 160] 7 165 _ Q).symm
set_option maxRecDepth 100000 in
theorem sg_X6_build_101_32 (S : PS) (I : Nat → Nat → Int) (x1 : Int) (x2 : Int) (w3 : PV) (x4 : Int) (x5 : Int) (y0 : Int) (Q : PV1 → Prop) : Wp 165 (101, [zA 32, zI x1, zI x2, w3, zI x4, zI x5], [zI y0], zH S I) Q ↔ (cond (decide (y0 < 0)) (cond (decide (x4 < 0)) (Wp 165 (65, [zA 32, zI x1, zI x2, w3, zI x5, zI (zad x5 1)], [], zH S I) Q) (Wp 122 (0, [zA 32, zI x5, zI x4], [], zH S I) (fun w => Wp 165 (117, [zA 32, zI x1, zI x2, w3, zI x4, zI x5], w.1.toList ++ [], w.2) Q))) (Wp 165 (65, [zA 32, zI x1, zI x2, w3, zI x4, zI (zad x5 1)], [], zH S I) Q)) := (WpK_iff [4, 11, 51, 55, 65, 89, 101, 117, 160] 8 165 _ Q).symm
set_option maxRecDepth 100000 in
theorem sg_X6_build_117_32 (S : PS) (I : Nat → Nat → Int) (x1 : Int) (x2 : Int) (w3 : PV) (x4 : Int) (x5 : Int) (y0 : Int) (Q : PV1 → Prop) : Wp 165 (117, [zA 32, zI x1, zI x2, w3, zI x4, zI x5], [zI y0], zH S I) Q ↔ (cond (decide (y0 = 0)) (Wp 165 (65, [zA 32, zI x1, zI x2, w3, zI x4, zI (zad x5 1)], [], zH S I) Q) (Wp 165 (65, [zA 32, zI x1, zI x2, w3, zI x5, zI (zad x5 1)], [], zH S I) Q)) := (WpK_iff [4, 11, 51, 55, 65, 89, 101, 117, 160] 6 165 _ Q).symm
set_option maxRecDepth 100000 in
theorem sg_X6_build_160_32 (S : PS) (I : Nat → Nat → Int) (x1 : Int) (w2 : PV) (x3 : Int) (w4 : PV) (w5 : PV) (y0 : Int) (y1 : Int) (Q : PV1 → Prop) : Wp 165 (160, [zA 32, zI x1, w2, zI x3, w4, w5], [zI y1, zI y0], zH S I) Q ↔ (Wp 165 (55, [zA 32, zI x1, zI (zad y0 y1), zI x3, w4, w5], [], zH S I) Q) := (WpK_iff [4, 11, 51, 55, 65, 89, 101, 117, 160] 4 165 _ Q).symm
set_option maxRecDepth 100000 in
theorem sg_X6_undo_0_32 (S : PS) (I : Nat → Nat → Int) (w1 : PV) (w2 : PV) (Q : PV1 → Prop) : Wp 124 (0, [zA 32, w1, w2], [], zH S I) Q ↔ (cond (decide (I 32 9 = 0)) (Q (some (zI ((-2))), zH S I)) (Wp 124 (30, [zA 32, zI (zml 16 ((zs2 I 32 9 (zsb (I 32 9) 1)) 32 9)), zI 0], [], zH S (zs2 I 32 9 (zsb (I 32 9) 1))) Q)) := (WpK_iff [30] 16 124 _ Q).symm
set_option maxRecDepth 100000 in
theorem sg_X6_undo_30_32 (S : PS) (I : Nat → Nat → Int) (x1 : Int) (x2 : Int) (Q : PV1 → Prop) : Wp 124 (30, [zA 32, zI x1, zI x2], [], zH S I) Q ↔ (cond (decide (x2 < 12)) (cond (zib (zad x1 x2) 320) (cond (zib x2 12) (Wp 124 (30, [zA 32, zI x1, zI (zad x2 1)], [], zH S (zs2 I 39 (x2 : Int).toNat (I 40 (zad x1 x2 : Int).toNat))) Q) False) False) (cond (zib (zad x1 12) 320) (cond (zib (zad x1 13) 320) (cond (decide ((zs2 I 32 7 (I 40 (zad x1 12 : Int).toNat)) 40 (zad x1 13 : Int).toNat < 0)) (Q (some (zI ((zs2 (zs2 I 32 7 (I 40 (zad x1 12 : Int).toNat)) 32 21 0) 32 9)), zH S (zs2 (zs2 I 32 7 (I 40 (zad x1 12 : Int).toNat)) 32 21 0))) (cond (zib (zad x1 14) 320) (cond (zib ((zs2 I 32 7 (I 40 (zad x1 12 : Int).toNat)) 40 (zad x1 13 : Int).toNat) 17) (cond (zib (zad x1 15) 320) (cond (zib ((zs2 I 32 7 (I 40 (zad x1 12 : Int).toNat)) 40 (zad x1 13 : Int).toNat) 17) (Q (some (zI ((zs2 (zs2 (zs2 (zs2 I 32 7 (I 40 (zad x1 12 : Int).toNat)) 36 ((zs2 I 32 7 (I 40 (zad x1 12 : Int).toNat)) 40 (zad x1 13 : Int).toNat : Int).toNat ((zs2 I 32 7 (I 40 (zad x1 12 : Int).toNat)) 40 (zad x1 14 : Int).toNat)) 35 ((zs2 I 32 7 (I 40 (zad x1 12 : Int).toNat)) 40 (zad x1 13 : Int).toNat : Int).toNat ((zs2 (zs2 I 32 7 (I 40 (zad x1 12 : Int).toNat)) 36 ((zs2 I 32 7 (I 40 (zad x1 12 : Int).toNat)) 40 (zad x1 13 : Int).toNat : Int).toNat ((zs2 I 32 7 (I 40 (zad x1 12 : Int).toNat)) 40 (zad x1 14 : Int).toNat)) 40 (zad x1 15 : Int).toNat)) 32 21 0) 32 9)), zH S (zs2 (zs2 (zs2 (zs2 I 32 7 (I 40 (zad x1 12 : Int).toNat)) 36 ((zs2 I 32 7 (I 40 (zad x1 12 : Int).toNat)) 40 (zad x1 13 : Int).toNat : Int).toNat ((zs2 I 32 7 (I 40 (zad x1 12 : Int).toNat)) 40 (zad x1 14 : Int).toNat)) 35 ((zs2 I 32 7 (I 40 (zad x1 12 : Int).toNat)) 40 (zad x1 13 : Int).toNat : Int).toNat ((zs2 (zs2 I 32 7 (I 40 (zad x1 12 : Int).toNat)) 36 ((zs2 I 32 7 (I 40 (zad x1 12 : Int).toNat)) 40 (zad x1 13 : Int).toNat : Int).toNat ((zs2 I 32 7 (I 40 (zad x1 12 : Int).toNat)) 40 (zad x1 14 : Int).toNat)) 40 (zad x1 15 : Int).toNat)) 32 21 0))) False) False) False) False)) False) False)) := (WpK_iff [30] 46 124 _ Q).symm
set_option maxRecDepth 100000 in
theorem sg_X6_count_0_32 (S : PS) (I : Nat → Nat → Int) (x1 : Int) (w2 : PV) (w3 : PV) (Q : PV1 → Prop) : Wp 166 (0, [zA 32, zI x1, w2, w3], [], zH S I) Q ↔ (cond (decide (x1 = 0)) (Wp 126 (0, [zA 32, zU, zU], [], zH S I) (fun w => Wp 166 (46, [zA 32, zI x1, zI 0, w3], w.1.toList ++ [zI 16], w.2) Q)) (cond (decide (x1 = 1)) (Wp 166 (50, [zA 32, zI x1, zI 0, zI 0], [], zH S I) Q) (cond (decide (x1 = 2)) (Wp 166 (50, [zA 32, zI x1, zI 0, zI 0], [], zH S I) Q) (cond (decide (x1 = 3)) (Q (some (zI (I 32 6)), zH S I)) (cond (decide (x1 = 4)) (Q (some (zI (I 32 7)), zH S I)) (cond (decide (x1 = 5)) (Q (some (zI (I 32 9)), zH S I)) (Q (some (zI ((-1))), zH S I)))))))) := (WpK_iff [46, 50] 7 166 _ Q).symm
set_option maxRecDepth 100000 in
theorem sg_X6_count_46 (S : PS) (I : Nat → Nat → Int) (w0 : PV) (w1 : PV) (w2 : PV) (w3 : PV) (y0 : Int) (y1 : Int) (Q : PV1 → Prop) : Wp 166 (46, [w0, w1, w2, w3], [zI y1, zI y0], zH S I) Q ↔ (Q (some (zI (zsb y0 y1)), zH S I)) := (WpK_iff [46, 50] 2 166 _ Q).symm
set_option maxRecDepth 100000 in
theorem sg_X6_count_50_32 (S : PS) (I : Nat → Nat → Int) (x1 : Int) (x2 : Int) (x3 : Int) (Q : PV1 → Prop) : Wp 166 (50, [zA 32, zI x1, zI x2, zI x3], [], zH S I) Q ↔ (cond (decide (x3 < I 32 6)) (cond (zib (zad (zml 6 (zsb x1 1)) x3) 12) (cond (decide (I 39 (zad (zml 6 (zsb x1 1)) x3 : Int).toNat < 0)) (Wp 166 (50, [zA 32, zI x1, zI (zad x2 0), zI (zad x3 1)], [], zH S I) Q) (Wp 166 (50, [zA 32, zI x1, zI (zad x2 1), zI (zad x3 1)], [], zH S I) Q)) False) (Q (some (zI x2), zH S I))) := (WpK_iff [46, 50] 22 166 _ Q).symm
set_option maxRecDepth 100000 in
theorem sg_X6_in_0 (S : PS) (I : Nat → Nat → Int) (x0 : Int) (x1 : Int) (x2 : Int) (Q : PV1 → Prop) : Wp 115 (0, [zI x0, zI x1, zI x2], [], zH S I) Q ↔ (cond (decide (x0 < x1)) (cond (zbb 0) (Q (some (zI 0), zH S I)) False) (cond (decide (x2 < x0)) (cond (zbb 0) (Q (some (zI 0), zH S I)) False) (cond (zbb 1) (Q (some (zI 1), zH S I)) False))) := (WpK_iff [] 9 115 _ Q).symm
set_option maxRecDepth 100000 in
theorem sg_X6_clearTables_0_32 (S : PS) (I : Nat → Nat → Int) (w1 : PV) (Q : PV1 → Prop) : Wp 117 (0, [zA 32, w1], [], zH S I) Q ↔ (Wp 117 (2, [zA 32, zI 0], [], zH S I) Q) := (WpK_iff [2] 2 117 _ Q).symm
set_option maxRecDepth 100000 in
theorem sg_X6_clearTables_2_32 (S : PS) (I : Nat → Nat → Int) (x1 : Int) (Q : PV1 → Prop) : Wp 117 (2, [zA 32, zI x1], [], zH S I) Q ↔ (cond (decide (x1 < 12)) (cond (zib x1 12) (Wp 117 (2, [zA 32, zI (zad x1 1)], [], zH S (zs2 I 39 (x1 : Int).toNat ((-2)))) Q) False) (Q (none, zH S I))) := (WpK_iff [2] 10 117 _ Q).symm
set_option maxRecDepth 100000 in
theorem sg_X6_freeRules_0_32 (S : PS) (I : Nat → Nat → Int) (w1 : PV) (w2 : PV) (Q : PV1 → Prop) : Wp 126 (0, [zA 32, w1, w2], [], zH S I) Q ↔ (Wp 126 (4, [zA 32, zI 0, zI 0], [], zH S I) Q) := (WpK_iff [4] 4 126 _ Q).symm
set_option maxRecDepth 100000 in
theorem sg_X6_freeRules_4_32 (S : PS) (I : Nat → Nat → Int) (x1 : Int) (x2 : Int) (Q : PV1 → Prop) : Wp 126 (4, [zA 32, zI x1, zI x2], [], zH S I) Q ↔ (cond (decide (x2 < 16)) (cond (zib x2 16) (cond (decide (I 33 (x2 : Int).toNat = 0)) (Wp 126 (4, [zA 32, zI (zad x1 1), zI (zad x2 1)], [], zH S I) Q) (Wp 126 (4, [zA 32, zI (zad x1 0), zI (zad x2 1)], [], zH S I) Q)) False) (Q (some (zI x1), zH S I))) := (WpK_iff [4] 15 126 _ Q).symm
set_option maxRecDepth 100000 in
theorem sg_X6_add_0_32 (S : PS) (I : Nat → Nat → Int) (x1 : Int) (x2 : Int) (x3 : Int) (x4 : Int) (x5 : Int) (w6 : PV) (Q : PV1 → Prop) : Wp 127 (0, [zA 32, zI x1, zI x2, zI x3, zI x4, zI x5, w6], [], zH S I) Q ↔ (Wp 127 (3, [zA 32, zI x1, zI x2, zI x3, zI x4, zI x5, zI 0], [], zH S I) Q) := (WpK_iff [3] 2 127 _ Q).symm
set_option maxRecDepth 100000 in
theorem sg_X6_add_3_32 (S : PS) (I : Nat → Nat → Int) (x1 : Int) (x2 : Int) (x3 : Int) (x4 : Int) (x5 : Int) (x6 : Int) (Q : PV1 → Prop) : Wp 127 (3, [zA 32, zI x1, zI x2, zI x3, zI x4, zI x5, zI x6], [], zH S I) Q ↔ (cond (zib x6 16) (cond (decide (I 33 (x6 : Int).toNat = 0)) (cond (zib x6 16 && zbb 1) (cond (zib x6 16) (cond (zib x6 17) (cond (zib x6 17) (cond (zib x6 17) (cond (zib x6 16) (Q (some (zI x6), zH S (zs2 (zs2 (zs2 (zs2 (zs2 (zs2 I 33 (x6 : Int).toNat 1) 34 (x6 : Int).toNat x1) 35 (x6 : Int).toNat (zan x2 x3)) 36 (x6 : Int).toNat x3) 37 (x6 : Int).toNat x4) 38 (x6 : Int).toNat x5))) False) False) False) False) False) False) (Wp 127 (3, [zA 32, zI x1, zI x2, zI x3, zI x4, zI x5, zI (zad x6 1)], [], zH S I) Q)) False) := (WpK_iff [3] 39 127 _ Q).symm
set_option maxRecDepth 100000 in
theorem sg_X6_sizeOf_0 (S : PS) (I : Nat → Nat → Int) (x0 : Int) (x1 : Int) (w2 : PV) (Q : PV1 → Prop) : Wp 130 (0, [zI x0, zI x1, w2], [], zH S I) Q ↔ (Wp 130 (2, [zI x0, zI x1, zI 1], [], zH S I) Q) := (WpK_iff [2] 2 130 _ Q).symm
set_option maxRecDepth 100000 in
theorem sg_X6_sizeOf_2 (S : PS) (I : Nat → Nat → Int) (x0 : Int) (x1 : Int) (x2 : Int) (Q : PV1 → Prop) : Wp 130 (2, [zI x0, zI x1, zI x2], [], zH S I) Q ↔ (cond (decide (x2 < 32)) (cond (!decide ((zml 2 x2 : Int) = 0)) (cond (decide (zrm x0 (zml 2 x2) = 0)) (cond (decide (x1 < zsb (zad x0 (zml 2 x2)) 1)) (Q (some (zI x2), zH S I)) (Wp 130 (2, [zI x0, zI x1, zI (zml x2 2)], [], zH S I) Q)) (Q (some (zI x2), zH S I))) False) (Q (some (zI x2), zH S I))) := (WpK_iff [2] 23 130 _ Q).symm
set_option maxRecDepth 100000 in
theorem sg_X6_isRule_0_32 (S : PS) (I : Nat → Nat → Int) (x1 : Int) (Q : PV1 → Prop) : Wp 118 (0, [zA 32, zI x1], [], zH S I) Q ↔ (Wp 115 (0, [zI x1, zI 0, zI 15], [], zH S I) (fun w => Wp 118 (7, [zA 32, zI x1], w.1.toList ++ [], w.2) Q)) := (WpK_iff [7] 4 118 _ Q).symm
set_option maxRecDepth 100000 in
theorem sg_X6_isRule_7_32 (S : PS) (I : Nat → Nat → Int) (x1 : Int) (y0 : Int) (Q : PV1 → Prop) : Wp 118 (7, [zA 32, zI x1], [zI y0], zH S I) Q ↔ (cond (decide (y0 = 0)) (cond (zbb 0) (Q (some (zI 0), zH S I)) False) (cond (zib x1 16) (cond (decide (I 33 (x1 : Int).toNat = 0)) (cond (zbb 0) (Q (some (zI 0), zH S I)) False) (cond (zbb 1) (Q (some (zI 1), zH S I)) False)) False)) := (WpK_iff [7] 9 118 _ Q).symm
set_option maxRecDepth 100000 in
theorem sg_X6_placeOf_0_32 (S : PS) (I : Nat → Nat → Int) (x1 : Int) (x2 : Int) (w3 : PV) (Q : PV1 → Prop) : Wp 132 (0, [zA 32, zI x1, zI x2, w3], [], zH S I) Q ↔ (Wp 132 (2, [zA 32, zI x1, zI x2, zI 0], [], zH S I) Q) := (WpK_iff [2] 2 132 _ Q).symm
set_option maxRecDepth 100000 in
theorem sg_X6_placeOf_2_32 (S : PS) (I : Nat → Nat → Int) (x1 : Int) (x2 : Int) (x3 : Int) (Q : PV1 → Prop) : Wp 132 (2, [zA 32, zI x1, zI x2, zI x3], [], zH S I) Q ↔ (cond (decide (x3 < I 32 6)) (cond (zib (zad (zml 6 x1) x3) 12) (cond (decide (I 39 (zad (zml 6 x1) x3 : Int).toNat = x2)) (Q (some (zI x3), zH S I)) (Wp 132 (2, [zA 32, zI x1, zI x2, zI (zad x3 1)], [], zH S I) Q)) False) (Q (some (zI ((-1))), zH S I))) := (WpK_iff [2] 16 132 _ Q).symm
set_option maxRecDepth 100000 in
theorem sg_X6_doOverlap_0_32 (S : PS) (I : Nat → Nat → Int) (x1 : Int) (x2 : Int) (Q : PV1 → Prop) : Wp 121 (0, [zA 32, zI x1, zI x2], [], zH S I) Q ↔ (cond (zib x1 17) (cond (zib x2 17) (cond (zib x1 17) (cond (zib x2 17) (cond (decide (zan (zan (zxr (I 35 (x1 : Int).toNat) (I 35 (x2 : Int).toNat)) (I 36 (x1 : Int).toNat)) (I 36 (x2 : Int).toNat) = 0)) (cond (zbb 1) (Q (some (zI 1), zH S I)) False) (cond (zbb 0) (Q (some (zI 0), zH S I)) False)) False) False) False) False) := (WpK_iff [] 23 121 _ Q).symm
set_option maxRecDepth 100000 in
theorem sg_X6_isHigher_0_32 (S : PS) (I : Nat → Nat → Int) (x1 : Int) (x2 : Int) (Q : PV1 → Prop) : Wp 122 (0, [zA 32, zI x1, zI x2], [], zH S I) Q ↔ (cond (zib x1 17) (cond (zib x2 17) (cond (decide (I 37 (x2 : Int).toNat < I 37 (x1 : Int).toNat)) (cond (zbb 1) (Q (some (zI 1), zH S I)) False) (cond (zib x1 17) (cond (zib x2 17) (cond (decide (I 37 (x1 : Int).toNat = I 37 (x2 : Int).toNat)) (cond (decide (x1 < x2)) (cond (zbb 1) (Q (some (zI 1), zH S I)) False) (cond (zbb 0) (Q (some (zI 0), zH S I)) False)) (cond (zbb 0) (Q (some (zI 0), zH S I)) False)) False) False)) False) False) := (WpK_iff [] 24 122 _ Q).symm
set_option maxRecDepth 100000 in
theorem sg_X6_keep_0_32 (S : PS) (I : Nat → Nat → Int) (x1 : Int) (w2 : PV) (w3 : PV) (Q : PV1 → Prop) : Wp 123 (0, [zA 32, zI x1, w2, w3], [], zH S I) Q ↔ (cond (decide (I 32 9 = 20)) (Wp 123 (12, [zA 32, zI x1, zI 16, w3], [], zH S I) Q) (Wp 123 (60, [zA 32, zI x1, zI (zml 16 (I 32 9)), zI 0], [], zH S I) Q)) := (WpK_iff [12, 60] 11 123 _ Q).symm
set_option maxRecDepth 100000 in
theorem sg_X6_keep_12_32 (S : PS) (I : Nat → Nat → Int) (x1 : Int) (x2 : Int) (w3 : PV) (Q : PV1 → Prop) : Wp 123 (12, [zA 32, zI x1, zI x2, w3], [], zH S I) Q ↔ (cond (decide (x2 < 320)) (cond (zib x2 320) (cond (zib (zsb x2 16) 320) (Wp 123 (12, [zA 32, zI x1, zI (zad x2 1), w3], [], zH S (zs2 I 40 (zsb x2 16 : Int).toNat (I 40 (x2 : Int).toNat))) Q) False) False) (Wp 123 (60, [zA 32, zI x1, zI (zml 16 ((zs2 I 32 9 (zsb (I 32 9) 1)) 32 9)), zI 0], [], zH S (zs2 I 32 9 (zsb (I 32 9) 1))) Q)) := (WpK_iff [12, 60] 16 123 _ Q).symm
set_option maxRecDepth 100000 in
theorem sg_X6_keep_60_32 (S : PS) (I : Nat → Nat → Int) (x1 : Int) (x2 : Int) (x3 : Int) (Q : PV1 → Prop) : Wp 123 (60, [zA 32, zI x1, zI x2, zI x3], [], zH S I) Q ↔ (cond (decide (x3 < 12)) (cond (zib x3 12) (cond (zib (zad x2 x3) 320) (Wp 123 (60, [zA 32, zI x1, zI x2, zI (zad x3 1)], [], zH S (zs2 I 40 (zad x2 x3 : Int).toNat (I 39 (x3 : Int).toNat))) Q) False) False) (cond (zib (zad x2 12) 320) (cond (zib (zad x2 13) 320) (cond (decide (x1 < 0)) (cond (zib (zad x2 14) 320) (cond (decide (x1 < 0)) (cond (zib (zad x2 15) 320) (Q (none, zH S (zs2 (zs2 (zs2 (zs2 (zs2 I 40 (zad x2 12 : Int).toNat (I 32 7)) 40 (zad x2 13 : Int).toNat x1) 40 (zad x2 14 : Int).toNat 0) 40 (zad x2 15 : Int).toNat 0) 32 9 (zad ((zs2 (zs2 (zs2 (zs2 I 40 (zad x2 12 : Int).toNat (I 32 7)) 40 (zad x2 13 : Int).toNat x1) 40 (zad x2 14 : Int).toNat 0) 40 (zad x2 15 : Int).toNat 0) 32 9) 1)))) False) (cond (zib x1 17) (cond (zib (zad x2 15) 320) (Q (none, zH S (zs2 (zs2 (zs2 (zs2 (zs2 I 40 (zad x2 12 : Int).toNat (I 32 7)) 40 (zad x2 13 : Int).toNat x1) 40 (zad x2 14 : Int).toNat 0) 40 (zad x2 15 : Int).toNat ((zs2 (zs2 (zs2 I 40 (zad x2 12 : Int).toNat (I 32 7)) 40 (zad x2 13 : Int).toNat x1) 40 (zad x2 14 : Int).toNat 0) 35 (x1 : Int).toNat)) 32 9 (zad ((zs2 (zs2 (zs2 (zs2 I 40 (zad x2 12 : Int).toNat (I 32 7)) 40 (zad x2 13 : Int).toNat x1) 40 (zad x2 14 : Int).toNat 0) 40 (zad x2 15 : Int).toNat ((zs2 (zs2 (zs2 I 40 (zad x2 12 : Int).toNat (I 32 7)) 40 (zad x2 13 : Int).toNat x1) 40 (zad x2 14 : Int).toNat 0) 35 (x1 : Int).toNat)) 32 9) 1)))) False) False)) False) (cond (zib x1 17) (cond (zib (zad x2 14) 320) (cond (decide (x1 < 0)) (cond (zib (zad x2 15) 320) (Q (none, zH S (zs2 (zs2 (zs2 (zs2 (zs2 I 40 (zad x2 12 : Int).toNat (I 32 7)) 40 (zad x2 13 : Int).toNat x1) 40 (zad x2 14 : Int).toNat ((zs2 (zs2 I 40 (zad x2 12 : Int).toNat (I 32 7)) 40 (zad x2 13 : Int).toNat x1) 36 (x1 : Int).toNat)) 40 (zad x2 15 : Int).toNat 0) 32 9 (zad ((zs2 (zs2 (zs2 (zs2 I 40 (zad x2 12 : Int).toNat (I 32 7)) 40 (zad x2 13 : Int).toNat x1) 40 (zad x2 14 : Int).toNat ((zs2 (zs2 I 40 (zad x2 12 : Int).toNat (I 32 7)) 40 (zad x2 13 : Int).toNat x1) 36 (x1 : Int).toNat)) 40 (zad x2 15 : Int).toNat 0) 32 9) 1)))) False) (cond (zib x1 17) (cond (zib (zad x2 15) 320) (Q (none, zH S (zs2 (zs2 (zs2 (zs2 (zs2 I 40 (zad x2 12 : Int).toNat (I 32 7)) 40 (zad x2 13 : Int).toNat x1) 40 (zad x2 14 : Int).toNat ((zs2 (zs2 I 40 (zad x2 12 : Int).toNat (I 32 7)) 40 (zad x2 13 : Int).toNat x1) 36 (x1 : Int).toNat)) 40 (zad x2 15 : Int).toNat ((zs2 (zs2 (zs2 I 40 (zad x2 12 : Int).toNat (I 32 7)) 40 (zad x2 13 : Int).toNat x1) 40 (zad x2 14 : Int).toNat ((zs2 (zs2 I 40 (zad x2 12 : Int).toNat (I 32 7)) 40 (zad x2 13 : Int).toNat x1) 36 (x1 : Int).toNat)) 35 (x1 : Int).toNat)) 32 9 (zad ((zs2 (zs2 (zs2 (zs2 I 40 (zad x2 12 : Int).toNat (I 32 7)) 40 (zad x2 13 : Int).toNat x1) 40 (zad x2 14 : Int).toNat ((zs2 (zs2 I 40 (zad x2 12 : Int).toNat (I 32 7)) 40 (zad x2 13 : Int).toNat x1) 36 (x1 : Int).toNat)) 40 (zad x2 15 : Int).toNat ((zs2 (zs2 (zs2 I 40 (zad x2 12 : Int).toNat (I 32 7)) 40 (zad x2 13 : Int).toNat x1) 40 (zad x2 14 : Int).toNat ((zs2 (zs2 I 40 (zad x2 12 : Int).toNat (I 32 7)) 40 (zad x2 13 : Int).toNat x1) 36 (x1 : Int).toNat)) 35 (x1 : Int).toNat)) 32 9) 1)))) False) False)) False) False)) False) False)) := (WpK_iff [12, 60] 49 123 _ Q).symm
set_option maxRecDepth 100000 in
theorem sg_X6_layIn_0_32 (S : PS) (I : Nat → Nat → Int) (x1 : Int) (x2 : Int) (w3 : PV) (w4 : PV) (w5 : PV) (Q : PV1 → Prop) : Wp 147 (0, [zA 32, zI x1, zI x2, w3, w4, w5], [], zH S I) Q ↔ (Wp 142 (0, [zA 32, zI x1, zU, zU, zU, zU], [], zH S I) (fun w => Wp 147 (5, [zA 32, zI x1, zI x2, w3, w4, w5], w.1.toList ++ [], w.2) Q)) := (WpK_iff [5, 10, 56, 59, 133, 165, 166, 168] 3 147 _ Q).symm
set_option maxRecDepth 100000 in
theorem sg_X6_layIn_5_32 (S : PS) (I : Nat → Nat → Int) (x1 : Int) (x2 : Int) (w3 : PV) (w4 : PV) (w5 : PV) (Q : PV1 → Prop) : Wp 147 (5, [zA 32, zI x1, zI x2, w3, w4, w5], [], zH S I) Q ↔ (Wp 144 (0, [zA 32, zI x2, zU, zU], [], zH S I) (fun w => Wp 147 (10, [zA 32, zI x1, zI x2, w3, w4, w5], w.1.toList ++ [], w.2) Q)) := (WpK_iff [5, 10, 56, 59, 133, 165, 166, 168] 3 147 _ Q).symm
set_option maxRecDepth 100000 in
theorem sg_X6_layIn_10_32 (S : PS) (I : Nat → Nat → Int) (x1 : Int) (x2 : Int) (w3 : PV) (w4 : PV) (w5 : PV) (y0 : Int) (Q : PV1 → Prop) : Wp 147 (10, [zA 32, zI x1, zI x2, w3, w4, w5], [zI y0], zH S I) Q ↔ (cond (zib y0 2000) (cond (zib (I 45 (y0 : Int).toNat) 2000) (cond (zib (I 45 (y0 : Int).toNat) 2000) (cond (zib y0 2000) (Wp 139 (0, [zA 32, zI ((zs2 (zs2 (zs2 I 32 21 (zad (I 45 (y0 : Int).toNat) 1)) 48 (I 45 (y0 : Int).toNat : Int).toNat x2) 49 (I 45 (y0 : Int).toNat : Int).toNat ((zs2 (zs2 I 32 21 (zad (I 45 (y0 : Int).toNat) 1)) 48 (I 45 (y0 : Int).toNat : Int).toNat x2) 32 20)) 42 (y0 : Int).toNat), zU, zU], [], zH S (zs2 (zs2 (zs2 I 32 21 (zad (I 45 (y0 : Int).toNat) 1)) 48 (I 45 (y0 : Int).toNat : Int).toNat x2) 49 (I 45 (y0 : Int).toNat : Int).toNat ((zs2 (zs2 I 32 21 (zad (I 45 (y0 : Int).toNat) 1)) 48 (I 45 (y0 : Int).toNat : Int).toNat x2) 32 20))) (fun w => Wp 147 (56, [zA 32, zI x1, zI x2, zI y0, zI (I 45 (y0 : Int).toNat), w5], w.1.toList ++ [], w.2) Q)) False) False) False) False) := (WpK_iff [5, 10, 56, 59, 133, 165, 166, 168] 28 147 _ Q).symm
set_option maxRecDepth 100000 in
theorem sg_X6_layIn_56_32 (S : PS) (I : Nat → Nat → Int) (x1 : Int) (x2 : Int) (x3 : Int) (x4 : Int) (w5 : PV) (Q : PV1 → Prop) : Wp 147 (56, [zA 32, zI x1, zI x2, zI x3, zI x4, w5], [], zH S I) Q ↔ (Wp 147 (59, [zA 32, zI x1, zI x2, zI x3, zI x4, zI 0], [], zH S I) Q) := (WpK_iff [5, 10, 56, 59, 133, 165, 166, 168] 2 147 _ Q).symm
set_option maxRecDepth 100000 in
theorem sg_X6_layIn_59_32 (S : PS) (I : Nat → Nat → Int) (x1 : Int) (x2 : Int) (x3 : Int) (x4 : Int) (x5 : Int) (Q : PV1 → Prop) : Wp 147 (59, [zA 32, zI x1, zI x2, zI x3, zI x4, zI x5], [], zH S I) Q ↔ (cond (decide (x5 < I 32 6)) (cond (zib x5 6) (cond (decide (I 47 (x5 : Int).toNat = 6)) (cond (zib (zad (zml 6 x1) x5) 12) (Wp 147 (59, [zA 32, zI x1, zI x2, zI x3, zI x4, zI (zad x5 1)], [], zH S (zs2 I 39 (zad (zml 6 x1) x5 : Int).toNat ((-2)))) Q) False) (cond (zib x5 6) (cond (zib (I 47 (x5 : Int).toNat) 6) (cond (zib (zad (zml 6 x1) x5) 12) (Wp 147 (59, [zA 32, zI x1, zI x2, zI x3, zI x4, zI (zad x5 1)], [], zH S (zs2 I 39 (zad (zml 6 x1) x5 : Int).toNat (I 46 (I 47 (x5 : Int).toNat : Int).toNat))) Q) False) False) False)) False) (cond (zib (zad (zml 6 x1) (I 32 20)) 12) (Wp 147 (133, [zA 32, zI x1, zI x2, zI x3, zI x4, zI x3], [], zH S (zs2 I 39 (zad (zml 6 x1) (I 32 20) : Int).toNat x2)) Q) False)) := (WpK_iff [5, 10, 56, 59, 133, 165, 166, 168] 27 147 _ Q).symm
set_option maxRecDepth 100000 in
theorem sg_X6_refusal_0_32 (S : PS) (I : Nat → Nat → Int) (x1 : Int) (x2 : Int) (Q : PV1 → Prop) : Wp 145 (0, [zA 32, zI x1, zI x2], [], zH S I) Q ↔ (Wp 119 (0, [zI x1], [], zH S I) (fun w => Wp 145 (4, [zA 32, zI x1, zI x2], w.1.toList ++ [], w.2) Q)) := (WpK_iff [4, 12, 25, 38] 2 145 _ Q).symm
set_option maxRecDepth 100000 in
theorem sg_X6_refusal_4_32 (S : PS) (I : Nat → Nat → Int) (x1 : Int) (x2 : Int) (y0 : Int) (Q : PV1 → Prop) : Wp 145 (4, [zA 32, zI x1, zI x2], [zI y0], zH S I) Q ↔ (cond (decide (y0 = 0)) (Q (some (zI ((-1))), zH S I)) (Wp 118 (0, [zA 32, zI x2], [], zH S I) (fun w => Wp 145 (12, [zA 32, zI x1, zI x2], w.1.toList ++ [], w.2) Q))) := (WpK_iff [4, 12, 25, 38] 4 145 _ Q).symm
set_option maxRecDepth 100000 in
theorem sg_X6_refusal_12_32 (S : PS) (I : Nat → Nat → Int) (x1 : Int) (x2 : Int) (y0 : Int) (Q : PV1 → Prop) : Wp 145 (12, [zA 32, zI x1, zI x2], [zI y0], zH S I) Q ↔ (cond (decide (y0 = 0)) (Q (some (zI ((-1))), zH S I)) (Wp 132 (0, [zA 32, zI x1, zI x2, zU], [], zH S I) (fun w => Wp 145 (25, [zA 32, zI x1, zI x2], w.1.toList ++ [], w.2) Q))) := (WpK_iff [4, 12, 25, 38] 5 145 _ Q).symm
set_option maxRecDepth 100000 in
theorem sg_X6_refusal_25_32 (S : PS) (I : Nat → Nat → Int) (x1 : Int) (w2 : PV) (y0 : Int) (Q : PV1 → Prop) : Wp 145 (25, [zA 32, zI x1, w2], [zI y0], zH S I) Q ↔ (cond (decide (y0 < 0)) (Wp 143 (0, [zA 32, zI x1, zU, zU], [], zH S I) (fun w => Wp 145 (38, [zA 32, zI x1, w2], w.1.toList ++ [], w.2) Q)) (Q (some (zI ((-2))), zH S I))) := (WpK_iff [4, 12, 25, 38] 4 145 _ Q).symm
set_option maxRecDepth 100000 in
theorem sg_X6_refusal_38 (S : PS) (I : Nat → Nat → Int) (w0 : PV) (w1 : PV) (w2 : PV) (y0 : Int) (Q : PV1 → Prop) : Wp 145 (38, [w0, w1, w2], [zI y0], zH S I) Q ↔ (cond (decide (y0 = 0)) (Q (some (zI ((-3))), zH S I)) (Q (some (zI 0), zH S I))) := (WpK_iff [4, 12, 25, 38] 4 145 _ Q).symm
set_option maxRecDepth 100000 in
theorem sg_X6_findStates_0_32 (S : PS) (I : Nat → Nat → Int) (x1 : Int) (w2 : PV) (w3 : PV) (w4 : PV) (w5 : PV) (Q : PV1 → Prop) : Wp 142 (0, [zA 32, zI x1, w2, w3, w4, w5], [], zH S I) Q ↔ (Wp 142 (2, [zA 32, zI x1, zI 0, w3, w4, w5], [], zH S I) Q) := (WpK_iff [2, 40, 52, 83, 101, 162, 168, 170, 188, 190, 201, 230, 270, 286, 305] 2 142 _ Q).symm
set_option maxRecDepth 100000 in
theorem sg_X6_findStates_2_32 (S : PS) (I : Nat → Nat → Int) (x1 : Int) (x2 : Int) (w3 : PV) (w4 : PV) (w5 : PV) (Q : PV1 → Prop) : Wp 142 (2, [zA 32, zI x1, zI x2, w3, w4, w5], [], zH S I) Q ↔ (cond (decide (x2 < I 32 16)) (cond (zib x2 2000) (cond (zib (I 42 (x2 : Int).toNat) 117649 && zbb 0) (Wp 142 (2, [zA 32, zI x1, zI (zad x2 1), w3, w4, w5], [], zH S (zs2 I 41 (I 42 (x2 : Int).toNat : Int).toNat 0)) Q) False) False) (Wp 142 (40, [zA 32, zI x1, zI 0, w3, w4, w5], [], zH S (zs2 (zs2 I 32 16 0) 32 18 0)) Q)) := (WpK_iff [2, 40, 52, 83, 101, 162, 168, 170, 188, 190, 201, 230, 270, 286, 305] 14 142 _ Q).symm
set_option maxRecDepth 100000 in
theorem sg_X6_findStates_40_32 (S : PS) (I : Nat → Nat → Int) (x1 : Int) (x2 : Int) (w3 : PV) (w4 : PV) (w5 : PV) (Q : PV1 → Prop) : Wp 142 (40, [zA 32, zI x1, zI x2, w3, w4, w5], [], zH S I) Q ↔ (cond (decide (x2 < 16)) (Wp 132 (0, [zA 32, zI x1, zI x2, zU], [], zH S I) (fun w => Wp 142 (52, [zA 32, zI x1, zI x2, w3, w4, w5], w.1.toList ++ [], w.2) Q)) (Wp 142 (83, [zA 32, zI x1, zI 0, w3, w4, w5], [], zH S I) Q)) := (WpK_iff [2, 40, 52, 83, 101, 162, 168, 170, 188, 190, 201, 230, 270, 286, 305] 7 142 _ Q).symm
set_option maxRecDepth 100000 in
theorem sg_X6_findStates_52_32 (S : PS) (I : Nat → Nat → Int) (x1 : Int) (x2 : Int) (w3 : PV) (w4 : PV) (w5 : PV) (y0 : Int) (Q : PV1 → Prop) : Wp 142 (52, [zA 32, zI x1, zI x2, w3, w4, w5], [zI y0], zH S I) Q ↔ (cond (decide (y0 < 0)) (Wp 142 (40, [zA 32, zI x1, zI (zad x2 1), w3, w4, w5], [], zH S I) Q) (cond (zib (I 32 18) 6) (Wp 142 (40, [zA 32, zI x1, zI (zad x2 1), w3, w4, w5], [], zH S (zs2 (zs2 I 46 (I 32 18 : Int).toNat x2) 32 18 (zad ((zs2 I 46 (I 32 18 : Int).toNat x2) 32 18) 1))) Q) False)) := (WpK_iff [2, 40, 52, 83, 101, 162, 168, 170, 188, 190, 201, 230, 270, 286, 305] 15 142 _ Q).symm
set_option maxRecDepth 100000 in
theorem sg_X6_findStates_83_32 (S : PS) (I : Nat → Nat → Int) (x1 : Int) (x2 : Int) (w3 : PV) (w4 : PV) (w5 : PV) (Q : PV1 → Prop) : Wp 142 (83, [zA 32, zI x1, zI x2, w3, w4, w5], [], zH S I) Q ↔ (cond (decide (x2 < I 32 6)) (cond (zib x2 6) (Wp 142 (101, [zA 32, zI x1, zI x2, zI 0, w4, w5], [], zH S (zs2 I 47 (x2 : Int).toNat 6)) Q) False) (Wp 138 (0, [zA 32, zU, zU], [], zH S I) (fun w => Wp 142 (162, [zA 32, zI x1, zI x2, w3, w4, w5], w.1.toList ++ [zA 32], w.2) Q))) := (WpK_iff [2, 40, 52, 83, 101, 162, 168, 170, 188, 190, 201, 230, 270, 286, 305] 11 142 _ Q).symm
set_option maxRecDepth 100000 in
theorem sg_X6_findStates_101_32 (S : PS) (I : Nat → Nat → Int) (x1 : Int) (x2 : Int) (x3 : Int) (w4 : PV) (w5 : PV) (Q : PV1 → Prop) : Wp 142 (101, [zA 32, zI x1, zI x2, zI x3, w4, w5], [], zH S I) Q ↔ (cond (decide (x3 < I 32 18)) (cond (zib (zad (zml 6 x1) x2) 12) (cond (zib x3 6) (cond (decide (I 39 (zad (zml 6 x1) x2 : Int).toNat = I 46 (x3 : Int).toNat)) (cond (zib x2 6) (Wp 142 (101, [zA 32, zI x1, zI x2, zI (zad x3 1), w4, w5], [], zH S (zs2 I 47 (x2 : Int).toNat x3)) Q) False) (cond (zib x2 6) (cond (zib x2 6) (Wp 142 (101, [zA 32, zI x1, zI x2, zI (zad x3 1), w4, w5], [], zH S (zs2 I 47 (x2 : Int).toNat (I 47 (x2 : Int).toNat))) Q) False) False)) False) False) (Wp 142 (83, [zA 32, zI x1, zI (zad x2 1), zI x3, w4, w5], [], zH S I) Q)) := (WpK_iff [2, 40, 52, 83, 101, 162, 168, 170, 188, 190, 201, 230, 270, 286, 305] 27 142 _ Q).symm
set_option maxRecDepth 100000 in
theorem sg_X6_findStates_162_32_32 (S : PS) (I : Nat → Nat → Int) (w1 : PV) (w2 : PV) (w3 : PV) (w4 : PV) (w5 : PV) (y1 : Int) (Q : PV1 → Prop) : Wp 142 (162, [zA 32, w1, w2, w3, w4, w5], [zI y1, zA 32], zH S I) Q ↔ (Wp 141 (0, [zA 32, zI y1, zI ((-1)), zI 0, zI 0], [], zH S I) (fun w => Wp 142 (168, [zA 32, w1, w2, w3, w4, w5], w.1.toList ++ [], w.2) Q)) := (WpK_iff [2, 40, 52, 83, 101, 162, 168, 170, 188, 190, 201, 230, 270, 286, 305] 4 142 _ Q).symm
set_option maxRecDepth 100000 in
theorem sg_X6_findStates_168_32 (S : PS) (I : Nat → Nat → Int) (w1 : PV) (w2 : PV) (w3 : PV) (w4 : PV) (w5 : PV) (Q : PV1 → Prop) : Wp 142 (168, [zA 32, w1, w2, w3, w4, w5], [], zH S I) Q ↔ (Wp 142 (170, [zA 32, w1, zI 0, w3, w4, w5], [], zH S I) Q) := (WpK_iff [2, 40, 52, 83, 101, 162, 168, 170, 188, 190, 201, 230, 270, 286, 305] 2 142 _ Q).symm
set_option maxRecDepth 100000 in
theorem sg_X6_findStates_170_32 (S : PS) (I : Nat → Nat → Int) (w1 : PV) (x2 : Int) (w3 : PV) (w4 : PV) (w5 : PV) (Q : PV1 → Prop) : Wp 142 (170, [zA 32, w1, zI x2, w3, w4, w5], [], zH S I) Q ↔ (cond (decide (x2 < I 32 16)) (cond (zib x2 2000) (Wp 139 (0, [zA 32, zI (I 42 (x2 : Int).toNat), zU, zU], [], zH S I) (fun w => Wp 142 (188, [zA 32, w1, zI x2, w3, w4, w5], w.1.toList ++ [], w.2) Q)) False) (Q (none, zH S I))) := (WpK_iff [2, 40, 52, 83, 101, 162, 168, 170, 188, 190, 201, 230, 270, 286, 305] 10 142 _ Q).symm
set_option maxRecDepth 100000 in
theorem sg_X6_findStates_188_32 (S : PS) (I : Nat → Nat → Int) (w1 : PV) (x2 : Int) (w3 : PV) (w4 : PV) (w5 : PV) (Q : PV1 → Prop) : Wp 142 (188, [zA 32, w1, zI x2, w3, w4, w5], [], zH S I) Q ↔ (Wp 142 (190, [zA 32, w1, zI x2, zI 0, w4, w5], [], zH S I) Q) := (WpK_iff [2, 40, 52, 83, 101, 162, 168, 170, 188, 190, 201, 230, 270, 286, 305] 2 142 _ Q).symm
set_option maxRecDepth 100000 in
theorem sg_X6_findStates_190_32 (S : PS) (I : Nat → Nat → Int) (w1 : PV) (x2 : Int) (x3 : Int) (w4 : PV) (w5 : PV) (Q : PV1 → Prop) : Wp 142 (190, [zA 32, w1, zI x2, zI x3, w4, w5], [], zH S I) Q ↔ (cond (decide (x3 < I 32 18)) (Wp 142 (201, [zA 32, w1, zI x2, zI x3, zI 0, w5], [], zH S I) Q) (Wp 142 (170, [zA 32, w1, zI (zad x2 1), zI x3, w4, w5], [], zH S I) Q)) := (WpK_iff [2, 40, 52, 83, 101, 162, 168, 170, 188, 190, 201, 230, 270, 286, 305] 6 142 _ Q).symm
set_option maxRecDepth 100000 in
theorem sg_X6_findStates_201_32 (S : PS) (I : Nat → Nat → Int) (w1 : PV) (x2 : Int) (x3 : Int) (x4 : Int) (w5 : PV) (Q : PV1 → Prop) : Wp 142 (201, [zA 32, w1, zI x2, zI x3, zI x4, w5], [], zH S I) Q ↔ (cond (zib x4 6) (cond (decide (I 47 (x4 : Int).toNat = x3)) (cond (zib x4 6) (Wp 142 (230, [zA 32, w1, zI x2, zI x3, zI x4, zI 0], [], zH S (zs2 I 47 (x4 : Int).toNat 6)) Q) False) (Wp 142 (201, [zA 32, w1, zI x2, zI x3, zI (zad x4 1), w5], [], zH S I) Q)) False) := (WpK_iff [2, 40, 52, 83, 101, 162, 168, 170, 188, 190, 201, 230, 270, 286, 305] 13 142 _ Q).symm
set_option maxRecDepth 100000 in
theorem sg_X6_findStates_230_32 (S : PS) (I : Nat → Nat → Int) (w1 : PV) (x2 : Int) (x3 : Int) (x4 : Int) (x5 : Int) (Q : PV1 → Prop) : Wp 142 (230, [zA 32, w1, zI x2, zI x3, zI x4, zI x5], [], zH S I) Q ↔ (cond (decide (x5 < I 32 6)) (cond (decide (x5 = x4)) (Wp 142 (230, [zA 32, w1, zI x2, zI x3, zI x4, zI (zad x5 1)], [], zH S I) Q) (cond (zib x5 6) (cond (decide (I 47 (x5 : Int).toNat = 6)) (cond (zib x3 6) (Wp 140 (0, [zA 32, zI (I 46 (x3 : Int).toNat), zI x5, zU, zU, zU], [], zH S I) (fun w => Wp 142 (270, [zA 32, w1, zI x2, zI x3, zI x4, zI x5], w.1.toList ++ [], w.2) Q)) False) (Wp 142 (230, [zA 32, w1, zI x2, zI x3, zI x4, zI (zad x5 1)], [], zH S I) Q)) False)) (cond (zib x4 6) (Wp 142 (190, [zA 32, w1, zI x2, zI (zad x3 1), zI x4, zI x5], [], zH S (zs2 I 47 (x4 : Int).toNat x3)) Q) False)) := (WpK_iff [2, 40, 52, 83, 101, 162, 168, 170, 188, 190, 201, 230, 270, 286, 305] 20 142 _ Q).symm
set_option maxRecDepth 100000 in
theorem sg_X6_findStates_270_32 (S : PS) (I : Nat → Nat → Int) (w1 : PV) (x2 : Int) (x3 : Int) (x4 : Int) (x5 : Int) (y0 : Int) (Q : PV1 → Prop) : Wp 142 (270, [zA 32, w1, zI x2, zI x3, zI x4, zI x5], [zI y0], zH S I) Q ↔ (cond (decide (y0 = 0)) (Wp 142 (230, [zA 32, w1, zI x2, zI x3, zI x4, zI (zad x5 1)], [], zH S I) Q) (cond (zib x5 6) (Wp 138 (0, [zA 32, zU, zU], [], zH S (zs2 I 47 (x5 : Int).toNat x3)) (fun w => Wp 142 (286, [zA 32, w1, zI x2, zI x3, zI x4, zI x5], w.1.toList ++ [zA 32], w.2) Q)) False)) := (WpK_iff [2, 40, 52, 83, 101, 162, 168, 170, 188, 190, 201, 230, 270, 286, 305] 9 142 _ Q).symm
set_option maxRecDepth 100000 in
theorem sg_X6_findStates_286_32_32 (S : PS) (I : Nat → Nat → Int) (w1 : PV) (x2 : Int) (x3 : Int) (x4 : Int) (x5 : Int) (y1 : Int) (Q : PV1 → Prop) : Wp 142 (286, [zA 32, w1, zI x2, zI x3, zI x4, zI x5], [zI y1, zA 32], zH S I) Q ↔ (cond (zib x2 2000) (Wp 141 (0, [zA 32, zI y1, zI x2, zI (zad (zml 8 x3) x5), zI (zad (I 45 (x2 : Int).toNat) 1)], [], zH S I) (fun w => Wp 142 (305, [zA 32, w1, zI x2, zI x3, zI x4, zI x5], w.1.toList ++ [], w.2) Q)) False) := (WpK_iff [2, 40, 52, 83, 101, 162, 168, 170, 188, 190, 201, 230, 270, 286, 305] 13 142 _ Q).symm
set_option maxRecDepth 100000 in
theorem sg_X6_findStates_305_32 (S : PS) (I : Nat → Nat → Int) (w1 : PV) (x2 : Int) (x3 : Int) (x4 : Int) (x5 : Int) (Q : PV1 → Prop) : Wp 142 (305, [zA 32, w1, zI x2, zI x3, zI x4, zI x5], [], zH S I) Q ↔ (cond (zib x5 6) (Wp 142 (230, [zA 32, w1, zI x2, zI x3, zI x4, zI (zad x5 1)], [], zH S (zs2 I 47 (x5 : Int).toNat 6)) Q) False) := (WpK_iff [2, 40, 52, 83, 101, 162, 168, 170, 188, 190, 201, 230, 270, 286, 305] 7 142 _ Q).symm
set_option maxRecDepth 100000 in
theorem sg_X6_stateFor_0_32 (S : PS) (I : Nat → Nat → Int) (x1 : Int) (w2 : PV) (w3 : PV) (Q : PV1 → Prop) : Wp 144 (0, [zA 32, zI x1, w2, w3], [], zH S I) Q ↔ (Wp 144 (2, [zA 32, zI x1, zI 0, w3], [], zH S I) Q) := (WpK_iff [2, 20, 22, 47] 2 144 _ Q).symm
set_option maxRecDepth 100000 in
theorem sg_X6_stateFor_2_32 (S : PS) (I : Nat → Nat → Int) (x1 : Int) (x2 : Int) (w3 : PV) (Q : PV1 → Prop) : Wp 144 (2, [zA 32, zI x1, zI x2, w3], [], zH S I) Q ↔ (cond (decide (x2 < I 32 16)) (cond (zib x2 2000) (Wp 139 (0, [zA 32, zI (I 42 (x2 : Int).toNat), zU, zU], [], zH S I) (fun w => Wp 144 (20, [zA 32, zI x1, zI x2, w3], w.1.toList ++ [], w.2) Q)) False) (Q (some (zI ((-1))), zH S I))) := (WpK_iff [2, 20, 22, 47] 10 144 _ Q).symm
set_option maxRecDepth 100000 in
theorem sg_X6_stateFor_20_32 (S : PS) (I : Nat → Nat → Int) (x1 : Int) (x2 : Int) (w3 : PV) (Q : PV1 → Prop) : Wp 144 (20, [zA 32, zI x1, zI x2, w3], [], zH S I) Q ↔ (Wp 144 (22, [zA 32, zI x1, zI x2, zI 0], [], zH S I) Q) := (WpK_iff [2, 20, 22, 47] 2 144 _ Q).symm
set_option maxRecDepth 100000 in
theorem sg_X6_stateFor_22_32 (S : PS) (I : Nat → Nat → Int) (x1 : Int) (x2 : Int) (x3 : Int) (Q : PV1 → Prop) : Wp 144 (22, [zA 32, zI x1, zI x2, zI x3], [], zH S I) Q ↔ (cond (decide (x3 < I 32 6)) (cond (zib x3 6) (cond (decide (I 47 (x3 : Int).toNat = 6)) (Wp 140 (0, [zA 32, zI x1, zI x3, zU, zU, zU], [], zH S I) (fun w => Wp 144 (47, [zA 32, zI x1, zI x2, zI x3], w.1.toList ++ [], w.2) Q)) (Wp 144 (22, [zA 32, zI x1, zI x2, zI (zad x3 1)], [], zH S I) Q)) False) (Wp 144 (2, [zA 32, zI x1, zI (zad x2 1), zI x3], [], zH S I) Q)) := (WpK_iff [2, 20, 22, 47] 14 144 _ Q).symm
set_option maxRecDepth 100000 in
theorem sg_X6_stateFor_47_32 (S : PS) (I : Nat → Nat → Int) (x1 : Int) (x2 : Int) (x3 : Int) (y0 : Int) (Q : PV1 → Prop) : Wp 144 (47, [zA 32, zI x1, zI x2, zI x3], [zI y0], zH S I) Q ↔ (cond (decide (y0 = 0)) (Wp 144 (22, [zA 32, zI x1, zI x2, zI (zad x3 1)], [], zH S I) Q) (Q (some (zI x2), zH S (zs2 I 32 20 x3)))) := (WpK_iff [2, 20, 22, 47] 6 144 _ Q).symm
set_option maxRecDepth 100000 in
theorem sg_X6_isTable_0 (S : PS) (I : Nat → Nat → Int) (x0 : Int) (Q : PV1 → Prop) : Wp 119 (0, [zI x0], [], zH S I) Q ↔ (Wp 115 (0, [zI x0, zI 0, zI 1], [], zH S I) (fun w => Wp 119 (6, [zI x0], w.1.toList ++ [], w.2) Q)) := (WpK_iff [6] 4 119 _ Q).symm
set_option maxRecDepth 100000 in
theorem sg_X6_isTable_6 (S : PS) (I : Nat → Nat → Int) (w0 : PV) (y0 : Int) (Q : PV1 → Prop) : Wp 119 (6, [w0], [zI y0], zH S I) Q ↔ (cond (zbb y0) (Q (some (zI y0), zH S I)) False) := (WpK_iff [6] 1 119 _ Q).symm
set_option maxRecDepth 100000 in
theorem sg_X6_judge_0_32 (S : PS) (I : Nat → Nat → Int) (x1 : Int) (x2 : Int) (w3 : PV) (w4 : PV) (Q : PV1 → Prop) : Wp 152 (0, [zA 32, zI x1, zI x2, w3, w4], [], zH S I) Q ↔ (Wp 152 (2, [zA 32, zI x1, zI x2, zI 0, w4], [], zH S I) Q) := (WpK_iff [2, 35] 2 152 _ Q).symm
set_option maxRecDepth 100000 in
theorem sg_X6_judge_2_32 (S : PS) (I : Nat → Nat → Int) (x1 : Int) (x2 : Int) (x3 : Int) (w4 : PV) (Q : PV1 → Prop) : Wp 152 (2, [zA 32, zI x1, zI x2, zI x3, w4], [], zH S I) Q ↔ (cond (decide (x3 < I 32 6)) (cond (zib (zad (zml 6 x1) x3) 12) (cond (decide (I 39 (zad (zml 6 x1) x3 : Int).toNat < 0)) (Wp 152 (2, [zA 32, zI x1, zI x2, zI (zad x3 1), zI (I 39 (zad (zml 6 x1) x3 : Int).toNat)], [], zH S I) Q) (Wp 120 (0, [zA 32, zI (I 39 (zad (zml 6 x1) x3 : Int).toNat), zI x2], [], zH S I) (fun w => Wp 152 (35, [zA 32, zI x1, zI x2, zI x3, zI (I 39 (zad (zml 6 x1) x3 : Int).toNat)], w.1.toList ++ [], w.2) Q))) False) (Q (some (zI ((-1))), zH S I))) := (WpK_iff [2, 35] 19 152 _ Q).symm
set_option maxRecDepth 100000 in
theorem sg_X6_judge_35_32 (S : PS) (I : Nat → Nat → Int) (x1 : Int) (x2 : Int) (x3 : Int) (x4 : Int) (y0 : Int) (Q : PV1 → Prop) : Wp 152 (35, [zA 32, zI x1, zI x2, zI x3, zI x4], [zI y0], zH S I) Q ↔ (cond (decide (y0 = 0)) (Wp 152 (2, [zA 32, zI x1, zI x2, zI (zad x3 1), zI x4], [], zH S I) Q) (cond (zib x4 16) (Q (some (zI (I 38 (x4 : Int).toNat)), zH S I)) False)) := (WpK_iff [2, 35] 6 152 _ Q).symm
set_option maxRecDepth 100000 in
theorem sg_X6_due_0_32 (S : PS) (I : Nat → Nat → Int) (x1 : Int) (x2 : Int) (w3 : PV) (w4 : PV) (Q : PV1 → Prop) : Wp 154 (0, [zA 32, zI x1, zI x2, w3, w4], [], zH S I) Q ↔ (Wp 154 (5, [zA 32, zI x1, zI x2, zI ((-1)), zI 0], [], zH S I) Q) := (WpK_iff [5, 29, 39, 53] 4 154 _ Q).symm
set_option maxRecDepth 100000 in
theorem sg_X6_due_5_32 (S : PS) (I : Nat → Nat → Int) (x1 : Int) (x2 : Int) (x3 : Int) (x4 : Int) (Q : PV1 → Prop) : Wp 154 (5, [zA 32, zI x1, zI x2, zI x3, zI x4], [], zH S I) Q ↔ (cond (decide (x4 < 16)) (cond (zib x4 16) (cond (decide (I 33 (x4 : Int).toNat = 0)) (Wp 154 (5, [zA 32, zI x1, zI x2, zI x3, zI (zad x4 1)], [], zH S I) Q) (Wp 132 (0, [zA 32, zI x1, zI x4, zU], [], zH S I) (fun w => Wp 154 (29, [zA 32, zI x1, zI x2, zI x3, zI x4], w.1.toList ++ [], w.2) Q))) False) (cond (decide (x3 < 0)) (Q (some (zI ((-1))), zH S I)) (cond (zib x3 16) (Q (some (zI (I 38 (x3 : Int).toNat)), zH S I)) False))) := (WpK_iff [5, 29, 39, 53] 12 154 _ Q).symm
set_option maxRecDepth 100000 in
theorem sg_X6_due_29_32 (S : PS) (I : Nat → Nat → Int) (x1 : Int) (x2 : Int) (x3 : Int) (x4 : Int) (y0 : Int) (Q : PV1 → Prop) : Wp 154 (29, [zA 32, zI x1, zI x2, zI x3, zI x4], [zI y0], zH S I) Q ↔ (cond (decide (y0 < 0)) (Wp 154 (5, [zA 32, zI x1, zI x2, zI x3, zI (zad x4 1)], [], zH S I) Q) (Wp 120 (0, [zA 32, zI x4, zI x2], [], zH S I) (fun w => Wp 154 (39, [zA 32, zI x1, zI x2, zI x3, zI x4], w.1.toList ++ [], w.2) Q))) := (WpK_iff [5, 29, 39, 53] 5 154 _ Q).symm
set_option maxRecDepth 100000 in
theorem sg_X6_due_39_32 (S : PS) (I : Nat → Nat → Int) (x1 : Int) (x2 : Int) (x3 : Int) (x4 : Int) (y0 : Int) (Q : PV1 → Prop) : Wp 154 (39, [zA 32, zI x1, zI x2, zI x3, zI x4], [zI y0], zH S I) Q ↔ (cond (decide (y0 = 0)) (Wp 154 (5, [zA 32, zI x1, zI x2, zI x3, zI (zad x4 1)], [], zH S I) Q) (cond (decide (x3 < 0)) (Wp 154 (5, [zA 32, zI x1, zI x2, zI x4, zI (zad x4 1)], [], zH S I) Q) (Wp 122 (0, [zA 32, zI x4, zI x3], [], zH S I) (fun w => Wp 154 (53, [zA 32, zI x1, zI x2, zI x3, zI x4], w.1.toList ++ [], w.2) Q)))) := (WpK_iff [5, 29, 39, 53] 8 154 _ Q).symm
set_option maxRecDepth 100000 in
theorem sg_X6_due_53_32 (S : PS) (I : Nat → Nat → Int) (x1 : Int) (x2 : Int) (x3 : Int) (x4 : Int) (y0 : Int) (Q : PV1 → Prop) : Wp 154 (53, [zA 32, zI x1, zI x2, zI x3, zI x4], [zI y0], zH S I) Q ↔ (cond (decide (y0 = 0)) (Wp 154 (5, [zA 32, zI x1, zI x2, zI x3, zI (zad x4 1)], [], zH S I) Q) (Wp 154 (5, [zA 32, zI x1, zI x2, zI x4, zI (zad x4 1)], [], zH S I) Q)) := (WpK_iff [5, 29, 39, 53] 6 154 _ Q).symm
set_option maxRecDepth 100000 in
theorem sg_X6_firstShown_0_32 (S : PS) (I : Nat → Nat → Int) (x1 : Int) (x2 : Int) (w3 : PV) (w4 : PV) (w5 : PV) (w6 : PV) (Q : PV1 → Prop) : Wp 156 (0, [zA 32, zI x1, zI x2, w3, w4, w5, w6], [], zH S I) Q ↔ (Wp 156 (2, [zA 32, zI x1, zI x2, zI 0, w4, w5, w6], [], zH S I) Q) := (WpK_iff [2, 14, 60, 70, 92] 2 156 _ Q).symm
set_option maxRecDepth 100000 in
theorem sg_X6_firstShown_2_32 (S : PS) (I : Nat → Nat → Int) (x1 : Int) (x2 : Int) (x3 : Int) (w4 : PV) (w5 : PV) (w6 : PV) (Q : PV1 → Prop) : Wp 156 (2, [zA 32, zI x1, zI x2, zI x3, w4, w5, w6], [], zH S I) Q ↔ (cond (decide (x3 < 32)) (Wp 156 (14, [zA 32, zI x1, zI x2, zI x3, zI 0, zI 0, w6], [], zH S I) Q) (Q (some (zI ((-2))), zH S I))) := (WpK_iff [2, 14, 60, 70, 92] 7 156 _ Q).symm
set_option maxRecDepth 100000 in
theorem sg_X6_firstShown_14_32 (S : PS) (I : Nat → Nat → Int) (x1 : Int) (x2 : Int) (x3 : Int) (x4 : Int) (x5 : Int) (w6 : PV) (Q : PV1 → Prop) : Wp 156 (14, [zA 32, zI x1, zI x2, zI x3, zI x4, zI x5, w6], [], zH S I) Q ↔ (cond (decide (x5 < I 32 6)) (cond (zib (zad (zml 6 x1) x5) 12) (cond (decide (x4 = 0)) (cond (decide (I 39 (zad (zml 6 x1) x5 : Int).toNat < 0)) (Wp 156 (14, [zA 32, zI x1, zI x2, zI x3, zI 0, zI (zad x5 1), zI (I 39 (zad (zml 6 x1) x5 : Int).toNat)], [], zH S I) Q) (cond (decide (I 39 (zad (zml 6 x1) x5 : Int).toNat = x2)) (Wp 156 (14, [zA 32, zI x1, zI x2, zI x3, zI 0, zI (zad x5 1), zI (I 39 (zad (zml 6 x1) x5 : Int).toNat)], [], zH S I) Q) (Wp 120 (0, [zA 32, zI (I 39 (zad (zml 6 x1) x5 : Int).toNat), zI x3], [], zH S I) (fun w => Wp 156 (60, [zA 32, zI x1, zI x2, zI x3, zI x4, zI x5, zI (I 39 (zad (zml 6 x1) x5 : Int).toNat)], w.1.toList ++ [], w.2) Q)))) (Wp 156 (14, [zA 32, zI x1, zI x2, zI x3, zI 1, zI (zad x5 1), zI (I 39 (zad (zml 6 x1) x5 : Int).toNat)], [], zH S I) Q)) False) (Wp 120 (0, [zA 32, zI x2, zI x3], [], zH S I) (fun w => Wp 156 (92, [zA 32, zI x1, zI x2, zI x3, zI x4, zI x5, w6], w.1.toList ++ [], w.2) Q))) := (WpK_iff [2, 14, 60, 70, 92] 24 156 _ Q).symm
set_option maxRecDepth 100000 in
theorem sg_X6_firstShown_60_32 (S : PS) (I : Nat → Nat → Int) (x1 : Int) (x2 : Int) (x3 : Int) (w4 : PV) (x5 : Int) (x6 : Int) (y0 : Int) (Q : PV1 → Prop) : Wp 156 (60, [zA 32, zI x1, zI x2, zI x3, w4, zI x5, zI x6], [zI y0], zH S I) Q ↔ (cond (decide (y0 = 0)) (Wp 156 (14, [zA 32, zI x1, zI x2, zI x3, zI 0, zI (zad x5 1), zI x6], [], zH S I) Q) (Wp 122 (0, [zA 32, zI x6, zI x2], [], zH S I) (fun w => Wp 156 (70, [zA 32, zI x1, zI x2, zI x3, w4, zI x5, zI x6], w.1.toList ++ [], w.2) Q))) := (WpK_iff [2, 14, 60, 70, 92] 5 156 _ Q).symm
set_option maxRecDepth 100000 in
theorem sg_X6_firstShown_70_32 (S : PS) (I : Nat → Nat → Int) (x1 : Int) (x2 : Int) (x3 : Int) (w4 : PV) (x5 : Int) (w6 : PV) (y0 : Int) (Q : PV1 → Prop) : Wp 156 (70, [zA 32, zI x1, zI x2, zI x3, w4, zI x5, w6], [zI y0], zH S I) Q ↔ (cond (decide (y0 = 0)) (Wp 156 (14, [zA 32, zI x1, zI x2, zI x3, zI 0, zI (zad x5 1), w6], [], zH S I) Q) (Wp 156 (14, [zA 32, zI x1, zI x2, zI x3, zI 1, zI (zad x5 1), w6], [], zH S I) Q)) := (WpK_iff [2, 14, 60, 70, 92] 6 156 _ Q).symm
set_option maxRecDepth 100000 in
theorem sg_X6_firstShown_92_32 (S : PS) (I : Nat → Nat → Int) (x1 : Int) (x2 : Int) (x3 : Int) (x4 : Int) (w5 : PV) (w6 : PV) (y0 : Int) (Q : PV1 → Prop) : Wp 156 (92, [zA 32, zI x1, zI x2, zI x3, zI x4, w5, w6], [zI y0], zH S I) Q ↔ (cond (decide (y0 = 0)) (Wp 156 (2, [zA 32, zI x1, zI x2, zI (zad x3 1), zI x4, w5, w6], [], zH S I) Q) (cond (decide (x4 = 0)) (Q (some (zI x3), zH S I)) (Wp 156 (2, [zA 32, zI x1, zI x2, zI (zad x3 1), zI x4, w5, w6], [], zH S I) Q))) := (WpK_iff [2, 14, 60, 70, 92] 5 156 _ Q).symm
set_option maxRecDepth 100000 in
theorem sg_X6_hasFree_0_32 (S : PS) (I : Nat → Nat → Int) (x1 : Int) (w2 : PV) (w3 : PV) (Q : PV1 → Prop) : Wp 143 (0, [zA 32, zI x1, w2, w3], [], zH S I) Q ↔ (Wp 143 (4, [zA 32, zI x1, zI 0, zI 0], [], zH S I) Q) := (WpK_iff [4] 4 143 _ Q).symm
set_option maxRecDepth 100000 in
theorem sg_X6_hasFree_4_32 (S : PS) (I : Nat → Nat → Int) (x1 : Int) (x2 : Int) (x3 : Int) (Q : PV1 → Prop) : Wp 143 (4, [zA 32, zI x1, zI x2, zI x3], [], zH S I) Q ↔ (cond (decide (x3 < I 32 6)) (cond (decide (x2 = 0)) (cond (zib (zad (zml 6 x1) x3) 12) (cond (decide (I 39 (zad (zml 6 x1) x3 : Int).toNat = (-2))) (Wp 143 (4, [zA 32, zI x1, zI 1, zI (zad x3 1)], [], zH S I) Q) (Wp 143 (4, [zA 32, zI x1, zI 0, zI (zad x3 1)], [], zH S I) Q)) False) (Wp 143 (4, [zA 32, zI x1, zI 1, zI (zad x3 1)], [], zH S I) Q)) (cond (zbb x2) (Q (some (zI x2), zH S I)) False)) := (WpK_iff [4] 21 143 _ Q).symm
set_option maxRecDepth 100000 in
theorem sg_X6_ones_0 (S : PS) (I : Nat → Nat → Int) (x0 : Int) (w1 : PV) (w2 : PV) (Q : PV1 → Prop) : Wp 160 (0, [zI x0, w1, w2], [], zH S I) Q ↔ (Wp 160 (4, [zI x0, zI 0, zI 0], [], zH S I) Q) := (WpK_iff [4] 4 160 _ Q).symm
set_option maxRecDepth 100000 in
theorem sg_X6_ones_4 (S : PS) (I : Nat → Nat → Int) (x0 : Int) (x1 : Int) (x2 : Int) (Q : PV1 → Prop) : Wp 160 (4, [zI x0, zI x1, zI x2], [], zH S I) Q ↔ (cond (decide (x2 < 5)) (Wp 160 (4, [zI x0, zI (zad x1 (zan (zsr x0 x2) 1)), zI (zad x2 1)], [], zH S I) Q) (Q (some (zI x1), zH S I))) := (WpK_iff [4] 13 160 _ Q).symm
set_option maxRecDepth 100000 in
theorem sg_X6_isSafe_0_32 (S : PS) (I : Nat → Nat → Int) (x1 : Int) (w2 : PV) (w3 : PV) (w4 : PV) (w5 : PV) (w6 : PV) (Q : PV1 → Prop) : Wp 161 (0, [zA 32, zI x1, w2, w3, w4, w5, w6], [], zH S I) Q ↔ (Wp 161 (4, [zA 32, zI x1, zI 1, zI 0, w4, w5, w6], [], zH S I) Q) := (WpK_iff [4, 17, 75, 86] 4 161 _ Q).symm
set_option maxRecDepth 100000 in
theorem sg_X6_isSafe_4_32 (S : PS) (I : Nat → Nat → Int) (x1 : Int) (x2 : Int) (x3 : Int) (w4 : PV) (w5 : PV) (w6 : PV) (Q : PV1 → Prop) : Wp 161 (4, [zA 32, zI x1, zI x2, zI x3, w4, w5, w6], [], zH S I) Q ↔ (cond (decide (x3 < I 32 6)) (Wp 161 (17, [zA 32, zI x1, zI x2, zI x3, zI (zad x3 1), w5, w6], [], zH S I) Q) (cond (zbb x2) (Q (some (zI x2), zH S I)) False)) := (WpK_iff [4, 17, 75, 86] 8 161 _ Q).symm
set_option maxRecDepth 100000 in
theorem sg_X6_isSafe_17_32 (S : PS) (I : Nat → Nat → Int) (x1 : Int) (x2 : Int) (x3 : Int) (x4 : Int) (w5 : PV) (w6 : PV) (Q : PV1 → Prop) : Wp 161 (17, [zA 32, zI x1, zI x2, zI x3, zI x4, w5, w6], [], zH S I) Q ↔ (cond (decide (x4 < I 32 6)) (cond (zib (zad (zml 6 x1) x3) 12) (cond (zib (zad (zml 6 x1) x4) 12) (cond (decide (x2 = 0)) (Wp 161 (17, [zA 32, zI x1, zI 0, zI x3, zI (zad x4 1), zI (I 39 (zad (zml 6 x1) x3 : Int).toNat), zI (I 39 (zad (zml 6 x1) x4 : Int).toNat)], [], zH S I) Q) (cond (decide (I 39 (zad (zml 6 x1) x3 : Int).toNat < 0)) (Wp 161 (17, [zA 32, zI x1, zI 1, zI x3, zI (zad x4 1), zI (I 39 (zad (zml 6 x1) x3 : Int).toNat), zI (I 39 (zad (zml 6 x1) x4 : Int).toNat)], [], zH S I) Q) (cond (decide (I 39 (zad (zml 6 x1) x4 : Int).toNat < 0)) (Wp 161 (17, [zA 32, zI x1, zI 1, zI x3, zI (zad x4 1), zI (I 39 (zad (zml 6 x1) x3 : Int).toNat), zI (I 39 (zad (zml 6 x1) x4 : Int).toNat)], [], zH S I) Q) (Wp 121 (0, [zA 32, zI (I 39 (zad (zml 6 x1) x3 : Int).toNat), zI (I 39 (zad (zml 6 x1) x4 : Int).toNat)], [], zH S I) (fun w => Wp 161 (75, [zA 32, zI x1, zI x2, zI x3, zI x4, zI (I 39 (zad (zml 6 x1) x3 : Int).toNat), zI (I 39 (zad (zml 6 x1) x4 : Int).toNat)], w.1.toList ++ [], w.2) Q))))) False) False) (Wp 161 (4, [zA 32, zI x1, zI x2, zI (zad x3 1), zI x4, w5, w6], [], zH S I) Q)) := (WpK_iff [4, 17, 75, 86] 33 161 _ Q).symm
set_option maxRecDepth 100000 in
theorem sg_X6_isSafe_75_32 (S : PS) (I : Nat → Nat → Int) (x1 : Int) (w2 : PV) (x3 : Int) (x4 : Int) (x5 : Int) (x6 : Int) (y0 : Int) (Q : PV1 → Prop) : Wp 161 (75, [zA 32, zI x1, w2, zI x3, zI x4, zI x5, zI x6], [zI y0], zH S I) Q ↔ (cond (decide (y0 = 0)) (Wp 161 (17, [zA 32, zI x1, zI 1, zI x3, zI (zad x4 1), zI x5, zI x6], [], zH S I) Q) (Wp 122 (0, [zA 32, zI x5, zI x6], [], zH S I) (fun w => Wp 161 (86, [zA 32, zI x1, w2, zI x3, zI x4, zI x5, zI x6], w.1.toList ++ [], w.2) Q))) := (WpK_iff [4, 17, 75, 86] 6 161 _ Q).symm
set_option maxRecDepth 100000 in
theorem sg_X6_isSafe_86_32 (S : PS) (I : Nat → Nat → Int) (x1 : Int) (w2 : PV) (x3 : Int) (x4 : Int) (w5 : PV) (w6 : PV) (y0 : Int) (Q : PV1 → Prop) : Wp 161 (86, [zA 32, zI x1, w2, zI x3, zI x4, w5, w6], [zI y0], zH S I) Q ↔ (cond (decide (y0 = 0)) (Wp 161 (17, [zA 32, zI x1, zI 0, zI x3, zI (zad x4 1), w5, w6], [], zH S I) Q) (Wp 161 (17, [zA 32, zI x1, zI 1, zI x3, zI (zad x4 1), w5, w6], [], zH S I) Q)) := (WpK_iff [4, 17, 75, 86] 6 161 _ Q).symm
set_option maxRecDepth 100000 in
theorem sg_X6_setRow_0_32 (S : PS) (I : Nat → Nat → Int) (x1 : Int) (w2 : PV) (w3 : PV) (Q : PV1 → Prop) : Wp 139 (0, [zA 32, zI x1, w2, w3], [], zH S I) Q ↔ (Wp 139 (4, [zA 32, zI x1, zI x1, zI 0], [], zH S I) Q) := (WpK_iff [4] 4 139 _ Q).symm
set_option maxRecDepth 100000 in
theorem sg_X6_setRow_4_32 (S : PS) (I : Nat → Nat → Int) (w1 : PV) (x2 : Int) (x3 : Int) (Q : PV1 → Prop) : Wp 139 (4, [zA 32, w1, zI x2, zI x3], [], zH S I) Q ↔ (cond (decide (x3 < I 32 6)) (cond (!decide ((7 : Int) = 0)) (cond (zib x3 6) (cond (!decide ((7 : Int) = 0)) (Wp 139 (4, [zA 32, w1, zI (zdv x2 7), zI (zad x3 1)], [], zH S (zs2 I 47 (x3 : Int).toNat (zrm x2 7))) Q) False) False) False) (Q (none, zH S I))) := (WpK_iff [4] 17 139 _ Q).symm
set_option maxRecDepth 100000 in
theorem sg_X6_codeOf_0_32 (S : PS) (I : Nat → Nat → Int) (w1 : PV) (w2 : PV) (Q : PV1 → Prop) : Wp 138 (0, [zA 32, w1, w2], [], zH S I) Q ↔ (Wp 138 (9, [zA 32, zI 0, zI (zsb (I 32 6) 1)], [], zH S I) Q) := (WpK_iff [9] 7 138 _ Q).symm
set_option maxRecDepth 100000 in
theorem sg_X6_codeOf_9_32 (S : PS) (I : Nat → Nat → Int) (x1 : Int) (x2 : Int) (Q : PV1 → Prop) : Wp 138 (9, [zA 32, zI x1, zI x2], [], zH S I) Q ↔ (cond (decide (x2 < 0)) (Q (some (zI x1), zH S I)) (cond (zib x2 6) (Wp 138 (9, [zA 32, zI (zad (zml 7 x1) (I 47 (x2 : Int).toNat)), zI (zad x2 (-1))], [], zH S I) Q) False)) := (WpK_iff [9] 13 138 _ Q).symm
set_option maxRecDepth 100000 in
theorem sg_X6_meet_0_32 (S : PS) (I : Nat → Nat → Int) (x1 : Int) (x2 : Int) (x3 : Int) (x4 : Int) (Q : PV1 → Prop) : Wp 141 (0, [zA 32, zI x1, zI x2, zI x3, zI x4], [], zH S I) Q ↔ (cond (zib x1 117649) (cond (decide (I 41 (x1 : Int).toNat = 0)) (cond (zib x1 117649 && zbb 1) (cond (zib ((zs2 I 41 (x1 : Int).toNat 1) 32 16) 2000) (cond (zib ((zs2 (zs2 I 41 (x1 : Int).toNat 1) 42 ((zs2 I 41 (x1 : Int).toNat 1) 32 16 : Int).toNat x1) 32 16) 2000) (cond (zib ((zs2 (zs2 (zs2 I 41 (x1 : Int).toNat 1) 42 ((zs2 I 41 (x1 : Int).toNat 1) 32 16 : Int).toNat x1) 43 ((zs2 (zs2 I 41 (x1 : Int).toNat 1) 42 ((zs2 I 41 (x1 : Int).toNat 1) 32 16 : Int).toNat x1) 32 16 : Int).toNat x2) 32 16) 2000) (cond (zib ((zs2 (zs2 (zs2 (zs2 I 41 (x1 : Int).toNat 1) 42 ((zs2 I 41 (x1 : Int).toNat 1) 32 16 : Int).toNat x1) 43 ((zs2 (zs2 I 41 (x1 : Int).toNat 1) 42 ((zs2 I 41 (x1 : Int).toNat 1) 32 16 : Int).toNat x1) 32 16 : Int).toNat x2) 44 ((zs2 (zs2 (zs2 I 41 (x1 : Int).toNat 1) 42 ((zs2 I 41 (x1 : Int).toNat 1) 32 16 : Int).toNat x1) 43 ((zs2 (zs2 I 41 (x1 : Int).toNat 1) 42 ((zs2 I 41 (x1 : Int).toNat 1) 32 16 : Int).toNat x1) 32 16 : Int).toNat x2) 32 16 : Int).toNat x3) 32 16) 2000) (Q (none, zH S (zs2 (zs2 (zs2 (zs2 (zs2 (zs2 I 41 (x1 : Int).toNat 1) 42 ((zs2 I 41 (x1 : Int).toNat 1) 32 16 : Int).toNat x1) 43 ((zs2 (zs2 I 41 (x1 : Int).toNat 1) 42 ((zs2 I 41 (x1 : Int).toNat 1) 32 16 : Int).toNat x1) 32 16 : Int).toNat x2) 44 ((zs2 (zs2 (zs2 I 41 (x1 : Int).toNat 1) 42 ((zs2 I 41 (x1 : Int).toNat 1) 32 16 : Int).toNat x1) 43 ((zs2 (zs2 I 41 (x1 : Int).toNat 1) 42 ((zs2 I 41 (x1 : Int).toNat 1) 32 16 : Int).toNat x1) 32 16 : Int).toNat x2) 32 16 : Int).toNat x3) 45 ((zs2 (zs2 (zs2 (zs2 I 41 (x1 : Int).toNat 1) 42 ((zs2 I 41 (x1 : Int).toNat 1) 32 16 : Int).toNat x1) 43 ((zs2 (zs2 I 41 (x1 : Int).toNat 1) 42 ((zs2 I 41 (x1 : Int).toNat 1) 32 16 : Int).toNat x1) 32 16 : Int).toNat x2) 44 ((zs2 (zs2 (zs2 I 41 (x1 : Int).toNat 1) 42 ((zs2 I 41 (x1 : Int).toNat 1) 32 16 : Int).toNat x1) 43 ((zs2 (zs2 I 41 (x1 : Int).toNat 1) 42 ((zs2 I 41 (x1 : Int).toNat 1) 32 16 : Int).toNat x1) 32 16 : Int).toNat x2) 32 16 : Int).toNat x3) 32 16 : Int).toNat x4) 32 16 (zad ((zs2 (zs2 (zs2 (zs2 (zs2 I 41 (x1 : Int).toNat 1) 42 ((zs2 I 41 (x1 : Int).toNat 1) 32 16 : Int).toNat x1) 43 ((zs2 (zs2 I 41 (x1 : Int).toNat 1) 42 ((zs2 I 41 (x1 : Int).toNat 1) 32 16 : Int).toNat x1) 32 16 : Int).toNat x2) 44 ((zs2 (zs2 (zs2 I 41 (x1 : Int).toNat 1) 42 ((zs2 I 41 (x1 : Int).toNat 1) 32 16 : Int).toNat x1) 43 ((zs2 (zs2 I 41 (x1 : Int).toNat 1) 42 ((zs2 I 41 (x1 : Int).toNat 1) 32 16 : Int).toNat x1) 32 16 : Int).toNat x2) 32 16 : Int).toNat x3) 45 ((zs2 (zs2 (zs2 (zs2 I 41 (x1 : Int).toNat 1) 42 ((zs2 I 41 (x1 : Int).toNat 1) 32 16 : Int).toNat x1) 43 ((zs2 (zs2 I 41 (x1 : Int).toNat 1) 42 ((zs2 I 41 (x1 : Int).toNat 1) 32 16 : Int).toNat x1) 32 16 : Int).toNat x2) 44 ((zs2 (zs2 (zs2 I 41 (x1 : Int).toNat 1) 42 ((zs2 I 41 (x1 : Int).toNat 1) 32 16 : Int).toNat x1) 43 ((zs2 (zs2 I 41 (x1 : Int).toNat 1) 42 ((zs2 I 41 (x1 : Int).toNat 1) 32 16 : Int).toNat x1) 32 16 : Int).toNat x2) 32 16 : Int).toNat x3) 32 16 : Int).toNat x4) 32 16) 1)))) False) False) False) False) False) (Q (none, zH S I))) False) := (WpK_iff [] 41 141 _ Q).symm
set_option maxRecDepth 100000 in
theorem sg_X6_isSafeAt_0_32 (S : PS) (I : Nat → Nat → Int) (x1 : Int) (x2 : Int) (w3 : PV) (w4 : PV) (w5 : PV) (Q : PV1 → Prop) : Wp 140 (0, [zA 32, zI x1, zI x2, w3, w4, w5], [], zH S I) Q ↔ (Wp 140 (5, [zA 32, zI x1, zI x2, zI 1, zI 0, w5], [], zH S I) Q) := (WpK_iff [5, 57, 73, 86] 4 140 _ Q).symm
set_option maxRecDepth 100000 in
theorem sg_X6_isSafeAt_5_32 (S : PS) (I : Nat → Nat → Int) (x1 : Int) (x2 : Int) (x3 : Int) (x4 : Int) (w5 : PV) (Q : PV1 → Prop) : Wp 140 (5, [zA 32, zI x1, zI x2, zI x3, zI x4, w5], [], zH S I) Q ↔ (cond (decide (x4 < I 32 6)) (cond (decide (x4 = x2)) (Wp 140 (5, [zA 32, zI x1, zI x2, zI x3, zI (zad x4 1), w5], [], zH S I) Q) (cond (zib x4 6) (cond (decide (I 47 (x4 : Int).toNat < 6)) (cond (zib x4 6) (cond (zib (I 47 (x4 : Int).toNat) 6) (cond (decide (x3 = 0)) (Wp 140 (5, [zA 32, zI x1, zI x2, zI 0, zI (zad x4 1), zI (I 46 (I 47 (x4 : Int).toNat : Int).toNat)], [], zH S I) Q) (Wp 121 (0, [zA 32, zI x1, zI (I 46 (I 47 (x4 : Int).toNat : Int).toNat)], [], zH S I) (fun w => Wp 140 (57, [zA 32, zI x1, zI x2, zI x3, zI x4, zI (I 46 (I 47 (x4 : Int).toNat : Int).toNat)], w.1.toList ++ [], w.2) Q))) False) False) (Wp 140 (5, [zA 32, zI x1, zI x2, zI x3, zI (zad x4 1), w5], [], zH S I) Q)) False)) (cond (zbb x3) (Q (some (zI x3), zH S I)) False)) := (WpK_iff [5, 57, 73, 86] 27 140 _ Q).symm
set_option maxRecDepth 100000 in
theorem sg_X6_isSafeAt_57_32 (S : PS) (I : Nat → Nat → Int) (x1 : Int) (x2 : Int) (w3 : PV) (x4 : Int) (x5 : Int) (y0 : Int) (Q : PV1 → Prop) : Wp 140 (57, [zA 32, zI x1, zI x2, w3, zI x4, zI x5], [zI y0], zH S I) Q ↔ (cond (decide (y0 = 0)) (Wp 140 (5, [zA 32, zI x1, zI x2, zI 1, zI (zad x4 1), zI x5], [], zH S I) Q) (cond (decide (x4 < x2)) (Wp 122 (0, [zA 32, zI x5, zI x1], [], zH S I) (fun w => Wp 140 (73, [zA 32, zI x1, zI x2, w3, zI x4, zI x5], w.1.toList ++ [], w.2) Q)) (Wp 122 (0, [zA 32, zI x1, zI x5], [], zH S I) (fun w => Wp 140 (86, [zA 32, zI x1, zI x2, w3, zI x4, zI x5], w.1.toList ++ [], w.2) Q)))) := (WpK_iff [5, 57, 73, 86] 8 140 _ Q).symm
set_option maxRecDepth 100000 in
theorem sg_X6_isSafeAt_73_32 (S : PS) (I : Nat → Nat → Int) (x1 : Int) (x2 : Int) (w3 : PV) (x4 : Int) (w5 : PV) (y0 : Int) (Q : PV1 → Prop) : Wp 140 (73, [zA 32, zI x1, zI x2, w3, zI x4, w5], [zI y0], zH S I) Q ↔ (cond (decide (y0 = 0)) (Wp 140 (5, [zA 32, zI x1, zI x2, zI 0, zI (zad x4 1), w5], [], zH S I) Q) (Wp 140 (5, [zA 32, zI x1, zI x2, zI 1, zI (zad x4 1), w5], [], zH S I) Q)) := (WpK_iff [5, 57, 73, 86] 7 140 _ Q).symm
set_option maxRecDepth 100000 in
theorem sg_X6_isSafeAt_86_32 (S : PS) (I : Nat → Nat → Int) (x1 : Int) (x2 : Int) (w3 : PV) (x4 : Int) (w5 : PV) (y0 : Int) (Q : PV1 → Prop) : Wp 140 (86, [zA 32, zI x1, zI x2, w3, zI x4, w5], [zI y0], zH S I) Q ↔ (cond (decide (y0 = 0)) (Wp 140 (5, [zA 32, zI x1, zI x2, zI 0, zI (zad x4 1), w5], [], zH S I) Q) (Wp 140 (5, [zA 32, zI x1, zI x2, zI 1, zI (zad x4 1), w5], [], zH S I) Q)) := (WpK_iff [5, 57, 73, 86] 6 140 _ Q).symm
set_option maxRecDepth 100000 in
theorem sg_X6_fits_0_32 (S : PS) (I : Nat → Nat → Int) (x1 : Int) (x2 : Int) (Q : PV1 → Prop) : Wp 120 (0, [zA 32, zI x1, zI x2], [], zH S I) Q ↔ (cond (zib x1 17) (cond (zib x1 17) (cond (decide (zan x2 (I 36 (x1 : Int).toNat) = I 35 (x1 : Int).toNat)) (cond (zbb 1) (Q (some (zI 1), zH S I)) False) (cond (zbb 0) (Q (some (zI 0), zH S I)) False)) False) False) := (WpK_iff [] 14 120 _ Q).symm
end
section
/-! what each stretch of the code does (laid by a program; each is checked by unfolding) -/
set_option maxRecDepth 100000 in
theorem sg_L_law_16_0_32 (S : PS) (I : Nat → Nat → Int) (w3 : PV) (Q : PV1 → Prop) : Wp 172 (16, [zS, zA 0, zA 32, w3], [], zH S I) Q ↔ (Wp 172 (18, [zS, zA 0, zA 32, zI 0], [], zH S I) Q) := (WpK_iff [7, 15, 18, 157, 166, 195, 219, 233, 242, 271, 295, 314, 328, 342, 351, 370, 384, 403, 417, 436, 450, 469, 483, 502, 516, 535, 549, 568, 582, 601, 615, 634, 648, 662, 671, 690, 704, 723, 737, 756, 770, 794, 813, 822, 826, 835, 839, 853, 862, 871, 875, 889, 898] 2 172 _ Q).symm
set_option maxRecDepth 100000 in
theorem sg_L_law_18_0_32 (S : PS) (I : Nat → Nat → Int) (x3 : Int) (Q : PV1 → Prop) : Wp 172 (18, [zS, zA 0, zA 32, zI x3], [], zH S I) Q ↔ (cond (decide (zsb ((S.1 : Int)) 5 < x3)) (cond (zbb 1) (Q (some (zI 1), zH S I)) False) (cond (zib x3 S.1) (cond (decide (zan (S.2 (x3 : Int).toNat) 31 = 0)) (cond (zib (zad x3 1) S.1) (Wp 78 (0, [zA 0, zI (S.2 (zad x3 1 : Int).toNat), zU], [], zH S I) (fun w => Wp 172 (157, [zS, zA 0, zA 32, zI x3], w.1.toList ++ [], w.2) Q)) False) (cond (decide (zan (S.2 (x3 : Int).toNat) 31 = 1)) (cond (zib (zad x3 1) S.1) (cond (zib (zad x3 2) S.1) (cond (zib (zad x3 3) S.1) (cond (zib (zad x3 4) S.1) (Wp 79 (0, [zA 0, zI (S.2 (zad x3 1 : Int).toNat), zI (S.2 (zad x3 2 : Int).toNat), zI (S.2 (zad x3 3 : Int).toNat), zI (S.2 (zad x3 4 : Int).toNat)], [], zH S I) (fun w => Wp 172 (195, [zS, zA 0, zA 32, zI x3], w.1.toList ++ [], w.2) Q)) False) False) False) False) (cond (decide (zan (S.2 (x3 : Int).toNat) 31 = 2)) (cond (zib (zad x3 1) S.1) (Wp 80 (0, [zA 0, zI (S.2 (zad x3 1 : Int).toNat)], [], zH S I) (fun w => Wp 172 (233, [zS, zA 0, zA 32, zI x3], w.1.toList ++ [], w.2) Q)) False) (cond (decide (zan (S.2 (x3 : Int).toNat) 31 = 3)) (cond (zib (zad x3 1) S.1) (cond (zib (zad x3 2) S.1) (cond (zib (zad x3 3) S.1) (cond (zib (zad x3 4) S.1) (Wp 81 (0, [zA 0, zI (S.2 (zad x3 1 : Int).toNat), zI (S.2 (zad x3 2 : Int).toNat), zI (S.2 (zad x3 3 : Int).toNat), zI (S.2 (zad x3 4 : Int).toNat), zU, zU, zU, zU], [], zH S I) (fun w => Wp 172 (271, [zS, zA 0, zA 32, zI x3], w.1.toList ++ [], w.2) Q)) False) False) False) False) (cond (decide (zan (S.2 (x3 : Int).toNat) 31 = 4)) (cond (zib (zad x3 1) S.1) (cond (zib (zad x3 2) S.1) (Wp 82 (0, [zA 0, zI (S.2 (zad x3 1 : Int).toNat), zI (S.2 (zad x3 2 : Int).toNat)], [], zH S I) (fun w => Wp 172 (314, [zS, zA 0, zA 32, zI x3], w.1.toList ++ [], w.2) Q)) False) False) (cond (decide (zan (S.2 (x3 : Int).toNat) 31 = 5)) (cond (zib (zad x3 1) S.1) (Wp 83 (0, [zA 0, zI (S.2 (zad x3 1 : Int).toNat)], [], zH S I) (fun w => Wp 172 (342, [zS, zA 0, zA 32, zI x3], w.1.toList ++ [], w.2) Q)) False) (cond (decide (zan (S.2 (x3 : Int).toNat) 31 = 6)) (cond (zib (zad x3 1) S.1) (cond (zib (zad x3 2) S.1) (Wp 84 (0, [zA 0, zI (S.2 (zad x3 1 : Int).toNat), zI (S.2 (zad x3 2 : Int).toNat), zU], [], zH S I) (fun w => Wp 172 (370, [zS, zA 0, zA 32, zI x3], w.1.toList ++ [], w.2) Q)) False) False) (cond (decide (zan (S.2 (x3 : Int).toNat) 31 = 7)) (cond (zib (zad x3 1) S.1) (cond (zib (zad x3 2) S.1) (Wp 85 (0, [zA 0, zI (S.2 (zad x3 1 : Int).toNat), zI (S.2 (zad x3 2 : Int).toNat)], [], zH S I) (fun w => Wp 172 (403, [zS, zA 0, zA 32, zI x3], w.1.toList ++ [], w.2) Q)) False) False) (cond (decide (zan (S.2 (x3 : Int).toNat) 31 = 8)) (cond (zib (zad x3 1) S.1) (cond (zib (zad x3 2) S.1) (Wp 86 (0, [zA 0, zI (S.2 (zad x3 1 : Int).toNat), zI (S.2 (zad x3 2 : Int).toNat)], [], zH S I) (fun w => Wp 172 (436, [zS, zA 0, zA 32, zI x3], w.1.toList ++ [], w.2) Q)) False) False) (cond (decide (zan (S.2 (x3 : Int).toNat) 31 = 9)) (cond (zib (zad x3 1) S.1) (cond (zib (zad x3 2) S.1) (Wp 87 (0, [zA 0, zI (S.2 (zad x3 1 : Int).toNat), zI (S.2 (zad x3 2 : Int).toNat), zU, zU], [], zH S I) (fun w => Wp 172 (469, [zS, zA 0, zA 32, zI x3], w.1.toList ++ [], w.2) Q)) False) False) (cond (decide (zan (S.2 (x3 : Int).toNat) 31 = 10)) (cond (zib (zad x3 1) S.1) (cond (zib (zad x3 2) S.1) (Wp 88 (0, [zA 0, zI (S.2 (zad x3 1 : Int).toNat), zI (S.2 (zad x3 2 : Int).toNat), zU, zU], [], zH S I) (fun w => Wp 172 (502, [zS, zA 0, zA 32, zI x3], w.1.toList ++ [], w.2) Q)) False) False) (cond (decide (zan (S.2 (x3 : Int).toNat) 31 = 11)) (cond (zib (zad x3 1) S.1) (cond (zib (zad x3 2) S.1) (Wp 89 (0, [zA 0, zI (S.2 (zad x3 1 : Int).toNat), zI (S.2 (zad x3 2 : Int).toNat)], [], zH S I) (fun w => Wp 172 (535, [zS, zA 0, zA 32, zI x3], w.1.toList ++ [], w.2) Q)) False) False) (cond (decide (zan (S.2 (x3 : Int).toNat) 31 = 12)) (cond (zib (zad x3 1) S.1) (cond (zib (zad x3 2) S.1) (Wp 90 (0, [zA 0, zI (S.2 (zad x3 1 : Int).toNat), zI (S.2 (zad x3 2 : Int).toNat), zU, zU], [], zH S I) (fun w => Wp 172 (568, [zS, zA 0, zA 32, zI x3], w.1.toList ++ [], w.2) Q)) False) False) (cond (decide (zan (S.2 (x3 : Int).toNat) 31 = 13)) (cond (zib (zad x3 1) S.1) (cond (zib (zad x3 2) S.1) (Wp 91 (0, [zA 0, zI (S.2 (zad x3 1 : Int).toNat), zI (S.2 (zad x3 2 : Int).toNat), zU, zU], [], zH S I) (fun w => Wp 172 (601, [zS, zA 0, zA 32, zI x3], w.1.toList ++ [], w.2) Q)) False) False) (cond (decide (zan (S.2 (x3 : Int).toNat) 31 = 14)) (cond (zib (zad x3 1) S.1) (cond (zib (zad x3 2) S.1) (Wp 92 (0, [zA 0, zI (S.2 (zad x3 1 : Int).toNat), zI (S.2 (zad x3 2 : Int).toNat), zU], [], zH S I) (fun w => Wp 172 (634, [zS, zA 0, zA 32, zI x3], w.1.toList ++ [], w.2) Q)) False) False) (cond (decide (zan (S.2 (x3 : Int).toNat) 31 = 15)) (cond (zib (zad x3 1) S.1) (Wp 93 (0, [zA 0, zI (S.2 (zad x3 1 : Int).toNat), zU, zU, zU], [], zH S I) (fun w => Wp 172 (662, [zS, zA 0, zA 32, zI x3], w.1.toList ++ [], w.2) Q)) False) (cond (decide (zan (S.2 (x3 : Int).toNat) 31 = 16)) (cond (zib (zad x3 1) S.1) (cond (zib (zad x3 2) S.1) (Wp 94 (0, [zA 0, zI (S.2 (zad x3 1 : Int).toNat), zI (S.2 (zad x3 2 : Int).toNat), zU], [], zH S I) (fun w => Wp 172 (690, [zS, zA 0, zA 32, zI x3], w.1.toList ++ [], w.2) Q)) False) False) (cond (decide (zan (S.2 (x3 : Int).toNat) 31 = 17)) (cond (zib (zad x3 1) S.1) (cond (zib (zad x3 2) S.1) (Wp 95 (0, [zA 0, zI (S.2 (zad x3 1 : Int).toNat), zI (S.2 (zad x3 2 : Int).toNat), zU], [], zH S I) (fun w => Wp 172 (723, [zS, zA 0, zA 32, zI x3], w.1.toList ++ [], w.2) Q)) False) False) (cond (decide (zan (S.2 (x3 : Int).toNat) 31 = 18)) (cond (zib (zad x3 1) S.1) (cond (zib (zad x3 2) S.1) (Wp 96 (0, [zA 0, zI (S.2 (zad x3 1 : Int).toNat), zI (S.2 (zad x3 2 : Int).toNat), zU], [], zH S I) (fun w => Wp 172 (756, [zS, zA 0, zA 32, zI x3], w.1.toList ++ [], w.2) Q)) False) False) (cond (decide (zan (S.2 (x3 : Int).toNat) 31 = 19)) (cond (zib (zad x3 1) S.1) (cond (zib (zad x3 2) S.1) (cond (zib (zad x3 3) S.1) (Wp 97 (0, [zA 0, zI (S.2 (zad x3 1 : Int).toNat), zI (S.2 (zad x3 2 : Int).toNat), zI (S.2 (zad x3 3 : Int).toNat), zU, zU, zU, zU], [], zH S I) (fun w => Wp 172 (794, [zS, zA 0, zA 32, zI x3], w.1.toList ++ [], w.2) Q)) False) False) False) (cond (decide (zan (S.2 (x3 : Int).toNat) 31 = 20)) (Wp 98 (0, [zA 0], [], zH S I) (fun w => Wp 172 (822, [zS, zA 0, zA 32, zI x3], w.1.toList ++ [], w.2) Q)) (cond (decide (zan (S.2 (x3 : Int).toNat) 31 = 21)) (Wp 99 (0, [zA 0, zU, zU], [], zH S I) (fun w => Wp 172 (835, [zS, zA 0, zA 32, zI x3], w.1.toList ++ [], w.2) Q)) (cond (decide (zan (S.2 (x3 : Int).toNat) 31 = 22)) (cond (zib (zad x3 1) S.1) (Wp 100 (0, [zA 0, zI (S.2 (zad x3 1 : Int).toNat), zU, zU, zU, zU, zU], [], zH S I) (fun w => Wp 172 (853, [zS, zA 0, zA 32, zI x3], w.1.toList ++ [], w.2) Q)) False) (cond (decide (zan (S.2 (x3 : Int).toNat) 31 = 23)) (Wp 101 (0, [zA 0], [], zH S I) (fun w => Wp 172 (871, [zS, zA 0, zA 32, zI x3], w.1.toList ++ [], w.2) Q)) (cond (decide (zan (S.2 (x3 : Int).toNat) 31 = 24)) (cond (zib (zad x3 1) S.1) (Wp 102 (0, [zA 0, zI (S.2 (zad x3 1 : Int).toNat)], [], zH S I) (fun w => Wp 172 (889, [zS, zA 0, zA 32, zI x3], w.1.toList ++ [], w.2) Q)) False) (Wp 172 (18, [zS, zA 0, zA 32, zI (zad x3 5)], [], zH S I) Q)))))))))))))))))))))))))) False)) := (WpK_iff [7, 15, 18, 157, 166, 195, 219, 233, 242, 271, 295, 314, 328, 342, 351, 370, 384, 403, 417, 436, 450, 469, 483, 502, 516, 535, 549, 568, 582, 601, 615, 634, 648, 662, 671, 690, 704, 723, 737, 756, 770, 794, 813, 822, 826, 835, 839, 853, 862, 871, 875, 889, 898] 34 172 _ Q).symm
set_option maxRecDepth 100000 in
theorem sg_L_law_157_0_32 (S : PS) (I : Nat → Nat → Int) (x3 : Int) (y0 : Int) (Q : PV1 → Prop) : Wp 172 (157, [zS, zA 0, zA 32, zI x3], [zI y0], zH S I) Q ↔ (cond (zib (zad x3 1) S.1) (Wp 125 (0, [zA 32, zI (S.2 (zad x3 1 : Int).toNat), zU, zU], [], zH S I) (fun w => Wp 172 (166, [zS, zA 0, zA 32, zI x3], w.1.toList ++ [zI y0], w.2) Q)) False) := (WpK_iff [7, 15, 18, 157, 166, 195, 219, 233, 242, 271, 295, 314, 328, 342, 351, 370, 384, 403, 417, 436, 450, 469, 483, 502, 516, 535, 549, 568, 582, 601, 615, 634, 648, 662, 671, 690, 704, 723, 737, 756, 770, 794, 813, 822, 826, 835, 839, 853, 862, 871, 875, 889, 898] 7 172 _ Q).symm
set_option maxRecDepth 100000 in
theorem sg_L_law_166_0_32 (S : PS) (I : Nat → Nat → Int) (x3 : Int) (y0 : Int) (y1 : Int) (Q : PV1 → Prop) : Wp 172 (166, [zS, zA 0, zA 32, zI x3], [zI y1, zI y0], zH S I) Q ↔ (cond (decide (y0 = y1)) (Wp 172 (18, [zS, zA 0, zA 32, zI (zad x3 5)], [], zH S I) Q) (cond (zbb 0) (Q (some (zI 0), zH S I)) False)) := (WpK_iff [7, 15, 18, 157, 166, 195, 219, 233, 242, 271, 295, 314, 328, 342, 351, 370, 384, 403, 417, 436, 450, 469, 483, 502, 516, 535, 549, 568, 582, 601, 615, 634, 648, 662, 671, 690, 704, 723, 737, 756, 770, 794, 813, 822, 826, 835, 839, 853, 862, 871, 875, 889, 898] 3 172 _ Q).symm
set_option maxRecDepth 100000 in
theorem sg_L_law_195_0_32 (S : PS) (I : Nat → Nat → Int) (x3 : Int) (y0 : Int) (Q : PV1 → Prop) : Wp 172 (195, [zS, zA 0, zA 32, zI x3], [zI y0], zH S I) Q ↔ (cond (zib (zad x3 1) S.1) (cond (zib (zad x3 2) S.1) (cond (zib (zad x3 3) S.1) (cond (zib (zad x3 4) S.1) (Wp 128 (0, [zA 32, zI (S.2 (zad x3 1 : Int).toNat), zI (S.2 (zad x3 2 : Int).toNat), zI (S.2 (zad x3 3 : Int).toNat), zI (S.2 (zad x3 4 : Int).toNat)], [], zH S I) (fun w => Wp 172 (219, [zS, zA 0, zA 32, zI x3], w.1.toList ++ [zI y0], w.2) Q)) False) False) False) False) := (WpK_iff [7, 15, 18, 157, 166, 195, 219, 233, 242, 271, 295, 314, 328, 342, 351, 370, 384, 403, 417, 436, 450, 469, 483, 502, 516, 535, 549, 568, 582, 601, 615, 634, 648, 662, 671, 690, 704, 723, 737, 756, 770, 794, 813, 822, 826, 835, 839, 853, 862, 871, 875, 889, 898] 22 172 _ Q).symm
set_option maxRecDepth 100000 in
theorem sg_L_law_219_0_32 (S : PS) (I : Nat → Nat → Int) (x3 : Int) (y0 : Int) (y1 : Int) (Q : PV1 → Prop) : Wp 172 (219, [zS, zA 0, zA 32, zI x3], [zI y1, zI y0], zH S I) Q ↔ (cond (decide (y0 = y1)) (Wp 172 (18, [zS, zA 0, zA 32, zI (zad x3 5)], [], zH S I) Q) (cond (zbb 0) (Q (some (zI 0), zH S I)) False)) := (WpK_iff [7, 15, 18, 157, 166, 195, 219, 233, 242, 271, 295, 314, 328, 342, 351, 370, 384, 403, 417, 436, 450, 469, 483, 502, 516, 535, 549, 568, 582, 601, 615, 634, 648, 662, 671, 690, 704, 723, 737, 756, 770, 794, 813, 822, 826, 835, 839, 853, 862, 871, 875, 889, 898] 3 172 _ Q).symm
set_option maxRecDepth 100000 in
theorem sg_L_law_233_0_32 (S : PS) (I : Nat → Nat → Int) (x3 : Int) (y0 : Int) (Q : PV1 → Prop) : Wp 172 (233, [zS, zA 0, zA 32, zI x3], [zI y0], zH S I) Q ↔ (cond (zib (zad x3 1) S.1) (Wp 129 (0, [zA 32, zI (S.2 (zad x3 1 : Int).toNat)], [], zH S I) (fun w => Wp 172 (242, [zS, zA 0, zA 32, zI x3], w.1.toList ++ [zI y0], w.2) Q)) False) := (WpK_iff [7, 15, 18, 157, 166, 195, 219, 233, 242, 271, 295, 314, 328, 342, 351, 370, 384, 403, 417, 436, 450, 469, 483, 502, 516, 535, 549, 568, 582, 601, 615, 634, 648, 662, 671, 690, 704, 723, 737, 756, 770, 794, 813, 822, 826, 835, 839, 853, 862, 871, 875, 889, 898] 7 172 _ Q).symm
set_option maxRecDepth 100000 in
theorem sg_L_law_242_0_32 (S : PS) (I : Nat → Nat → Int) (x3 : Int) (y0 : Int) (y1 : Int) (Q : PV1 → Prop) : Wp 172 (242, [zS, zA 0, zA 32, zI x3], [zI y1, zI y0], zH S I) Q ↔ (cond (decide (y0 = y1)) (Wp 172 (18, [zS, zA 0, zA 32, zI (zad x3 5)], [], zH S I) Q) (cond (zbb 0) (Q (some (zI 0), zH S I)) False)) := (WpK_iff [7, 15, 18, 157, 166, 195, 219, 233, 242, 271, 295, 314, 328, 342, 351, 370, 384, 403, 417, 436, 450, 469, 483, 502, 516, 535, 549, 568, 582, 601, 615, 634, 648, 662, 671, 690, 704, 723, 737, 756, 770, 794, 813, 822, 826, 835, 839, 853, 862, 871, 875, 889, 898] 3 172 _ Q).symm
set_option maxRecDepth 100000 in
theorem sg_L_law_271_0_32 (S : PS) (I : Nat → Nat → Int) (x3 : Int) (y0 : Int) (Q : PV1 → Prop) : Wp 172 (271, [zS, zA 0, zA 32, zI x3], [zI y0], zH S I) Q ↔ (cond (zib (zad x3 1) S.1) (cond (zib (zad x3 2) S.1) (cond (zib (zad x3 3) S.1) (cond (zib (zad x3 4) S.1) (Wp 131 (0, [zA 32, zI (S.2 (zad x3 1 : Int).toNat), zI (S.2 (zad x3 2 : Int).toNat), zI (S.2 (zad x3 3 : Int).toNat), zI (S.2 (zad x3 4 : Int).toNat), zU, zU, zU], [], zH S I) (fun w => Wp 172 (295, [zS, zA 0, zA 32, zI x3], w.1.toList ++ [zI y0], w.2) Q)) False) False) False) False) := (WpK_iff [7, 15, 18, 157, 166, 195, 219, 233, 242, 271, 295, 314, 328, 342, 351, 370, 384, 403, 417, 436, 450, 469, 483, 502, 516, 535, 549, 568, 582, 601, 615, 634, 648, 662, 671, 690, 704, 723, 737, 756, 770, 794, 813, 822, 826, 835, 839, 853, 862, 871, 875, 889, 898] 22 172 _ Q).symm
set_option maxRecDepth 100000 in
theorem sg_L_law_295_0_32 (S : PS) (I : Nat → Nat → Int) (x3 : Int) (y0 : Int) (y1 : Int) (Q : PV1 → Prop) : Wp 172 (295, [zS, zA 0, zA 32, zI x3], [zI y1, zI y0], zH S I) Q ↔ (cond (decide (y0 = y1)) (Wp 172 (18, [zS, zA 0, zA 32, zI (zad x3 5)], [], zH S I) Q) (cond (zbb 0) (Q (some (zI 0), zH S I)) False)) := (WpK_iff [7, 15, 18, 157, 166, 195, 219, 233, 242, 271, 295, 314, 328, 342, 351, 370, 384, 403, 417, 436, 450, 469, 483, 502, 516, 535, 549, 568, 582, 601, 615, 634, 648, 662, 671, 690, 704, 723, 737, 756, 770, 794, 813, 822, 826, 835, 839, 853, 862, 871, 875, 889, 898] 3 172 _ Q).symm
set_option maxRecDepth 100000 in
theorem sg_L_law_314_0_32 (S : PS) (I : Nat → Nat → Int) (x3 : Int) (y0 : Int) (Q : PV1 → Prop) : Wp 172 (314, [zS, zA 0, zA 32, zI x3], [zI y0], zH S I) Q ↔ (cond (zib (zad x3 1) S.1) (cond (zib (zad x3 2) S.1) (Wp 133 (0, [zA 32, zI (S.2 (zad x3 1 : Int).toNat), zI (S.2 (zad x3 2 : Int).toNat)], [], zH S I) (fun w => Wp 172 (328, [zS, zA 0, zA 32, zI x3], w.1.toList ++ [zI y0], w.2) Q)) False) False) := (WpK_iff [7, 15, 18, 157, 166, 195, 219, 233, 242, 271, 295, 314, 328, 342, 351, 370, 384, 403, 417, 436, 450, 469, 483, 502, 516, 535, 549, 568, 582, 601, 615, 634, 648, 662, 671, 690, 704, 723, 737, 756, 770, 794, 813, 822, 826, 835, 839, 853, 862, 871, 875, 889, 898] 12 172 _ Q).symm
set_option maxRecDepth 100000 in
theorem sg_L_law_328_0_32 (S : PS) (I : Nat → Nat → Int) (x3 : Int) (y0 : Int) (y1 : Int) (Q : PV1 → Prop) : Wp 172 (328, [zS, zA 0, zA 32, zI x3], [zI y1, zI y0], zH S I) Q ↔ (cond (decide (y0 = y1)) (Wp 172 (18, [zS, zA 0, zA 32, zI (zad x3 5)], [], zH S I) Q) (cond (zbb 0) (Q (some (zI 0), zH S I)) False)) := (WpK_iff [7, 15, 18, 157, 166, 195, 219, 233, 242, 271, 295, 314, 328, 342, 351, 370, 384, 403, 417, 436, 450, 469, 483, 502, 516, 535, 549, 568, 582, 601, 615, 634, 648, 662, 671, 690, 704, 723, 737, 756, 770, 794, 813, 822, 826, 835, 839, 853, 862, 871, 875, 889, 898] 3 172 _ Q).symm
set_option maxRecDepth 100000 in
theorem sg_L_law_342_0_32 (S : PS) (I : Nat → Nat → Int) (x3 : Int) (y0 : Int) (Q : PV1 → Prop) : Wp 172 (342, [zS, zA 0, zA 32, zI x3], [zI y0], zH S I) Q ↔ (cond (zib (zad x3 1) S.1) (Wp 134 (0, [zA 32, zI (S.2 (zad x3 1 : Int).toNat)], [], zH S I) (fun w => Wp 172 (351, [zS, zA 0, zA 32, zI x3], w.1.toList ++ [zI y0], w.2) Q)) False) := (WpK_iff [7, 15, 18, 157, 166, 195, 219, 233, 242, 271, 295, 314, 328, 342, 351, 370, 384, 403, 417, 436, 450, 469, 483, 502, 516, 535, 549, 568, 582, 601, 615, 634, 648, 662, 671, 690, 704, 723, 737, 756, 770, 794, 813, 822, 826, 835, 839, 853, 862, 871, 875, 889, 898] 7 172 _ Q).symm
set_option maxRecDepth 100000 in
theorem sg_L_law_351_0_32 (S : PS) (I : Nat → Nat → Int) (x3 : Int) (y0 : Int) (y1 : Int) (Q : PV1 → Prop) : Wp 172 (351, [zS, zA 0, zA 32, zI x3], [zI y1, zI y0], zH S I) Q ↔ (cond (decide (y0 = y1)) (Wp 172 (18, [zS, zA 0, zA 32, zI (zad x3 5)], [], zH S I) Q) (cond (zbb 0) (Q (some (zI 0), zH S I)) False)) := (WpK_iff [7, 15, 18, 157, 166, 195, 219, 233, 242, 271, 295, 314, 328, 342, 351, 370, 384, 403, 417, 436, 450, 469, 483, 502, 516, 535, 549, 568, 582, 601, 615, 634, 648, 662, 671, 690, 704, 723, 737, 756, 770, 794, 813, 822, 826, 835, 839, 853, 862, 871, 875, 889, 898] 3 172 _ Q).symm
set_option maxRecDepth 100000 in
theorem sg_L_law_370_0_32 (S : PS) (I : Nat → Nat → Int) (x3 : Int) (y0 : Int) (Q : PV1 → Prop) : Wp 172 (370, [zS, zA 0, zA 32, zI x3], [zI y0], zH S I) Q ↔ (cond (zib (zad x3 1) S.1) (cond (zib (zad x3 2) S.1) (Wp 135 (0, [zA 32, zI (S.2 (zad x3 1 : Int).toNat), zI (S.2 (zad x3 2 : Int).toNat), zU], [], zH S I) (fun w => Wp 172 (384, [zS, zA 0, zA 32, zI x3], w.1.toList ++ [zI y0], w.2) Q)) False) False) := (WpK_iff [7, 15, 18, 157, 166, 195, 219, 233, 242, 271, 295, 314, 328, 342, 351, 370, 384, 403, 417, 436, 450, 469, 483, 502, 516, 535, 549, 568, 582, 601, 615, 634, 648, 662, 671, 690, 704, 723, 737, 756, 770, 794, 813, 822, 826, 835, 839, 853, 862, 871, 875, 889, 898] 12 172 _ Q).symm
set_option maxRecDepth 100000 in
theorem sg_L_law_384_0_32 (S : PS) (I : Nat → Nat → Int) (x3 : Int) (y0 : Int) (y1 : Int) (Q : PV1 → Prop) : Wp 172 (384, [zS, zA 0, zA 32, zI x3], [zI y1, zI y0], zH S I) Q ↔ (cond (decide (y0 = y1)) (Wp 172 (18, [zS, zA 0, zA 32, zI (zad x3 5)], [], zH S I) Q) (cond (zbb 0) (Q (some (zI 0), zH S I)) False)) := (WpK_iff [7, 15, 18, 157, 166, 195, 219, 233, 242, 271, 295, 314, 328, 342, 351, 370, 384, 403, 417, 436, 450, 469, 483, 502, 516, 535, 549, 568, 582, 601, 615, 634, 648, 662, 671, 690, 704, 723, 737, 756, 770, 794, 813, 822, 826, 835, 839, 853, 862, 871, 875, 889, 898] 3 172 _ Q).symm
set_option maxRecDepth 100000 in
theorem sg_L_law_403_0_32 (S : PS) (I : Nat → Nat → Int) (x3 : Int) (y0 : Int) (Q : PV1 → Prop) : Wp 172 (403, [zS, zA 0, zA 32, zI x3], [zI y0], zH S I) Q ↔ (cond (zib (zad x3 1) S.1) (cond (zib (zad x3 2) S.1) (Wp 136 (0, [zA 32, zI (S.2 (zad x3 1 : Int).toNat), zI (S.2 (zad x3 2 : Int).toNat)], [], zH S I) (fun w => Wp 172 (417, [zS, zA 0, zA 32, zI x3], w.1.toList ++ [zI y0], w.2) Q)) False) False) := (WpK_iff [7, 15, 18, 157, 166, 195, 219, 233, 242, 271, 295, 314, 328, 342, 351, 370, 384, 403, 417, 436, 450, 469, 483, 502, 516, 535, 549, 568, 582, 601, 615, 634, 648, 662, 671, 690, 704, 723, 737, 756, 770, 794, 813, 822, 826, 835, 839, 853, 862, 871, 875, 889, 898] 12 172 _ Q).symm
set_option maxRecDepth 100000 in
theorem sg_L_law_417_0_32 (S : PS) (I : Nat → Nat → Int) (x3 : Int) (y0 : Int) (y1 : Int) (Q : PV1 → Prop) : Wp 172 (417, [zS, zA 0, zA 32, zI x3], [zI y1, zI y0], zH S I) Q ↔ (cond (decide (y0 = y1)) (Wp 172 (18, [zS, zA 0, zA 32, zI (zad x3 5)], [], zH S I) Q) (cond (zbb 0) (Q (some (zI 0), zH S I)) False)) := (WpK_iff [7, 15, 18, 157, 166, 195, 219, 233, 242, 271, 295, 314, 328, 342, 351, 370, 384, 403, 417, 436, 450, 469, 483, 502, 516, 535, 549, 568, 582, 601, 615, 634, 648, 662, 671, 690, 704, 723, 737, 756, 770, 794, 813, 822, 826, 835, 839, 853, 862, 871, 875, 889, 898] 3 172 _ Q).symm
set_option maxRecDepth 100000 in
theorem sg_L_law_436_0_32 (S : PS) (I : Nat → Nat → Int) (x3 : Int) (y0 : Int) (Q : PV1 → Prop) : Wp 172 (436, [zS, zA 0, zA 32, zI x3], [zI y0], zH S I) Q ↔ (cond (zib (zad x3 1) S.1) (cond (zib (zad x3 2) S.1) (Wp 137 (0, [zA 32, zI (S.2 (zad x3 1 : Int).toNat), zI (S.2 (zad x3 2 : Int).toNat)], [], zH S I) (fun w => Wp 172 (450, [zS, zA 0, zA 32, zI x3], w.1.toList ++ [zI y0], w.2) Q)) False) False) := (WpK_iff [7, 15, 18, 157, 166, 195, 219, 233, 242, 271, 295, 314, 328, 342, 351, 370, 384, 403, 417, 436, 450, 469, 483, 502, 516, 535, 549, 568, 582, 601, 615, 634, 648, 662, 671, 690, 704, 723, 737, 756, 770, 794, 813, 822, 826, 835, 839, 853, 862, 871, 875, 889, 898] 12 172 _ Q).symm
set_option maxRecDepth 100000 in
theorem sg_L_law_450_0_32 (S : PS) (I : Nat → Nat → Int) (x3 : Int) (y0 : Int) (y1 : Int) (Q : PV1 → Prop) : Wp 172 (450, [zS, zA 0, zA 32, zI x3], [zI y1, zI y0], zH S I) Q ↔ (cond (decide (y0 = y1)) (Wp 172 (18, [zS, zA 0, zA 32, zI (zad x3 5)], [], zH S I) Q) (cond (zbb 0) (Q (some (zI 0), zH S I)) False)) := (WpK_iff [7, 15, 18, 157, 166, 195, 219, 233, 242, 271, 295, 314, 328, 342, 351, 370, 384, 403, 417, 436, 450, 469, 483, 502, 516, 535, 549, 568, 582, 601, 615, 634, 648, 662, 671, 690, 704, 723, 737, 756, 770, 794, 813, 822, 826, 835, 839, 853, 862, 871, 875, 889, 898] 3 172 _ Q).symm
set_option maxRecDepth 100000 in
theorem sg_L_law_469_0_32 (S : PS) (I : Nat → Nat → Int) (x3 : Int) (y0 : Int) (Q : PV1 → Prop) : Wp 172 (469, [zS, zA 0, zA 32, zI x3], [zI y0], zH S I) Q ↔ (cond (zib (zad x3 1) S.1) (cond (zib (zad x3 2) S.1) (Wp 148 (0, [zA 32, zI (S.2 (zad x3 1 : Int).toNat), zI (S.2 (zad x3 2 : Int).toNat), zU], [], zH S I) (fun w => Wp 172 (483, [zS, zA 0, zA 32, zI x3], w.1.toList ++ [zI y0], w.2) Q)) False) False) := (WpK_iff [7, 15, 18, 157, 166, 195, 219, 233, 242, 271, 295, 314, 328, 342, 351, 370, 384, 403, 417, 436, 450, 469, 483, 502, 516, 535, 549, 568, 582, 601, 615, 634, 648, 662, 671, 690, 704, 723, 737, 756, 770, 794, 813, 822, 826, 835, 839, 853, 862, 871, 875, 889, 898] 12 172 _ Q).symm
set_option maxRecDepth 100000 in
theorem sg_L_law_483_0_32 (S : PS) (I : Nat → Nat → Int) (x3 : Int) (y0 : Int) (y1 : Int) (Q : PV1 → Prop) : Wp 172 (483, [zS, zA 0, zA 32, zI x3], [zI y1, zI y0], zH S I) Q ↔ (cond (decide (y0 = y1)) (Wp 172 (18, [zS, zA 0, zA 32, zI (zad x3 5)], [], zH S I) Q) (cond (zbb 0) (Q (some (zI 0), zH S I)) False)) := (WpK_iff [7, 15, 18, 157, 166, 195, 219, 233, 242, 271, 295, 314, 328, 342, 351, 370, 384, 403, 417, 436, 450, 469, 483, 502, 516, 535, 549, 568, 582, 601, 615, 634, 648, 662, 671, 690, 704, 723, 737, 756, 770, 794, 813, 822, 826, 835, 839, 853, 862, 871, 875, 889, 898] 3 172 _ Q).symm
set_option maxRecDepth 100000 in
theorem sg_L_law_502_0_32 (S : PS) (I : Nat → Nat → Int) (x3 : Int) (y0 : Int) (Q : PV1 → Prop) : Wp 172 (502, [zS, zA 0, zA 32, zI x3], [zI y0], zH S I) Q ↔ (cond (zib (zad x3 1) S.1) (cond (zib (zad x3 2) S.1) (Wp 146 (0, [zA 32, zI (S.2 (zad x3 1 : Int).toNat), zI (S.2 (zad x3 2 : Int).toNat), zU, zU], [], zH S I) (fun w => Wp 172 (516, [zS, zA 0, zA 32, zI x3], w.1.toList ++ [zI y0], w.2) Q)) False) False) := (WpK_iff [7, 15, 18, 157, 166, 195, 219, 233, 242, 271, 295, 314, 328, 342, 351, 370, 384, 403, 417, 436, 450, 469, 483, 502, 516, 535, 549, 568, 582, 601, 615, 634, 648, 662, 671, 690, 704, 723, 737, 756, 770, 794, 813, 822, 826, 835, 839, 853, 862, 871, 875, 889, 898] 12 172 _ Q).symm
set_option maxRecDepth 100000 in
theorem sg_L_law_516_0_32 (S : PS) (I : Nat → Nat → Int) (x3 : Int) (y0 : Int) (y1 : Int) (Q : PV1 → Prop) : Wp 172 (516, [zS, zA 0, zA 32, zI x3], [zI y1, zI y0], zH S I) Q ↔ (cond (decide (y0 = y1)) (Wp 172 (18, [zS, zA 0, zA 32, zI (zad x3 5)], [], zH S I) Q) (cond (zbb 0) (Q (some (zI 0), zH S I)) False)) := (WpK_iff [7, 15, 18, 157, 166, 195, 219, 233, 242, 271, 295, 314, 328, 342, 351, 370, 384, 403, 417, 436, 450, 469, 483, 502, 516, 535, 549, 568, 582, 601, 615, 634, 648, 662, 671, 690, 704, 723, 737, 756, 770, 794, 813, 822, 826, 835, 839, 853, 862, 871, 875, 889, 898] 3 172 _ Q).symm
set_option maxRecDepth 100000 in
theorem sg_L_law_535_0_32 (S : PS) (I : Nat → Nat → Int) (x3 : Int) (y0 : Int) (Q : PV1 → Prop) : Wp 172 (535, [zS, zA 0, zA 32, zI x3], [zI y0], zH S I) Q ↔ (cond (zib (zad x3 1) S.1) (cond (zib (zad x3 2) S.1) (Wp 149 (0, [zA 32, zI (S.2 (zad x3 1 : Int).toNat), zI (S.2 (zad x3 2 : Int).toNat)], [], zH S I) (fun w => Wp 172 (549, [zS, zA 0, zA 32, zI x3], w.1.toList ++ [zI y0], w.2) Q)) False) False) := (WpK_iff [7, 15, 18, 157, 166, 195, 219, 233, 242, 271, 295, 314, 328, 342, 351, 370, 384, 403, 417, 436, 450, 469, 483, 502, 516, 535, 549, 568, 582, 601, 615, 634, 648, 662, 671, 690, 704, 723, 737, 756, 770, 794, 813, 822, 826, 835, 839, 853, 862, 871, 875, 889, 898] 12 172 _ Q).symm
set_option maxRecDepth 100000 in
theorem sg_L_law_549_0_32 (S : PS) (I : Nat → Nat → Int) (x3 : Int) (y0 : Int) (y1 : Int) (Q : PV1 → Prop) : Wp 172 (549, [zS, zA 0, zA 32, zI x3], [zI y1, zI y0], zH S I) Q ↔ (cond (decide (y0 = y1)) (Wp 172 (18, [zS, zA 0, zA 32, zI (zad x3 5)], [], zH S I) Q) (cond (zbb 0) (Q (some (zI 0), zH S I)) False)) := (WpK_iff [7, 15, 18, 157, 166, 195, 219, 233, 242, 271, 295, 314, 328, 342, 351, 370, 384, 403, 417, 436, 450, 469, 483, 502, 516, 535, 549, 568, 582, 601, 615, 634, 648, 662, 671, 690, 704, 723, 737, 756, 770, 794, 813, 822, 826, 835, 839, 853, 862, 871, 875, 889, 898] 3 172 _ Q).symm
set_option maxRecDepth 100000 in
theorem sg_L_law_568_0_32 (S : PS) (I : Nat → Nat → Int) (x3 : Int) (y0 : Int) (Q : PV1 → Prop) : Wp 172 (568, [zS, zA 0, zA 32, zI x3], [zI y0], zH S I) Q ↔ (cond (zib (zad x3 1) S.1) (cond (zib (zad x3 2) S.1) (Wp 150 (0, [zA 32, zI (S.2 (zad x3 1 : Int).toNat), zI (S.2 (zad x3 2 : Int).toNat), zU], [], zH S I) (fun w => Wp 172 (582, [zS, zA 0, zA 32, zI x3], w.1.toList ++ [zI y0], w.2) Q)) False) False) := (WpK_iff [7, 15, 18, 157, 166, 195, 219, 233, 242, 271, 295, 314, 328, 342, 351, 370, 384, 403, 417, 436, 450, 469, 483, 502, 516, 535, 549, 568, 582, 601, 615, 634, 648, 662, 671, 690, 704, 723, 737, 756, 770, 794, 813, 822, 826, 835, 839, 853, 862, 871, 875, 889, 898] 12 172 _ Q).symm
set_option maxRecDepth 100000 in
theorem sg_L_law_582_0_32 (S : PS) (I : Nat → Nat → Int) (x3 : Int) (y0 : Int) (y1 : Int) (Q : PV1 → Prop) : Wp 172 (582, [zS, zA 0, zA 32, zI x3], [zI y1, zI y0], zH S I) Q ↔ (cond (decide (y0 = y1)) (Wp 172 (18, [zS, zA 0, zA 32, zI (zad x3 5)], [], zH S I) Q) (cond (zbb 0) (Q (some (zI 0), zH S I)) False)) := (WpK_iff [7, 15, 18, 157, 166, 195, 219, 233, 242, 271, 295, 314, 328, 342, 351, 370, 384, 403, 417, 436, 450, 469, 483, 502, 516, 535, 549, 568, 582, 601, 615, 634, 648, 662, 671, 690, 704, 723, 737, 756, 770, 794, 813, 822, 826, 835, 839, 853, 862, 871, 875, 889, 898] 3 172 _ Q).symm
set_option maxRecDepth 100000 in
theorem sg_L_law_601_0_32 (S : PS) (I : Nat → Nat → Int) (x3 : Int) (y0 : Int) (Q : PV1 → Prop) : Wp 172 (601, [zS, zA 0, zA 32, zI x3], [zI y0], zH S I) Q ↔ (cond (zib (zad x3 1) S.1) (cond (zib (zad x3 2) S.1) (Wp 151 (0, [zA 32, zI (S.2 (zad x3 1 : Int).toNat), zI (S.2 (zad x3 2 : Int).toNat)], [], zH S I) (fun w => Wp 172 (615, [zS, zA 0, zA 32, zI x3], w.1.toList ++ [zI y0], w.2) Q)) False) False) := (WpK_iff [7, 15, 18, 157, 166, 195, 219, 233, 242, 271, 295, 314, 328, 342, 351, 370, 384, 403, 417, 436, 450, 469, 483, 502, 516, 535, 549, 568, 582, 601, 615, 634, 648, 662, 671, 690, 704, 723, 737, 756, 770, 794, 813, 822, 826, 835, 839, 853, 862, 871, 875, 889, 898] 12 172 _ Q).symm
set_option maxRecDepth 100000 in
theorem sg_L_law_615_0_32 (S : PS) (I : Nat → Nat → Int) (x3 : Int) (y0 : Int) (y1 : Int) (Q : PV1 → Prop) : Wp 172 (615, [zS, zA 0, zA 32, zI x3], [zI y1, zI y0], zH S I) Q ↔ (cond (decide (y0 = y1)) (Wp 172 (18, [zS, zA 0, zA 32, zI (zad x3 5)], [], zH S I) Q) (cond (zbb 0) (Q (some (zI 0), zH S I)) False)) := (WpK_iff [7, 15, 18, 157, 166, 195, 219, 233, 242, 271, 295, 314, 328, 342, 351, 370, 384, 403, 417, 436, 450, 469, 483, 502, 516, 535, 549, 568, 582, 601, 615, 634, 648, 662, 671, 690, 704, 723, 737, 756, 770, 794, 813, 822, 826, 835, 839, 853, 862, 871, 875, 889, 898] 3 172 _ Q).symm
set_option maxRecDepth 100000 in
theorem sg_L_law_634_0_32 (S : PS) (I : Nat → Nat → Int) (x3 : Int) (y0 : Int) (Q : PV1 → Prop) : Wp 172 (634, [zS, zA 0, zA 32, zI x3], [zI y0], zH S I) Q ↔ (cond (zib (zad x3 1) S.1) (cond (zib (zad x3 2) S.1) (Wp 153 (0, [zA 32, zI (S.2 (zad x3 1 : Int).toNat), zI (S.2 (zad x3 2 : Int).toNat)], [], zH S I) (fun w => Wp 172 (648, [zS, zA 0, zA 32, zI x3], w.1.toList ++ [zI y0], w.2) Q)) False) False) := (WpK_iff [7, 15, 18, 157, 166, 195, 219, 233, 242, 271, 295, 314, 328, 342, 351, 370, 384, 403, 417, 436, 450, 469, 483, 502, 516, 535, 549, 568, 582, 601, 615, 634, 648, 662, 671, 690, 704, 723, 737, 756, 770, 794, 813, 822, 826, 835, 839, 853, 862, 871, 875, 889, 898] 12 172 _ Q).symm
set_option maxRecDepth 100000 in
theorem sg_L_law_648_0_32 (S : PS) (I : Nat → Nat → Int) (x3 : Int) (y0 : Int) (y1 : Int) (Q : PV1 → Prop) : Wp 172 (648, [zS, zA 0, zA 32, zI x3], [zI y1, zI y0], zH S I) Q ↔ (cond (decide (y0 = y1)) (Wp 172 (18, [zS, zA 0, zA 32, zI (zad x3 5)], [], zH S I) Q) (cond (zbb 0) (Q (some (zI 0), zH S I)) False)) := (WpK_iff [7, 15, 18, 157, 166, 195, 219, 233, 242, 271, 295, 314, 328, 342, 351, 370, 384, 403, 417, 436, 450, 469, 483, 502, 516, 535, 549, 568, 582, 601, 615, 634, 648, 662, 671, 690, 704, 723, 737, 756, 770, 794, 813, 822, 826, 835, 839, 853, 862, 871, 875, 889, 898] 3 172 _ Q).symm
set_option maxRecDepth 100000 in
theorem sg_L_law_662_0_32 (S : PS) (I : Nat → Nat → Int) (x3 : Int) (y0 : Int) (Q : PV1 → Prop) : Wp 172 (662, [zS, zA 0, zA 32, zI x3], [zI y0], zH S I) Q ↔ (cond (zib (zad x3 1) S.1) (Wp 155 (0, [zA 32, zI (S.2 (zad x3 1 : Int).toNat), zU, zU], [], zH S I) (fun w => Wp 172 (671, [zS, zA 0, zA 32, zI x3], w.1.toList ++ [zI y0], w.2) Q)) False) := (WpK_iff [7, 15, 18, 157, 166, 195, 219, 233, 242, 271, 295, 314, 328, 342, 351, 370, 384, 403, 417, 436, 450, 469, 483, 502, 516, 535, 549, 568, 582, 601, 615, 634, 648, 662, 671, 690, 704, 723, 737, 756, 770, 794, 813, 822, 826, 835, 839, 853, 862, 871, 875, 889, 898] 7 172 _ Q).symm
set_option maxRecDepth 100000 in
theorem sg_L_law_671_0_32 (S : PS) (I : Nat → Nat → Int) (x3 : Int) (y0 : Int) (y1 : Int) (Q : PV1 → Prop) : Wp 172 (671, [zS, zA 0, zA 32, zI x3], [zI y1, zI y0], zH S I) Q ↔ (cond (decide (y0 = y1)) (Wp 172 (18, [zS, zA 0, zA 32, zI (zad x3 5)], [], zH S I) Q) (cond (zbb 0) (Q (some (zI 0), zH S I)) False)) := (WpK_iff [7, 15, 18, 157, 166, 195, 219, 233, 242, 271, 295, 314, 328, 342, 351, 370, 384, 403, 417, 436, 450, 469, 483, 502, 516, 535, 549, 568, 582, 601, 615, 634, 648, 662, 671, 690, 704, 723, 737, 756, 770, 794, 813, 822, 826, 835, 839, 853, 862, 871, 875, 889, 898] 3 172 _ Q).symm
set_option maxRecDepth 100000 in
theorem sg_L_law_690_0_32 (S : PS) (I : Nat → Nat → Int) (x3 : Int) (y0 : Int) (Q : PV1 → Prop) : Wp 172 (690, [zS, zA 0, zA 32, zI x3], [zI y0], zH S I) Q ↔ (cond (zib (zad x3 1) S.1) (cond (zib (zad x3 2) S.1) (Wp 157 (0, [zA 32, zI (S.2 (zad x3 1 : Int).toNat), zI (S.2 (zad x3 2 : Int).toNat)], [], zH S I) (fun w => Wp 172 (704, [zS, zA 0, zA 32, zI x3], w.1.toList ++ [zI y0], w.2) Q)) False) False) := (WpK_iff [7, 15, 18, 157, 166, 195, 219, 233, 242, 271, 295, 314, 328, 342, 351, 370, 384, 403, 417, 436, 450, 469, 483, 502, 516, 535, 549, 568, 582, 601, 615, 634, 648, 662, 671, 690, 704, 723, 737, 756, 770, 794, 813, 822, 826, 835, 839, 853, 862, 871, 875, 889, 898] 12 172 _ Q).symm
set_option maxRecDepth 100000 in
theorem sg_L_law_704_0_32 (S : PS) (I : Nat → Nat → Int) (x3 : Int) (y0 : Int) (y1 : Int) (Q : PV1 → Prop) : Wp 172 (704, [zS, zA 0, zA 32, zI x3], [zI y1, zI y0], zH S I) Q ↔ (cond (decide (y0 = y1)) (Wp 172 (18, [zS, zA 0, zA 32, zI (zad x3 5)], [], zH S I) Q) (cond (zbb 0) (Q (some (zI 0), zH S I)) False)) := (WpK_iff [7, 15, 18, 157, 166, 195, 219, 233, 242, 271, 295, 314, 328, 342, 351, 370, 384, 403, 417, 436, 450, 469, 483, 502, 516, 535, 549, 568, 582, 601, 615, 634, 648, 662, 671, 690, 704, 723, 737, 756, 770, 794, 813, 822, 826, 835, 839, 853, 862, 871, 875, 889, 898] 3 172 _ Q).symm
set_option maxRecDepth 100000 in
theorem sg_L_law_723_0_32 (S : PS) (I : Nat → Nat → Int) (x3 : Int) (y0 : Int) (Q : PV1 → Prop) : Wp 172 (723, [zS, zA 0, zA 32, zI x3], [zI y0], zH S I) Q ↔ (cond (zib (zad x3 1) S.1) (cond (zib (zad x3 2) S.1) (Wp 158 (0, [zA 32, zI (S.2 (zad x3 1 : Int).toNat), zI (S.2 (zad x3 2 : Int).toNat)], [], zH S I) (fun w => Wp 172 (737, [zS, zA 0, zA 32, zI x3], w.1.toList ++ [zI y0], w.2) Q)) False) False) := (WpK_iff [7, 15, 18, 157, 166, 195, 219, 233, 242, 271, 295, 314, 328, 342, 351, 370, 384, 403, 417, 436, 450, 469, 483, 502, 516, 535, 549, 568, 582, 601, 615, 634, 648, 662, 671, 690, 704, 723, 737, 756, 770, 794, 813, 822, 826, 835, 839, 853, 862, 871, 875, 889, 898] 12 172 _ Q).symm
set_option maxRecDepth 100000 in
theorem sg_L_law_737_0_32 (S : PS) (I : Nat → Nat → Int) (x3 : Int) (y0 : Int) (y1 : Int) (Q : PV1 → Prop) : Wp 172 (737, [zS, zA 0, zA 32, zI x3], [zI y1, zI y0], zH S I) Q ↔ (cond (decide (y0 = y1)) (Wp 172 (18, [zS, zA 0, zA 32, zI (zad x3 5)], [], zH S I) Q) (cond (zbb 0) (Q (some (zI 0), zH S I)) False)) := (WpK_iff [7, 15, 18, 157, 166, 195, 219, 233, 242, 271, 295, 314, 328, 342, 351, 370, 384, 403, 417, 436, 450, 469, 483, 502, 516, 535, 549, 568, 582, 601, 615, 634, 648, 662, 671, 690, 704, 723, 737, 756, 770, 794, 813, 822, 826, 835, 839, 853, 862, 871, 875, 889, 898] 3 172 _ Q).symm
set_option maxRecDepth 100000 in
theorem sg_L_law_756_0_32 (S : PS) (I : Nat → Nat → Int) (x3 : Int) (y0 : Int) (Q : PV1 → Prop) : Wp 172 (756, [zS, zA 0, zA 32, zI x3], [zI y0], zH S I) Q ↔ (cond (zib (zad x3 1) S.1) (cond (zib (zad x3 2) S.1) (Wp 159 (0, [zA 32, zI (S.2 (zad x3 1 : Int).toNat), zI (S.2 (zad x3 2 : Int).toNat), zU, zU, zU, zU], [], zH S I) (fun w => Wp 172 (770, [zS, zA 0, zA 32, zI x3], w.1.toList ++ [zI y0], w.2) Q)) False) False) := (WpK_iff [7, 15, 18, 157, 166, 195, 219, 233, 242, 271, 295, 314, 328, 342, 351, 370, 384, 403, 417, 436, 450, 469, 483, 502, 516, 535, 549, 568, 582, 601, 615, 634, 648, 662, 671, 690, 704, 723, 737, 756, 770, 794, 813, 822, 826, 835, 839, 853, 862, 871, 875, 889, 898] 12 172 _ Q).symm
set_option maxRecDepth 100000 in
theorem sg_L_law_770_0_32 (S : PS) (I : Nat → Nat → Int) (x3 : Int) (y0 : Int) (y1 : Int) (Q : PV1 → Prop) : Wp 172 (770, [zS, zA 0, zA 32, zI x3], [zI y1, zI y0], zH S I) Q ↔ (cond (decide (y0 = y1)) (Wp 172 (18, [zS, zA 0, zA 32, zI (zad x3 5)], [], zH S I) Q) (cond (zbb 0) (Q (some (zI 0), zH S I)) False)) := (WpK_iff [7, 15, 18, 157, 166, 195, 219, 233, 242, 271, 295, 314, 328, 342, 351, 370, 384, 403, 417, 436, 450, 469, 483, 502, 516, 535, 549, 568, 582, 601, 615, 634, 648, 662, 671, 690, 704, 723, 737, 756, 770, 794, 813, 822, 826, 835, 839, 853, 862, 871, 875, 889, 898] 3 172 _ Q).symm
set_option maxRecDepth 100000 in
theorem sg_L_law_794_0_32 (S : PS) (I : Nat → Nat → Int) (x3 : Int) (y0 : Int) (Q : PV1 → Prop) : Wp 172 (794, [zS, zA 0, zA 32, zI x3], [zI y0], zH S I) Q ↔ (cond (zib (zad x3 1) S.1) (cond (zib (zad x3 2) S.1) (cond (zib (zad x3 3) S.1) (Wp 162 (0, [zA 32, zI (S.2 (zad x3 1 : Int).toNat), zI (S.2 (zad x3 2 : Int).toNat), zI (S.2 (zad x3 3 : Int).toNat), zU, zU, zU, zU, zU, zU, zU, zU, zU], [], zH S I) (fun w => Wp 172 (813, [zS, zA 0, zA 32, zI x3], w.1.toList ++ [zI y0], w.2) Q)) False) False) False) := (WpK_iff [7, 15, 18, 157, 166, 195, 219, 233, 242, 271, 295, 314, 328, 342, 351, 370, 384, 403, 417, 436, 450, 469, 483, 502, 516, 535, 549, 568, 582, 601, 615, 634, 648, 662, 671, 690, 704, 723, 737, 756, 770, 794, 813, 822, 826, 835, 839, 853, 862, 871, 875, 889, 898] 17 172 _ Q).symm
set_option maxRecDepth 100000 in
theorem sg_L_law_813_0_32 (S : PS) (I : Nat → Nat → Int) (x3 : Int) (y0 : Int) (y1 : Int) (Q : PV1 → Prop) : Wp 172 (813, [zS, zA 0, zA 32, zI x3], [zI y1, zI y0], zH S I) Q ↔ (cond (decide (y0 = y1)) (Wp 172 (18, [zS, zA 0, zA 32, zI (zad x3 5)], [], zH S I) Q) (cond (zbb 0) (Q (some (zI 0), zH S I)) False)) := (WpK_iff [7, 15, 18, 157, 166, 195, 219, 233, 242, 271, 295, 314, 328, 342, 351, 370, 384, 403, 417, 436, 450, 469, 483, 502, 516, 535, 549, 568, 582, 601, 615, 634, 648, 662, 671, 690, 704, 723, 737, 756, 770, 794, 813, 822, 826, 835, 839, 853, 862, 871, 875, 889, 898] 3 172 _ Q).symm
set_option maxRecDepth 100000 in
theorem sg_L_law_822_0_32 (S : PS) (I : Nat → Nat → Int) (x3 : Int) (y0 : Int) (Q : PV1 → Prop) : Wp 172 (822, [zS, zA 0, zA 32, zI x3], [zI y0], zH S I) Q ↔ (Wp 163 (0, [zA 32], [], zH S I) (fun w => Wp 172 (826, [zS, zA 0, zA 32, zI x3], w.1.toList ++ [zI y0], w.2) Q)) := (WpK_iff [7, 15, 18, 157, 166, 195, 219, 233, 242, 271, 295, 314, 328, 342, 351, 370, 384, 403, 417, 436, 450, 469, 483, 502, 516, 535, 549, 568, 582, 601, 615, 634, 648, 662, 671, 690, 704, 723, 737, 756, 770, 794, 813, 822, 826, 835, 839, 853, 862, 871, 875, 889, 898] 2 172 _ Q).symm
set_option maxRecDepth 100000 in
theorem sg_L_law_826_0_32 (S : PS) (I : Nat → Nat → Int) (x3 : Int) (y0 : Int) (y1 : Int) (Q : PV1 → Prop) : Wp 172 (826, [zS, zA 0, zA 32, zI x3], [zI y1, zI y0], zH S I) Q ↔ (cond (decide (y0 = y1)) (Wp 172 (18, [zS, zA 0, zA 32, zI (zad x3 5)], [], zH S I) Q) (cond (zbb 0) (Q (some (zI 0), zH S I)) False)) := (WpK_iff [7, 15, 18, 157, 166, 195, 219, 233, 242, 271, 295, 314, 328, 342, 351, 370, 384, 403, 417, 436, 450, 469, 483, 502, 516, 535, 549, 568, 582, 601, 615, 634, 648, 662, 671, 690, 704, 723, 737, 756, 770, 794, 813, 822, 826, 835, 839, 853, 862, 871, 875, 889, 898] 3 172 _ Q).symm
set_option maxRecDepth 100000 in
theorem sg_L_law_835_0_32 (S : PS) (I : Nat → Nat → Int) (x3 : Int) (y0 : Int) (Q : PV1 → Prop) : Wp 172 (835, [zS, zA 0, zA 32, zI x3], [zI y0], zH S I) Q ↔ (Wp 164 (0, [zA 32, zU, zU], [], zH S I) (fun w => Wp 172 (839, [zS, zA 0, zA 32, zI x3], w.1.toList ++ [zI y0], w.2) Q)) := (WpK_iff [7, 15, 18, 157, 166, 195, 219, 233, 242, 271, 295, 314, 328, 342, 351, 370, 384, 403, 417, 436, 450, 469, 483, 502, 516, 535, 549, 568, 582, 601, 615, 634, 648, 662, 671, 690, 704, 723, 737, 756, 770, 794, 813, 822, 826, 835, 839, 853, 862, 871, 875, 889, 898] 2 172 _ Q).symm
set_option maxRecDepth 100000 in
theorem sg_L_law_839_0_32 (S : PS) (I : Nat → Nat → Int) (x3 : Int) (y0 : Int) (y1 : Int) (Q : PV1 → Prop) : Wp 172 (839, [zS, zA 0, zA 32, zI x3], [zI y1, zI y0], zH S I) Q ↔ (cond (decide (y0 = y1)) (Wp 172 (18, [zS, zA 0, zA 32, zI (zad x3 5)], [], zH S I) Q) (cond (zbb 0) (Q (some (zI 0), zH S I)) False)) := (WpK_iff [7, 15, 18, 157, 166, 195, 219, 233, 242, 271, 295, 314, 328, 342, 351, 370, 384, 403, 417, 436, 450, 469, 483, 502, 516, 535, 549, 568, 582, 601, 615, 634, 648, 662, 671, 690, 704, 723, 737, 756, 770, 794, 813, 822, 826, 835, 839, 853, 862, 871, 875, 889, 898] 3 172 _ Q).symm
set_option maxRecDepth 100000 in
theorem sg_L_law_853_0_32 (S : PS) (I : Nat → Nat → Int) (x3 : Int) (y0 : Int) (Q : PV1 → Prop) : Wp 172 (853, [zS, zA 0, zA 32, zI x3], [zI y0], zH S I) Q ↔ (cond (zib (zad x3 1) S.1) (Wp 165 (0, [zA 32, zI (S.2 (zad x3 1 : Int).toNat), zU, zU, zU, zU], [], zH S I) (fun w => Wp 172 (862, [zS, zA 0, zA 32, zI x3], w.1.toList ++ [zI y0], w.2) Q)) False) := (WpK_iff [7, 15, 18, 157, 166, 195, 219, 233, 242, 271, 295, 314, 328, 342, 351, 370, 384, 403, 417, 436, 450, 469, 483, 502, 516, 535, 549, 568, 582, 601, 615, 634, 648, 662, 671, 690, 704, 723, 737, 756, 770, 794, 813, 822, 826, 835, 839, 853, 862, 871, 875, 889, 898] 7 172 _ Q).symm
set_option maxRecDepth 100000 in
theorem sg_L_law_862_0_32 (S : PS) (I : Nat → Nat → Int) (x3 : Int) (y0 : Int) (y1 : Int) (Q : PV1 → Prop) : Wp 172 (862, [zS, zA 0, zA 32, zI x3], [zI y1, zI y0], zH S I) Q ↔ (cond (decide (y0 = y1)) (Wp 172 (18, [zS, zA 0, zA 32, zI (zad x3 5)], [], zH S I) Q) (cond (zbb 0) (Q (some (zI 0), zH S I)) False)) := (WpK_iff [7, 15, 18, 157, 166, 195, 219, 233, 242, 271, 295, 314, 328, 342, 351, 370, 384, 403, 417, 436, 450, 469, 483, 502, 516, 535, 549, 568, 582, 601, 615, 634, 648, 662, 671, 690, 704, 723, 737, 756, 770, 794, 813, 822, 826, 835, 839, 853, 862, 871, 875, 889, 898] 3 172 _ Q).symm
set_option maxRecDepth 100000 in
theorem sg_L_law_871_0_32 (S : PS) (I : Nat → Nat → Int) (x3 : Int) (y0 : Int) (Q : PV1 → Prop) : Wp 172 (871, [zS, zA 0, zA 32, zI x3], [zI y0], zH S I) Q ↔ (Wp 124 (0, [zA 32, zU, zU], [], zH S I) (fun w => Wp 172 (875, [zS, zA 0, zA 32, zI x3], w.1.toList ++ [zI y0], w.2) Q)) := (WpK_iff [7, 15, 18, 157, 166, 195, 219, 233, 242, 271, 295, 314, 328, 342, 351, 370, 384, 403, 417, 436, 450, 469, 483, 502, 516, 535, 549, 568, 582, 601, 615, 634, 648, 662, 671, 690, 704, 723, 737, 756, 770, 794, 813, 822, 826, 835, 839, 853, 862, 871, 875, 889, 898] 2 172 _ Q).symm
set_option maxRecDepth 100000 in
theorem sg_L_law_875_0_32 (S : PS) (I : Nat → Nat → Int) (x3 : Int) (y0 : Int) (y1 : Int) (Q : PV1 → Prop) : Wp 172 (875, [zS, zA 0, zA 32, zI x3], [zI y1, zI y0], zH S I) Q ↔ (cond (decide (y0 = y1)) (Wp 172 (18, [zS, zA 0, zA 32, zI (zad x3 5)], [], zH S I) Q) (cond (zbb 0) (Q (some (zI 0), zH S I)) False)) := (WpK_iff [7, 15, 18, 157, 166, 195, 219, 233, 242, 271, 295, 314, 328, 342, 351, 370, 384, 403, 417, 436, 450, 469, 483, 502, 516, 535, 549, 568, 582, 601, 615, 634, 648, 662, 671, 690, 704, 723, 737, 756, 770, 794, 813, 822, 826, 835, 839, 853, 862, 871, 875, 889, 898] 3 172 _ Q).symm
set_option maxRecDepth 100000 in
theorem sg_L_law_889_0_32 (S : PS) (I : Nat → Nat → Int) (x3 : Int) (y0 : Int) (Q : PV1 → Prop) : Wp 172 (889, [zS, zA 0, zA 32, zI x3], [zI y0], zH S I) Q ↔ (cond (zib (zad x3 1) S.1) (Wp 166 (0, [zA 32, zI (S.2 (zad x3 1 : Int).toNat), zU, zU], [], zH S I) (fun w => Wp 172 (898, [zS, zA 0, zA 32, zI x3], w.1.toList ++ [zI y0], w.2) Q)) False) := (WpK_iff [7, 15, 18, 157, 166, 195, 219, 233, 242, 271, 295, 314, 328, 342, 351, 370, 384, 403, 417, 436, 450, 469, 483, 502, 516, 535, 549, 568, 582, 601, 615, 634, 648, 662, 671, 690, 704, 723, 737, 756, 770, 794, 813, 822, 826, 835, 839, 853, 862, 871, 875, 889, 898] 7 172 _ Q).symm
set_option maxRecDepth 100000 in
theorem sg_L_law_898_0_32 (S : PS) (I : Nat → Nat → Int) (x3 : Int) (y0 : Int) (y1 : Int) (Q : PV1 → Prop) : Wp 172 (898, [zS, zA 0, zA 32, zI x3], [zI y1, zI y0], zH S I) Q ↔ (cond (decide (y0 = y1)) (Wp 172 (18, [zS, zA 0, zA 32, zI (zad x3 5)], [], zH S I) Q) (cond (zbb 0) (Q (some (zI 0), zH S I)) False)) := (WpK_iff [7, 15, 18, 157, 166, 195, 219, 233, 242, 271, 295, 314, 328, 342, 351, 370, 384, 403, 417, 436, 450, 469, 483, 502, 516, 535, 549, 568, 582, 601, 615, 634, 648, 662, 671, 690, 704, 723, 737, 756, 770, 794, 813, 822, 826, 835, 839, 853, 862, 871, 875, 889, 898] 3 172 _ Q).symm
end
section
/-! what each stretch of the code does (laid by a program; each is checked by unfolding) -/
set_option maxRecDepth 100000 in
theorem sg_X6_layIn_133_32 (S : PS) (I : Nat → Nat → Int) (w1 : PV) (w2 : PV) (w3 : PV) (x4 : Int) (x5 : Int) (Q : PV1 → Prop) : Wp 147 (133, [zA 32, w1, w2, w3, zI x4, zI x5], [], zH S I) Q ↔ (cond (zib x5 2000) (cond (decide (I 43 (x5 : Int).toNat < 0)) (Q (some (zI (I 32 21)), zH S I)) (cond (zib x5 2000) (Wp 147 (165, [zA 32, w1, w2, w3, zI (zad x4 (-1)), zI x5], [zI 8, zI (I 44 (x5 : Int).toNat), zA 46, zI (zad x4 (-1)), zA 48], zH S I) Q) False)) False) := (WpK_iff [5, 10, 56, 59, 133, 165, 166, 168] 16 147 _ Q).symm
set_option maxRecDepth 100000 in
theorem sg_X6_layIn_165_32_48_46 (S : PS) (I : Nat → Nat → Int) (w1 : PV) (w2 : PV) (w3 : PV) (x4 : Int) (x5 : Int) (y1 : Int) (y3 : Int) (y4 : Int) (Q : PV1 → Prop) : Wp 147 (165, [zA 32, w1, w2, w3, zI x4, zI x5], [zI y4, zI y3, zA 46, zI y1, zA 48], zH S I) Q ↔ (cond (!decide ((y4 : Int) = 0)) (Wp 147 (166, [zA 32, w1, w2, w3, zI x4, zI x5], [zI (zdv y3 y4), zA 46, zI y1, zA 48], zH S I) Q) False) := (WpK_iff [5, 10, 56, 59, 133, 165, 166, 168] 1 147 _ Q).symm
set_option maxRecDepth 100000 in
theorem sg_X6_layIn_166_32_48_46 (S : PS) (I : Nat → Nat → Int) (w1 : PV) (w2 : PV) (w3 : PV) (x4 : Int) (x5 : Int) (y1 : Int) (y3 : Int) (Q : PV1 → Prop) : Wp 147 (166, [zA 32, w1, w2, w3, zI x4, zI x5], [zI y3, zA 46, zI y1, zA 48], zH S I) Q ↔ (cond (zib y3 6) (cond (zib y1 2000) (Wp 147 (168, [zA 32, w1, w2, w3, zI x4, zI x5], [], zH S (zs2 I 48 (y1 : Int).toNat (I 46 (y3 : Int).toNat))) Q) False) False) := (WpK_iff [5, 10, 56, 59, 133, 165, 166, 168] 2 147 _ Q).symm
set_option maxRecDepth 100000 in
theorem sg_X6_layIn_168_32 (S : PS) (I : Nat → Nat → Int) (w1 : PV) (w2 : PV) (w3 : PV) (x4 : Int) (x5 : Int) (Q : PV1 → Prop) : Wp 147 (168, [zA 32, w1, w2, w3, zI x4, zI x5], [], zH S I) Q ↔ (cond (zib x5 2000) (cond (!decide ((8 : Int) = 0)) (cond (zib x4 2000) (cond (zib x5 2000) (Wp 147 (133, [zA 32, w1, w2, w3, zI x4, zI ((zs2 I 49 (x4 : Int).toNat (zrm (I 44 (x5 : Int).toNat) 8)) 43 (x5 : Int).toNat)], [], zH S (zs2 I 49 (x4 : Int).toNat (zrm (I 44 (x5 : Int).toNat) 8))) Q) False) False) False) False) := (WpK_iff [5, 10, 56, 59, 133, 165, 166, 168] 16 147 _ Q).symm
end
section
/-! the constructors: what stands when both objects are made -/
def zfill (I : Nat → Nat → Int) (r n : Nat) (x : Int) : Nat → Nat → Int := fun i => if i = r then (fun j => if j < n then x else I r j) else I i
theorem zfill_0 (I : Nat → Nat → Int) (r : Nat) (x : Int) : zfill I r 0 x = I := by
  funext i
  simp only [zfill]
  split
  · rename_i h; subst h; funext j; simp
  · rfl
theorem zfill_s (I : Nat → Nat → Int) (r n : Nat) (x : Int) : zs2 (zfill I r n x) r n x = zfill I r (n + 1) x := by
  funext i
  simp only [zfill, zs2]
  split
  · rename_i h; subst h
    funext j
    by_cases h1 : j = n
    · subst h1; simp
    · by_cases h2 : j < n
      · simp [h1, h2, Nat.lt_succ_of_lt h2]
      · have : ¬ j < n + 1 := by omega
        simp [h1, h2, this]
  · rfl
theorem Run_go {m pc pc' : Nat} {ls ls' st st' : List PV} {h h' : PH} {v : PV1} (hp : pst m pc ls st h = .inl [(true, (pc', ls', st', h'))]) (k : Run m (pc', ls', st', h') v) : Run m (pc, ls, st, h) v := by
  obtain ⟨n, hn⟩ := k
  refine ⟨n + 1, ?_⟩
  unfold pex
  simp only [hp]
  exact hn
theorem Run_br {m pc : Nat} {ls st : List PV} {h : PH} {v : PV1} {c : Bool} {x y : PT} (hp : pst m pc ls st h = .inl [(c, x), (true, y)]) (k : Run m (cond c x y) v) : Run m (pc, ls, st, h) v := by
  obtain ⟨n, hn⟩ := k
  refine ⟨n + 1, ?_⟩
  unfold pex
  simp only [hp]
  cases c <;> exact hn
theorem Run_ret {m pc : Nat} {ls st : List PV} {h : PH} {r : Option PV} (hp : pst m pc ls st h = .inr (.inl (true, r))) : Run m (pc, ls, st, h) (r, h) := by
  refine ⟨1, ?_⟩
  unfold pex
  simp only [hp]
  rfl
theorem zwr {x : Int} (h1 : -2147483648 ≤ x) (h2 : x < 2147483648) : (Int32.ofInt x).toInt = x := ztoI ⟨h1, h2⟩
theorem zad_eq {a b : Int} (h : -2147483648 ≤ a + b ∧ a + b < 2147483648) : zad a b = a + b := by rw [zad, ← Int32.ofInt_add]; exact ztoI h
theorem zsb_eq {a b : Int} (h : -2147483648 ≤ a - b ∧ a - b < 2147483648) : zsb a b = a - b := by rw [zsb, ← Int32.ofInt_sub]; exact ztoI h
theorem zml_eq {a b : Int} (h : -2147483648 ≤ a * b ∧ a * b < 2147483648) : zml a b = a * b := by rw [zml, ← Int32.ofInt_mul]; exact ztoI h
theorem Run_fill {h : PH} {r n : Nat} {x : Int} (hr : h.1[r]? = some (7, n)) (h0 : 0 ≤ n) (hn : n < 1000000) : Run 171 (0, [zA r, zI x, zU, zU], [], h) (none, (h.1, zfill h.2.1 r n x, h.2.2)) := by
  obtain ⟨sh, I, P, S⟩ := h
  have loop : ∀ k i : Nat, i + k = n → Run 171 (5, [zA r, zI x, zI i, zI n], [], (sh, zfill I r i x, P, S)) (none, (sh, zfill I r n x, P, S)) := by
    intro k
    induction k with
    | zero =>
      intro i hi
      have : i = n := by omega
      subst this
      refine Run_go rfl (Run_go rfl (Run_br rfl ?_))
      rw [show decide (((i : Nat) : Int) < (i : Int)) = false from decide_eq_false (by omega)]
      exact Run_ret rfl
    | succ k ih =>
      intro i hi
      refine Run_go rfl (Run_go rfl (Run_br rfl ?_))
      rw [show decide (((i : Nat) : Int) < (n : Int)) = true from decide_eq_true (by omega)]
      refine Run_go rfl (Run_go rfl (Run_go rfl ?_))
      have e : pst 171 13 [zA r, zI x, zI i, zI n] [zI x, zI i, zA r] (sh, zfill I r i x, P, S) = .inl [(true, (14, [zA r, zI x, zI i, zI n], [], (sh, zfill I r (i + 1) x, P, S)))] := by
        show h_iast 1 0 0 0 0 [] 13 [zA r, zI x, zI i, zI n] [zI x, zI i, zA r] (sh, zfill I r i x, P, S) = _
        have hr' : sh[r]? = some (7, n) := hr
        have hz : zib (i : Int) n = true := zib_iff.mpr ⟨by omega, by omega⟩
        simp only [h_iast, hr', pgi, hz]
        rw [show ((i : Int)).toNat = i from Int.toNat_natCast i, zfill_s]
        rfl
      refine Run_go e (Run_go rfl (Run_go rfl ?_))
      have e2 : zad (i : Int) 1 = ((i + 1 : Nat) : Int) := by rw [zad_eq (by omega)]; omega
      have := ih (i + 1) (by omega)
      rw [← e2] at this
      exact this
  have e3 : pst 171 3 [zA r, zI x, zI 0, zU] [zA r] (sh, I, P, S) = .inl [(true, (4, [zA r, zI x, zI 0, zU], [zI (n : Int)], (sh, I, P, S)))] := by
    show h_aln 1 0 0 0 0 [] 3 [zA r, zI x, zI 0, zU] [zA r] (sh, I, P, S) = _
    have hr' : sh[r]? = some (7, n) := hr
    simp only [h_aln, hr']
    rfl
  refine Run_go rfl (Run_go rfl (Run_go rfl (Run_go e3 (Run_go rfl ?_))))
  have := loop n 0 (by omega)
  rw [zfill_0] at this
  exact this
theorem Run_clear {h : PH} (h1 : h.1[32]? = some (6, 25)) (h2 : h.2.2.1 32 8 = some 39) (h3 : h.1[39]? = some (7, 12)) : Run 117 (0, [zA 32, zU], [], h) (none, (h.1, zfill h.2.1 39 12 (-2), h.2.2)) := by
  obtain ⟨sh, I, P, S⟩ := h
  have h1 : sh[32]? = some (6, 25) := h1
  have h2 : P 32 8 = some 39 := h2
  have h3 : sh[39]? = some (7, 12) := h3
  have loop : ∀ k i : Nat, i + k = 12 → Run 117 (2, [zA 32, zI i], [], (sh, zfill I 39 i (-2), P, S)) (none, (sh, zfill I 39 12 (-2), P, S)) := by
    intro k
    induction k with
    | zero =>
      intro i hi
      have : i = 12 := by omega
      subst this
      refine Run_go rfl (Run_go rfl (Run_br rfl ?_))
      exact Run_ret rfl
    | succ k ih =>
      intro i hi
      refine Run_go rfl (Run_go rfl (Run_br rfl ?_))
      rw [show decide (((i : Nat) : Int) < 12) = true from decide_eq_true (by omega)]
      have e0 : pst 117 9 [zA 32, zI i] [zA 32] (sh, zfill I 39 i (-2), P, S) = .inl [(true, (12, [zA 32, zI i], [zA 39], (sh, zfill I 39 i (-2), P, S)))] := by
        show h_gfr 3 6 8 33 0 [] 9 [zA 32, zI i] [zA 32] (sh, zfill I 39 i (-2), P, S) = _
        simp only [h_gfr, h1, h2]
        rfl
      refine Run_go rfl (Run_go e0 (Run_go rfl (Run_go rfl ?_)))
      have e : pst 117 15 [zA 32, zI i] [zI (-2), zI i, zA 39] (sh, zfill I 39 i (-2), P, S) = .inl [(true, (16, [zA 32, zI i], [], (sh, zfill I 39 (i + 1) (-2), P, S)))] := by
        show h_iast 1 0 0 0 0 [] 15 [zA 32, zI i] [zI (-2), zI i, zA 39] (sh, zfill I 39 i (-2), P, S) = _
        have hz : zib (i : Int) 12 = true := zib_iff.mpr ⟨by omega, by omega⟩
        simp only [h_iast, h3, pgi, hz]
        rw [show ((i : Int)).toNat = i from Int.toNat_natCast i, zfill_s]
        rfl
      refine Run_go e (Run_go rfl (Run_go rfl ?_))
      have e2 : zad (i : Int) 1 = ((i + 1 : Nat) : Int) := by rw [zad_eq (by omega)]; omega
      have := ih (i + 1) (by omega)
      rw [← e2] at this
      exact this
  refine Run_go rfl (Run_go rfl ?_)
  have := loop 12 0 (by omega)
  rw [zfill_0] at this
  exact this
def ci_1 : Nat → Nat → Int := (fun i => if i = 0 then (fun _ => 0) else (fun _ _ => 0) i)
def cp_1 : Nat → Nat → Option Nat := (fun i => if i = 0 then (fun _ => none) else (fun _ _ => none) i)
def ci_2 : Nat → Nat → Int := (fun i => if i = 1 then (fun _ => 0) else ci_1 i)
def cp_2 : Nat → Nat → Option Nat := (fun i => if i = 1 then (fun _ => none) else cp_1 i)
def ci_3 : Nat → Nat → Int := (fun i => if i = 4 then (fun _ => 0) else (fun i => if i = 3 then (fun _ => 0) else (fun i => if i = 2 then (fun _ => 0) else ci_2 i) i) i)
def cp_3 : Nat → Nat → Option Nat := (zs2 (zs2 (zs2 cp_2 1 0 (some 2)) 1 1 (some 3)) 1 2 (some 4))
def ci_4 : Nat → Nat → Int := (fun i => if i = 6 then (fun _ => 0) else (fun i => if i = 5 then (fun _ => 0) else ci_3 i) i)
def cp_4 : Nat → Nat → Option Nat := (zs2 (zs2 cp_3 1 3 (some 5)) 1 4 (some 6))
def ci_5 : Nat → Nat → Int := (zfill ci_4 2 17 ((-1)))
def cp_5 : Nat → Nat → Option Nat := cp_4
set_option maxRecDepth 100000 in
theorem ct_1 (S : PS) : Run 19 (0, [zA 1], [], ([(5, 9), (2, 5)], ci_2, cp_2, S)) (none, ([(5, 9), (2, 5), (7, 17), (7, 17), (7, 17), (7, 17), (7, 17)], ci_5, cp_5, S)) := by
  refine (RunK_iff [] 16 19 (0, [zA 1], [], ([(5, 9), (2, 5)], ci_2, cp_2, S)) _).mp (show Run 19 (31, [zA 1], [zI 17, zA 1], ([(5, 9), (2, 5), (7, 17), (7, 17), (7, 17)], ci_3, cp_3, S)) _ from ?_)
  refine (RunK_iff [] 10 19 (31, [zA 1], [zI 17, zA 1], ([(5, 9), (2, 5), (7, 17), (7, 17), (7, 17)], ci_3, cp_3, S)) _).mp (show ∃ w : PV1, Run 171 (0, [zA 2, zI ((-1)), zU, zU], [], ([(5, 9), (2, 5), (7, 17), (7, 17), (7, 17), (7, 17), (7, 17)], ci_4, cp_4, S)) w ∧ Run 19 (52, [zA 1], w.1.toList ++ [], w.2) _ from ⟨_, Run_fill (h := ([(5, 9), (2, 5), (7, 17), (7, 17), (7, 17), (7, 17), (7, 17)], ci_4, cp_4, S)) (r := 2) (n := 17) (x := (-1)) rfl (by omega) (by decide), ?_⟩)
  exact (RunK_iff [] 1 19 (52, [zA 1], [], ([(5, 9), (2, 5), (7, 17), (7, 17), (7, 17), (7, 17), (7, 17)], (zfill ci_4 2 17 ((-1))), cp_4, S)) _).mp (show _ = _ from rfl)
def ci_6 : Nat → Nat → Int := (fun i => if i = 7 then (fun _ => 0) else ci_5 i)
def cp_6 : Nat → Nat → Option Nat := (fun i => if i = 7 then (fun _ => none) else (zs2 cp_5 0 0 (some 1)) i)
def ci_7 : Nat → Nat → Int := (zs2 (fun i => if i = 8 then (fun _ => 0) else ci_6 i) 7 2 6)
def cp_7 : Nat → Nat → Option Nat := (zs2 (zs2 cp_6 7 1 (some 8)) 7 0 (some 1))
def ci_8 : Nat → Nat → Int := (zfill ci_7 8 6 ((-1)))
def cp_8 : Nat → Nat → Option Nat := cp_7
set_option maxRecDepth 100000 in
theorem ct_2 (S : PS) : Run 55 (0, [zA 7, zA 1], [], ([(5, 9), (2, 5), (7, 17), (7, 17), (7, 17), (7, 17), (7, 17), (4, 3)], ci_6, cp_6, S)) (none, ([(5, 9), (2, 5), (7, 17), (7, 17), (7, 17), (7, 17), (7, 17), (4, 3), (7, 6)], ci_8, cp_8, S)) := by
  refine (RunK_iff [] 16 55 (0, [zA 7, zA 1], [], ([(5, 9), (2, 5), (7, 17), (7, 17), (7, 17), (7, 17), (7, 17), (4, 3)], ci_6, cp_6, S)) _).mp (show ∃ w : PV1, Run 171 (0, [zA 8, zI ((-1)), zU, zU], [], ([(5, 9), (2, 5), (7, 17), (7, 17), (7, 17), (7, 17), (7, 17), (4, 3), (7, 6)], ci_7, cp_7, S)) w ∧ Run 55 (31, [zA 7, zA 1], w.1.toList ++ [], w.2) _ from ⟨_, Run_fill (h := ([(5, 9), (2, 5), (7, 17), (7, 17), (7, 17), (7, 17), (7, 17), (4, 3), (7, 6)], ci_7, cp_7, S)) (r := 8) (n := 6) (x := (-1)) rfl (by omega) (by decide), ?_⟩)
  exact (RunK_iff [] 1 55 (31, [zA 7, zA 1], [], ([(5, 9), (2, 5), (7, 17), (7, 17), (7, 17), (7, 17), (7, 17), (4, 3), (7, 6)], (zfill ci_7 8 6 ((-1))), cp_7, S)) _).mp (show _ = _ from rfl)
def ci_9 : Nat → Nat → Int := (fun i => if i = 9 then (fun _ => 0) else ci_8 i)
def cp_9 : Nat → Nat → Option Nat := (fun i => if i = 9 then (fun _ => none) else (zs2 cp_8 0 1 (some 7)) i)
def ci_10 : Nat → Nat → Int := (zs2 (fun i => if i = 10 then (fun _ => 0) else ci_9 i) 9 2 6)
def cp_10 : Nat → Nat → Option Nat := (zs2 (zs2 cp_9 9 1 (some 10)) 9 0 (some 1))
def ci_11 : Nat → Nat → Int := (zfill ci_10 10 6 ((-1)))
def cp_11 : Nat → Nat → Option Nat := cp_10
set_option maxRecDepth 100000 in
theorem ct_3 (S : PS) : Run 55 (0, [zA 9, zA 1], [], ([(5, 9), (2, 5), (7, 17), (7, 17), (7, 17), (7, 17), (7, 17), (4, 3), (7, 6), (4, 3)], ci_9, cp_9, S)) (none, ([(5, 9), (2, 5), (7, 17), (7, 17), (7, 17), (7, 17), (7, 17), (4, 3), (7, 6), (4, 3), (7, 6)], ci_11, cp_11, S)) := by
  refine (RunK_iff [] 16 55 (0, [zA 9, zA 1], [], ([(5, 9), (2, 5), (7, 17), (7, 17), (7, 17), (7, 17), (7, 17), (4, 3), (7, 6), (4, 3)], ci_9, cp_9, S)) _).mp (show ∃ w : PV1, Run 171 (0, [zA 10, zI ((-1)), zU, zU], [], ([(5, 9), (2, 5), (7, 17), (7, 17), (7, 17), (7, 17), (7, 17), (4, 3), (7, 6), (4, 3), (7, 6)], ci_10, cp_10, S)) w ∧ Run 55 (31, [zA 9, zA 1], w.1.toList ++ [], w.2) _ from ⟨_, Run_fill (h := ([(5, 9), (2, 5), (7, 17), (7, 17), (7, 17), (7, 17), (7, 17), (4, 3), (7, 6), (4, 3), (7, 6)], ci_10, cp_10, S)) (r := 10) (n := 6) (x := (-1)) rfl (by omega) (by decide), ?_⟩)
  exact (RunK_iff [] 1 55 (31, [zA 9, zA 1], [], ([(5, 9), (2, 5), (7, 17), (7, 17), (7, 17), (7, 17), (7, 17), (4, 3), (7, 6), (4, 3), (7, 6)], (zfill ci_10 10 6 ((-1))), cp_10, S)) _).mp (show _ = _ from rfl)
def ci_12 : Nat → Nat → Int := (fun i => if i = 11 then (fun _ => 0) else ci_11 i)
def cp_12 : Nat → Nat → Option Nat := (fun i => if i = 11 then (fun _ => none) else (zs2 cp_11 0 2 (some 9)) i)
def ci_13 : Nat → Nat → Int := (fun i => if i = 14 then (fun _ => 0) else (fun i => if i = 13 then (fun _ => 0) else (fun i => if i = 12 then (fun _ => 0) else ci_12 i) i) i)
def cp_13 : Nat → Nat → Option Nat := (zs2 (zs2 (zs2 cp_12 11 1 (some 12)) 11 2 (some 13)) 11 3 (some 14))
def ci_14 : Nat → Nat → Int := (fun i => if i = 18 then (fun _ => 0) else (fun i => if i = 17 then (fun _ => 0) else (fun i => if i = 16 then (fun _ => 0) else (fun i => if i = 15 then (fun _ => 0) else ci_13 i) i) i) i)
def cp_14 : Nat → Nat → Option Nat := (zs2 (zs2 (zs2 (zs2 cp_13 11 4 (some 15)) 11 5 (some 16)) 11 6 (some 17)) 11 7 (some 18))
def ci_15 : Nat → Nat → Int := (zs2 (zs2 (zs2 ci_14 11 8 0) 11 9 0) 11 10 0)
def cp_15 : Nat → Nat → Option Nat := (zs2 cp_14 11 0 (some 1))
set_option maxRecDepth 100000 in
theorem ct_4 (S : PS) : Run 38 (0, [zA 11, zA 1], [], ([(5, 9), (2, 5), (7, 17), (7, 17), (7, 17), (7, 17), (7, 17), (4, 3), (7, 6), (4, 3), (7, 6), (3, 11)], ci_12, cp_12, S)) (none, ([(5, 9), (2, 5), (7, 17), (7, 17), (7, 17), (7, 17), (7, 17), (4, 3), (7, 6), (4, 3), (7, 6), (3, 11), (7, 6), (7, 6), (7, 6), (7, 6), (7, 720), (7, 720), (7, 243)], ci_15, cp_15, S)) := by
  refine (RunK_iff [] 16 38 (0, [zA 11, zA 1], [], ([(5, 9), (2, 5), (7, 17), (7, 17), (7, 17), (7, 17), (7, 17), (4, 3), (7, 6), (4, 3), (7, 6), (3, 11)], ci_12, cp_12, S)) _).mp (show Run 38 (31, [zA 11, zA 1], [zI 6, zA 11], ([(5, 9), (2, 5), (7, 17), (7, 17), (7, 17), (7, 17), (7, 17), (4, 3), (7, 6), (4, 3), (7, 6), (3, 11), (7, 6), (7, 6), (7, 6)], ci_13, cp_13, S)) _ from ?_)
  refine (RunK_iff [] 16 38 (31, [zA 11, zA 1], [zI 6, zA 11], ([(5, 9), (2, 5), (7, 17), (7, 17), (7, 17), (7, 17), (7, 17), (4, 3), (7, 6), (4, 3), (7, 6), (3, 11), (7, 6), (7, 6), (7, 6)], ci_13, cp_13, S)) _).mp (show Run 38 (65, [zA 11, zA 1], [zI 0, zA 11], ([(5, 9), (2, 5), (7, 17), (7, 17), (7, 17), (7, 17), (7, 17), (4, 3), (7, 6), (4, 3), (7, 6), (3, 11), (7, 6), (7, 6), (7, 6), (7, 6), (7, 720), (7, 720), (7, 243)], ci_14, cp_14, S)) _ from ?_)
  exact (RunK_iff [] 11 38 (65, [zA 11, zA 1], [zI 0, zA 11], ([(5, 9), (2, 5), (7, 17), (7, 17), (7, 17), (7, 17), (7, 17), (4, 3), (7, 6), (4, 3), (7, 6), (3, 11), (7, 6), (7, 6), (7, 6), (7, 6), (7, 720), (7, 720), (7, 243)], ci_14, cp_14, S)) _).mp (show _ = _ from rfl)
def ci_16 : Nat → Nat → Int := (fun i => if i = 19 then (fun _ => 0) else ci_15 i)
def cp_16 : Nat → Nat → Option Nat := (fun i => if i = 19 then (fun _ => none) else (zs2 cp_15 0 3 (some 11)) i)
def ci_17 : Nat → Nat → Int := (fun i => if i = 22 then (fun _ => 0) else (fun i => if i = 21 then (fun _ => 0) else (fun i => if i = 20 then (fun _ => 0) else ci_16 i) i) i)
def cp_17 : Nat → Nat → Option Nat := (zs2 (zs2 (zs2 cp_16 19 0 (some 20)) 19 1 (some 21)) 19 2 (some 22))
def ci_18 : Nat → Nat → Int := (zs2 (zs2 (fun i => if i = 24 then (fun _ => 0) else (fun i => if i = 23 then (fun _ => 0) else ci_17 i) i) 19 5 0) 19 6 0)
def cp_18 : Nat → Nat → Option Nat := (zs2 (zs2 cp_17 19 3 (some 23)) 19 4 (some 24))
set_option maxRecDepth 100000 in
theorem ct_5 (S : PS) : Run 0 (0, [zA 19], [], ([(5, 9), (2, 5), (7, 17), (7, 17), (7, 17), (7, 17), (7, 17), (4, 3), (7, 6), (4, 3), (7, 6), (3, 11), (7, 6), (7, 6), (7, 6), (7, 6), (7, 720), (7, 720), (7, 243), (0, 7)], ci_16, cp_16, S)) (none, ([(5, 9), (2, 5), (7, 17), (7, 17), (7, 17), (7, 17), (7, 17), (4, 3), (7, 6), (4, 3), (7, 6), (3, 11), (7, 6), (7, 6), (7, 6), (7, 6), (7, 720), (7, 720), (7, 243), (0, 7), (7, 20), (7, 20), (7, 20), (7, 20), (7, 20)], ci_18, cp_18, S)) := by
  refine (RunK_iff [] 16 0 (0, [zA 19], [], ([(5, 9), (2, 5), (7, 17), (7, 17), (7, 17), (7, 17), (7, 17), (4, 3), (7, 6), (4, 3), (7, 6), (3, 11), (7, 6), (7, 6), (7, 6), (7, 6), (7, 720), (7, 720), (7, 243), (0, 7)], ci_16, cp_16, S)) _).mp (show Run 0 (31, [zA 19], [zI 20, zA 19], ([(5, 9), (2, 5), (7, 17), (7, 17), (7, 17), (7, 17), (7, 17), (4, 3), (7, 6), (4, 3), (7, 6), (3, 11), (7, 6), (7, 6), (7, 6), (7, 6), (7, 720), (7, 720), (7, 243), (0, 7), (7, 20), (7, 20), (7, 20)], ci_17, cp_17, S)) _ from ?_)
  exact (RunK_iff [] 13 0 (31, [zA 19], [zI 20, zA 19], ([(5, 9), (2, 5), (7, 17), (7, 17), (7, 17), (7, 17), (7, 17), (4, 3), (7, 6), (4, 3), (7, 6), (3, 11), (7, 6), (7, 6), (7, 6), (7, 6), (7, 720), (7, 720), (7, 243), (0, 7), (7, 20), (7, 20), (7, 20)], ci_17, cp_17, S)) _).mp (show _ = _ from rfl)
def ci_19 : Nat → Nat → Int := (fun i => if i = 25 then (fun _ => 0) else ci_18 i)
def cp_19 : Nat → Nat → Option Nat := (fun i => if i = 25 then (fun _ => none) else (zs2 cp_18 0 4 (some 19)) i)
def ci_20 : Nat → Nat → Int := (zs2 (fun i => if i = 27 then (fun _ => 0) else (fun i => if i = 26 then (fun _ => 0) else ci_19 i) i) 25 2 0)
def cp_20 : Nat → Nat → Option Nat := (zs2 (zs2 cp_19 25 0 (some 26)) 25 1 (some 27))
set_option maxRecDepth 100000 in
theorem ct_6 (S : PS) : Run 12 (0, [zA 25], [], ([(5, 9), (2, 5), (7, 17), (7, 17), (7, 17), (7, 17), (7, 17), (4, 3), (7, 6), (4, 3), (7, 6), (3, 11), (7, 6), (7, 6), (7, 6), (7, 6), (7, 720), (7, 720), (7, 243), (0, 7), (7, 20), (7, 20), (7, 20), (7, 20), (7, 20), (1, 3)], ci_19, cp_19, S)) (none, ([(5, 9), (2, 5), (7, 17), (7, 17), (7, 17), (7, 17), (7, 17), (4, 3), (7, 6), (4, 3), (7, 6), (3, 11), (7, 6), (7, 6), (7, 6), (7, 6), (7, 720), (7, 720), (7, 243), (0, 7), (7, 20), (7, 20), (7, 20), (7, 20), (7, 20), (1, 3), (7, 16), (7, 16)], ci_20, cp_20, S)) := by
  exact (RunK_iff [] 14 12 (0, [zA 25], [], ([(5, 9), (2, 5), (7, 17), (7, 17), (7, 17), (7, 17), (7, 17), (4, 3), (7, 6), (4, 3), (7, 6), (3, 11), (7, 6), (7, 6), (7, 6), (7, 6), (7, 720), (7, 720), (7, 243), (0, 7), (7, 20), (7, 20), (7, 20), (7, 20), (7, 20), (1, 3)], ci_19, cp_19, S)) _).mp (show _ = _ from rfl)
def ci_21 : Nat → Nat → Int := (fun i => if i = 28 then (fun _ => 0) else ci_20 i)
def cp_21 : Nat → Nat → Option Nat := (fun i => if i = 28 then (fun _ => none) else (zs2 cp_20 0 5 (some 25)) i)
def ci_22 : Nat → Nat → Int := (zs2 (fun i => if i = 30 then (fun _ => 0) else (fun i => if i = 29 then (fun _ => 0) else ci_21 i) i) 28 2 0)
def cp_22 : Nat → Nat → Option Nat := (zs2 (zs2 cp_21 28 0 (some 29)) 28 1 (some 30))
set_option maxRecDepth 100000 in
theorem ct_7 (S : PS) : Run 12 (0, [zA 28], [], ([(5, 9), (2, 5), (7, 17), (7, 17), (7, 17), (7, 17), (7, 17), (4, 3), (7, 6), (4, 3), (7, 6), (3, 11), (7, 6), (7, 6), (7, 6), (7, 6), (7, 720), (7, 720), (7, 243), (0, 7), (7, 20), (7, 20), (7, 20), (7, 20), (7, 20), (1, 3), (7, 16), (7, 16), (1, 3)], ci_21, cp_21, S)) (none, ([(5, 9), (2, 5), (7, 17), (7, 17), (7, 17), (7, 17), (7, 17), (4, 3), (7, 6), (4, 3), (7, 6), (3, 11), (7, 6), (7, 6), (7, 6), (7, 6), (7, 720), (7, 720), (7, 243), (0, 7), (7, 20), (7, 20), (7, 20), (7, 20), (7, 20), (1, 3), (7, 16), (7, 16), (1, 3), (7, 16), (7, 16)], ci_22, cp_22, S)) := by
  exact (RunK_iff [] 14 12 (0, [zA 28], [], ([(5, 9), (2, 5), (7, 17), (7, 17), (7, 17), (7, 17), (7, 17), (4, 3), (7, 6), (4, 3), (7, 6), (3, 11), (7, 6), (7, 6), (7, 6), (7, 6), (7, 720), (7, 720), (7, 243), (0, 7), (7, 20), (7, 20), (7, 20), (7, 20), (7, 20), (1, 3), (7, 16), (7, 16), (1, 3)], ci_21, cp_21, S)) _).mp (show _ = _ from rfl)
def ci_23 : Nat → Nat → Int := (zs2 (fun i => if i = 31 then (fun _ => 0) else ci_22 i) 0 8 0)
def cp_23 : Nat → Nat → Option Nat := (zs2 (zs2 cp_22 0 6 (some 28)) 0 7 (some 31))
set_option maxRecDepth 100000 in
theorem ct_8 (S : PS) : Run 77 (0, [zA 0], [], ([(5, 9)], ci_1, cp_1, S)) (none, ([(5, 9), (2, 5), (7, 17), (7, 17), (7, 17), (7, 17), (7, 17), (4, 3), (7, 6), (4, 3), (7, 6), (3, 11), (7, 6), (7, 6), (7, 6), (7, 6), (7, 720), (7, 720), (7, 243), (0, 7), (7, 20), (7, 20), (7, 20), (7, 20), (7, 20), (1, 3), (7, 16), (7, 16), (1, 3), (7, 16), (7, 16), (7, 32)], ci_23, cp_23, S)) := by
  refine (RunK_iff [] 6 77 (0, [zA 0], [], ([(5, 9)], ci_1, cp_1, S)) _).mp (show ∃ w : PV1, Run 19 (0, [zA 1], [], ([(5, 9), (2, 5)], ci_2, cp_2, S)) w ∧ Run 77 (12, [zA 0], w.1.toList ++ [zA 1, zA 0], w.2) _ from ⟨_, ct_1 S, ?_⟩)
  refine (RunK_iff [] 7 77 (12, [zA 0], [zA 1, zA 0], ([(5, 9), (2, 5), (7, 17), (7, 17), (7, 17), (7, 17), (7, 17)], ci_5, cp_5, S)) _).mp (show ∃ w : PV1, Run 55 (0, [zA 7, zA 1], [], ([(5, 9), (2, 5), (7, 17), (7, 17), (7, 17), (7, 17), (7, 17), (4, 3)], ci_6, cp_6, S)) w ∧ Run 77 (27, [zA 0], w.1.toList ++ [zA 7, zA 0], w.2) _ from ⟨_, ct_2 S, ?_⟩)
  refine (RunK_iff [] 7 77 (27, [zA 0], [zA 7, zA 0], ([(5, 9), (2, 5), (7, 17), (7, 17), (7, 17), (7, 17), (7, 17), (4, 3), (7, 6)], ci_8, cp_8, S)) _).mp (show ∃ w : PV1, Run 55 (0, [zA 9, zA 1], [], ([(5, 9), (2, 5), (7, 17), (7, 17), (7, 17), (7, 17), (7, 17), (4, 3), (7, 6), (4, 3)], ci_9, cp_9, S)) w ∧ Run 77 (42, [zA 0], w.1.toList ++ [zA 9, zA 0], w.2) _ from ⟨_, ct_3 S, ?_⟩)
  refine (RunK_iff [] 7 77 (42, [zA 0], [zA 9, zA 0], ([(5, 9), (2, 5), (7, 17), (7, 17), (7, 17), (7, 17), (7, 17), (4, 3), (7, 6), (4, 3), (7, 6)], ci_11, cp_11, S)) _).mp (show ∃ w : PV1, Run 38 (0, [zA 11, zA 1], [], ([(5, 9), (2, 5), (7, 17), (7, 17), (7, 17), (7, 17), (7, 17), (4, 3), (7, 6), (4, 3), (7, 6), (3, 11)], ci_12, cp_12, S)) w ∧ Run 77 (57, [zA 0], w.1.toList ++ [zA 11, zA 0], w.2) _ from ⟨_, ct_4 S, ?_⟩)
  refine (RunK_iff [] 5 77 (57, [zA 0], [zA 11, zA 0], ([(5, 9), (2, 5), (7, 17), (7, 17), (7, 17), (7, 17), (7, 17), (4, 3), (7, 6), (4, 3), (7, 6), (3, 11), (7, 6), (7, 6), (7, 6), (7, 6), (7, 720), (7, 720), (7, 243)], ci_15, cp_15, S)) _).mp (show ∃ w : PV1, Run 0 (0, [zA 19], [], ([(5, 9), (2, 5), (7, 17), (7, 17), (7, 17), (7, 17), (7, 17), (4, 3), (7, 6), (4, 3), (7, 6), (3, 11), (7, 6), (7, 6), (7, 6), (7, 6), (7, 720), (7, 720), (7, 243), (0, 7)], ci_16, cp_16, S)) w ∧ Run 77 (68, [zA 0], w.1.toList ++ [zA 19, zA 0], w.2) _ from ⟨_, ct_5 S, ?_⟩)
  refine (RunK_iff [] 5 77 (68, [zA 0], [zA 19, zA 0], ([(5, 9), (2, 5), (7, 17), (7, 17), (7, 17), (7, 17), (7, 17), (4, 3), (7, 6), (4, 3), (7, 6), (3, 11), (7, 6), (7, 6), (7, 6), (7, 6), (7, 720), (7, 720), (7, 243), (0, 7), (7, 20), (7, 20), (7, 20), (7, 20), (7, 20)], ci_18, cp_18, S)) _).mp (show ∃ w : PV1, Run 12 (0, [zA 25], [], ([(5, 9), (2, 5), (7, 17), (7, 17), (7, 17), (7, 17), (7, 17), (4, 3), (7, 6), (4, 3), (7, 6), (3, 11), (7, 6), (7, 6), (7, 6), (7, 6), (7, 720), (7, 720), (7, 243), (0, 7), (7, 20), (7, 20), (7, 20), (7, 20), (7, 20), (1, 3)], ci_19, cp_19, S)) w ∧ Run 77 (79, [zA 0], w.1.toList ++ [zA 25, zA 0], w.2) _ from ⟨_, ct_6 S, ?_⟩)
  refine (RunK_iff [] 5 77 (79, [zA 0], [zA 25, zA 0], ([(5, 9), (2, 5), (7, 17), (7, 17), (7, 17), (7, 17), (7, 17), (4, 3), (7, 6), (4, 3), (7, 6), (3, 11), (7, 6), (7, 6), (7, 6), (7, 6), (7, 720), (7, 720), (7, 243), (0, 7), (7, 20), (7, 20), (7, 20), (7, 20), (7, 20), (1, 3), (7, 16), (7, 16)], ci_20, cp_20, S)) _).mp (show ∃ w : PV1, Run 12 (0, [zA 28], [], ([(5, 9), (2, 5), (7, 17), (7, 17), (7, 17), (7, 17), (7, 17), (4, 3), (7, 6), (4, 3), (7, 6), (3, 11), (7, 6), (7, 6), (7, 6), (7, 6), (7, 720), (7, 720), (7, 243), (0, 7), (7, 20), (7, 20), (7, 20), (7, 20), (7, 20), (1, 3), (7, 16), (7, 16), (1, 3)], ci_21, cp_21, S)) w ∧ Run 77 (90, [zA 0], w.1.toList ++ [zA 28, zA 0], w.2) _ from ⟨_, ct_7 S, ?_⟩)
  exact (RunK_iff [] 9 77 (90, [zA 0], [zA 28, zA 0], ([(5, 9), (2, 5), (7, 17), (7, 17), (7, 17), (7, 17), (7, 17), (4, 3), (7, 6), (4, 3), (7, 6), (3, 11), (7, 6), (7, 6), (7, 6), (7, 6), (7, 720), (7, 720), (7, 243), (0, 7), (7, 20), (7, 20), (7, 20), (7, 20), (7, 20), (1, 3), (7, 16), (7, 16), (1, 3), (7, 16), (7, 16)], ci_22, cp_22, S)) _).mp (show _ = _ from rfl)
def ci_24 : Nat → Nat → Int := (fun i => if i = 32 then (fun _ => 0) else ci_23 i)
def cp_24 : Nat → Nat → Option Nat := (fun i => if i = 32 then (fun _ => none) else cp_23 i)
def ci_25 : Nat → Nat → Int := (fun i => if i = 35 then (fun _ => 0) else (fun i => if i = 34 then (fun _ => 0) else (fun i => if i = 33 then (fun _ => 0) else ci_24 i) i) i)
def cp_25 : Nat → Nat → Option Nat := (zs2 (zs2 (zs2 cp_24 32 0 (some 33)) 32 1 (some 34)) 32 2 (some 35))
def ci_26 : Nat → Nat → Int := (fun i => if i = 39 then (fun _ => 0) else (zs2 (fun i => if i = 38 then (fun _ => 0) else (fun i => if i = 37 then (fun _ => 0) else (fun i => if i = 36 then (fun _ => 0) else ci_25 i) i) i) 32 6 6) i)
def cp_26 : Nat → Nat → Option Nat := (zs2 (zs2 (zs2 cp_25 32 3 (some 36)) 32 4 (some 37)) 32 5 (some 38))
def ci_27 : Nat → Nat → Int := (fun i => if i = 43 then (fun _ => 0) else (fun i => if i = 42 then (fun _ => 0) else (fun i => if i = 41 then (fun _ => 0) else (fun i => if i = 40 then (fun _ => 0) else ci_26 i) i) i) i)
def cp_27 : Nat → Nat → Option Nat := (zs2 (zs2 (zs2 (zs2 cp_26 32 8 (some 39)) 32 10 (some 40)) 32 11 (some 41)) 32 12 (some 42))
def ci_28 : Nat → Nat → Int := (fun i => if i = 47 then (fun _ => 0) else (fun i => if i = 46 then (fun _ => 0) else (fun i => if i = 45 then (fun _ => 0) else (fun i => if i = 44 then (fun _ => 0) else ci_27 i) i) i) i)
def cp_28 : Nat → Nat → Option Nat := (zs2 (zs2 (zs2 (zs2 cp_27 32 13 (some 43)) 32 14 (some 44)) 32 15 (some 45)) 32 17 (some 46))
def ci_29 : Nat → Nat → Int := (fun i => if i = 50 then (fun _ => 0) else (fun i => if i = 49 then (fun _ => 0) else (fun i => if i = 48 then (fun _ => 0) else ci_28 i) i) i)
def cp_29 : Nat → Nat → Option Nat := (zs2 (zs2 (zs2 (zs2 cp_28 32 19 (some 47)) 32 22 (some 48)) 32 23 (some 49)) 32 24 (some 50))
def ci_30 : Nat → Nat → Int := (zfill ci_29 39 12 (-2))
def cp_30 : Nat → Nat → Option Nat := cp_29
set_option maxRecDepth 100000 in
theorem ct_9 (S : PS) : Run 116 (0, [zA 32], [], ([(5, 9), (2, 5), (7, 17), (7, 17), (7, 17), (7, 17), (7, 17), (4, 3), (7, 6), (4, 3), (7, 6), (3, 11), (7, 6), (7, 6), (7, 6), (7, 6), (7, 720), (7, 720), (7, 243), (0, 7), (7, 20), (7, 20), (7, 20), (7, 20), (7, 20), (1, 3), (7, 16), (7, 16), (1, 3), (7, 16), (7, 16), (7, 32), (6, 25)], ci_24, cp_24, S)) (none, ([(5, 9), (2, 5), (7, 17), (7, 17), (7, 17), (7, 17), (7, 17), (4, 3), (7, 6), (4, 3), (7, 6), (3, 11), (7, 6), (7, 6), (7, 6), (7, 6), (7, 720), (7, 720), (7, 243), (0, 7), (7, 20), (7, 20), (7, 20), (7, 20), (7, 20), (1, 3), (7, 16), (7, 16), (1, 3), (7, 16), (7, 16), (7, 32), (6, 25), (8, 16), (7, 16), (7, 17), (7, 17), (7, 17), (7, 16), (7, 12), (7, 320), (8, 117649), (7, 2000), (7, 2000), (7, 2000), (7, 2000), (7, 6), (7, 6), (7, 2000), (7, 2000), (7, 32)], ci_30, cp_30, S)) := by
  refine (RunK_iff [] 16 116 (0, [zA 32], [], ([(5, 9), (2, 5), (7, 17), (7, 17), (7, 17), (7, 17), (7, 17), (4, 3), (7, 6), (4, 3), (7, 6), (3, 11), (7, 6), (7, 6), (7, 6), (7, 6), (7, 720), (7, 720), (7, 243), (0, 7), (7, 20), (7, 20), (7, 20), (7, 20), (7, 20), (1, 3), (7, 16), (7, 16), (1, 3), (7, 16), (7, 16), (7, 32), (6, 25)], ci_24, cp_24, S)) _).mp (show Run 116 (31, [zA 32], [zI 17, zA 32], ([(5, 9), (2, 5), (7, 17), (7, 17), (7, 17), (7, 17), (7, 17), (4, 3), (7, 6), (4, 3), (7, 6), (3, 11), (7, 6), (7, 6), (7, 6), (7, 6), (7, 720), (7, 720), (7, 243), (0, 7), (7, 20), (7, 20), (7, 20), (7, 20), (7, 20), (1, 3), (7, 16), (7, 16), (1, 3), (7, 16), (7, 16), (7, 32), (6, 25), (8, 16), (7, 16), (7, 17)], ci_25, cp_25, S)) _ from ?_)
  refine (RunK_iff [] 16 116 (31, [zA 32], [zI 17, zA 32], ([(5, 9), (2, 5), (7, 17), (7, 17), (7, 17), (7, 17), (7, 17), (4, 3), (7, 6), (4, 3), (7, 6), (3, 11), (7, 6), (7, 6), (7, 6), (7, 6), (7, 720), (7, 720), (7, 243), (0, 7), (7, 20), (7, 20), (7, 20), (7, 20), (7, 20), (1, 3), (7, 16), (7, 16), (1, 3), (7, 16), (7, 16), (7, 32), (6, 25), (8, 16), (7, 16), (7, 17)], ci_25, cp_25, S)) _).mp (show Run 116 (63, [zA 32], [zA 39, zA 32], ([(5, 9), (2, 5), (7, 17), (7, 17), (7, 17), (7, 17), (7, 17), (4, 3), (7, 6), (4, 3), (7, 6), (3, 11), (7, 6), (7, 6), (7, 6), (7, 6), (7, 720), (7, 720), (7, 243), (0, 7), (7, 20), (7, 20), (7, 20), (7, 20), (7, 20), (1, 3), (7, 16), (7, 16), (1, 3), (7, 16), (7, 16), (7, 32), (6, 25), (8, 16), (7, 16), (7, 17), (7, 17), (7, 17), (7, 16), (7, 12)], ci_26, cp_26, S)) _ from ?_)
  refine (RunK_iff [] 16 116 (63, [zA 32], [zA 39, zA 32], ([(5, 9), (2, 5), (7, 17), (7, 17), (7, 17), (7, 17), (7, 17), (4, 3), (7, 6), (4, 3), (7, 6), (3, 11), (7, 6), (7, 6), (7, 6), (7, 6), (7, 720), (7, 720), (7, 243), (0, 7), (7, 20), (7, 20), (7, 20), (7, 20), (7, 20), (1, 3), (7, 16), (7, 16), (1, 3), (7, 16), (7, 16), (7, 32), (6, 25), (8, 16), (7, 16), (7, 17), (7, 17), (7, 17), (7, 16), (7, 12)], ci_26, cp_26, S)) _).mp (show Run 116 (98, [zA 32], [zA 43, zA 32], ([(5, 9), (2, 5), (7, 17), (7, 17), (7, 17), (7, 17), (7, 17), (4, 3), (7, 6), (4, 3), (7, 6), (3, 11), (7, 6), (7, 6), (7, 6), (7, 6), (7, 720), (7, 720), (7, 243), (0, 7), (7, 20), (7, 20), (7, 20), (7, 20), (7, 20), (1, 3), (7, 16), (7, 16), (1, 3), (7, 16), (7, 16), (7, 32), (6, 25), (8, 16), (7, 16), (7, 17), (7, 17), (7, 17), (7, 16), (7, 12), (7, 320), (8, 117649), (7, 2000), (7, 2000)], ci_27, cp_27, S)) _ from ?_)
  refine (RunK_iff [] 16 116 (98, [zA 32], [zA 43, zA 32], ([(5, 9), (2, 5), (7, 17), (7, 17), (7, 17), (7, 17), (7, 17), (4, 3), (7, 6), (4, 3), (7, 6), (3, 11), (7, 6), (7, 6), (7, 6), (7, 6), (7, 720), (7, 720), (7, 243), (0, 7), (7, 20), (7, 20), (7, 20), (7, 20), (7, 20), (1, 3), (7, 16), (7, 16), (1, 3), (7, 16), (7, 16), (7, 32), (6, 25), (8, 16), (7, 16), (7, 17), (7, 17), (7, 17), (7, 16), (7, 12), (7, 320), (8, 117649), (7, 2000), (7, 2000)], ci_27, cp_27, S)) _).mp (show Run 116 (132, [zA 32], [zA 47, zA 32], ([(5, 9), (2, 5), (7, 17), (7, 17), (7, 17), (7, 17), (7, 17), (4, 3), (7, 6), (4, 3), (7, 6), (3, 11), (7, 6), (7, 6), (7, 6), (7, 6), (7, 720), (7, 720), (7, 243), (0, 7), (7, 20), (7, 20), (7, 20), (7, 20), (7, 20), (1, 3), (7, 16), (7, 16), (1, 3), (7, 16), (7, 16), (7, 32), (6, 25), (8, 16), (7, 16), (7, 17), (7, 17), (7, 17), (7, 16), (7, 12), (7, 320), (8, 117649), (7, 2000), (7, 2000), (7, 2000), (7, 2000), (7, 6), (7, 6)], ci_28, cp_28, S)) _ from ?_)
  refine (RunK_iff [] 15 116 (132, [zA 32], [zA 47, zA 32], ([(5, 9), (2, 5), (7, 17), (7, 17), (7, 17), (7, 17), (7, 17), (4, 3), (7, 6), (4, 3), (7, 6), (3, 11), (7, 6), (7, 6), (7, 6), (7, 6), (7, 720), (7, 720), (7, 243), (0, 7), (7, 20), (7, 20), (7, 20), (7, 20), (7, 20), (1, 3), (7, 16), (7, 16), (1, 3), (7, 16), (7, 16), (7, 32), (6, 25), (8, 16), (7, 16), (7, 17), (7, 17), (7, 17), (7, 16), (7, 12), (7, 320), (8, 117649), (7, 2000), (7, 2000), (7, 2000), (7, 2000), (7, 6), (7, 6)], ci_28, cp_28, S)) _).mp (show ∃ w : PV1, Run 117 (0, [zA 32, zU], [], ([(5, 9), (2, 5), (7, 17), (7, 17), (7, 17), (7, 17), (7, 17), (4, 3), (7, 6), (4, 3), (7, 6), (3, 11), (7, 6), (7, 6), (7, 6), (7, 6), (7, 720), (7, 720), (7, 243), (0, 7), (7, 20), (7, 20), (7, 20), (7, 20), (7, 20), (1, 3), (7, 16), (7, 16), (1, 3), (7, 16), (7, 16), (7, 32), (6, 25), (8, 16), (7, 16), (7, 17), (7, 17), (7, 17), (7, 16), (7, 12), (7, 320), (8, 117649), (7, 2000), (7, 2000), (7, 2000), (7, 2000), (7, 6), (7, 6), (7, 2000), (7, 2000), (7, 32)], ci_29, cp_29, S)) w ∧ Run 116 (165, [zA 32], w.1.toList ++ [], w.2) _ from ⟨_, Run_clear (h := ([(5, 9), (2, 5), (7, 17), (7, 17), (7, 17), (7, 17), (7, 17), (4, 3), (7, 6), (4, 3), (7, 6), (3, 11), (7, 6), (7, 6), (7, 6), (7, 6), (7, 720), (7, 720), (7, 243), (0, 7), (7, 20), (7, 20), (7, 20), (7, 20), (7, 20), (1, 3), (7, 16), (7, 16), (1, 3), (7, 16), (7, 16), (7, 32), (6, 25), (8, 16), (7, 16), (7, 17), (7, 17), (7, 17), (7, 16), (7, 12), (7, 320), (8, 117649), (7, 2000), (7, 2000), (7, 2000), (7, 2000), (7, 6), (7, 6), (7, 2000), (7, 2000), (7, 32)], ci_29, cp_29, S)) rfl rfl rfl, ?_⟩)
  exact (RunK_iff [] 1 116 (165, [zA 32], [], ([(5, 9), (2, 5), (7, 17), (7, 17), (7, 17), (7, 17), (7, 17), (4, 3), (7, 6), (4, 3), (7, 6), (3, 11), (7, 6), (7, 6), (7, 6), (7, 6), (7, 720), (7, 720), (7, 243), (0, 7), (7, 20), (7, 20), (7, 20), (7, 20), (7, 20), (1, 3), (7, 16), (7, 16), (1, 3), (7, 16), (7, 16), (7, 32), (6, 25), (8, 16), (7, 16), (7, 17), (7, 17), (7, 17), (7, 16), (7, 12), (7, 320), (8, 117649), (7, 2000), (7, 2000), (7, 2000), (7, 2000), (7, 6), (7, 6), (7, 2000), (7, 2000), (7, 32)], (zfill ci_29 39 12 (-2)), cp_29, S)) _).mp (show _ = _ from rfl)
end
section
/-! the law from the place where both objects stand -/
theorem zPP_lt : ∀ (i j r : Nat), zPP i j = some r → r < 51 := by
  intro i j r h
  unfold zPP at h
  repeat' split at h
  all_goals first | (cases h; decide) | cases h
theorem cp_eq : ∀ r, r < 51 → ∀ j, j < 25 → cp_30 r j = zPP r j := by decide +kernel
theorem zSH_len : zSH.length = 51 := by decide +kernel
theorem zSH_25 : ∀ s ∈ zSH, s.1 < 7 → s.2 ≤ 25 := by decide +kernel
theorem zw_sw (cI cZ : ClassId) (ad : Nat → Nat) (I : Nat → Nat → Int) (S : PS) : zw cI cZ ad (zSH, I, cp_30, S) = zw cI cZ ad (zH S I) := by
  apply List.ext_getElem?
  intro k
  rw [zw_get, zw_get]
  show (zSH[k]?).map _ = (zSH[k]?).map _
  cases hk : zSH[k]? with
  | none => rfl
  | some s =>
    have hlt : k < 51 := by rw [← zSH_len]; exact (List.getElem?_eq_some_iff.mp hk).1
    simp only [Option.map_some, ze]
    by_cases h7 : s.1 = 7
    · simp only [h7, if_true]
    · by_cases h8 : s.1 = 8
      · simp only [h8, if_true]
      · rw [if_neg h7, if_neg h8, if_neg h7, if_neg h8]
        congr 4
        apply List.map_congr_left
        intro j hj
        have hs : s.1 < 7 := by
          have : ∀ s ∈ zSH, s.1 ≤ 8 := by decide +kernel
          have := this s (List.mem_of_getElem? hk)
          omega
        have hj25 : j < 25 := Nat.lt_of_lt_of_le (List.mem_range.mp hj) (zSH_25 s (List.mem_of_getElem? hk) hs)
        simp only [zf, cp_eq k hlt j hj25]
theorem zch_one {q : PT} : zch [(true, q)] q := ⟨[], [], rfl, fun e h => by cases h⟩
theorem zrm0 : ([(5, 9)] : List (Nat × Nat)).length ≤ 600000 + 0 ∧ zsz [(5, 9)] ≤ 7302250 + 0 := by decide +kernel
theorem zrm1 : ([(5, 9), (2, 5), (7, 17), (7, 17), (7, 17), (7, 17), (7, 17), (4, 3), (7, 6), (4, 3), (7, 6), (3, 11), (7, 6), (7, 6), (7, 6), (7, 6), (7, 720), (7, 720), (7, 243), (0, 7), (7, 20), (7, 20), (7, 20), (7, 20), (7, 20), (1, 3), (7, 16), (7, 16), (1, 3), (7, 16), (7, 16), (7, 32)] : List (Nat × Nat)).length ≤ 600000 + 0 ∧ zsz [(5, 9), (2, 5), (7, 17), (7, 17), (7, 17), (7, 17), (7, 17), (4, 3), (7, 6), (4, 3), (7, 6), (3, 11), (7, 6), (7, 6), (7, 6), (7, 6), (7, 720), (7, 720), (7, 243), (0, 7), (7, 20), (7, 20), (7, 20), (7, 20), (7, 20), (1, 3), (7, 16), (7, 16), (1, 3), (7, 16), (7, 16), (7, 32)] ≤ 7302250 + 0 := by decide +kernel
theorem zrm2 : ([(5, 9), (2, 5), (7, 17), (7, 17), (7, 17), (7, 17), (7, 17), (4, 3), (7, 6), (4, 3), (7, 6), (3, 11), (7, 6), (7, 6), (7, 6), (7, 6), (7, 720), (7, 720), (7, 243), (0, 7), (7, 20), (7, 20), (7, 20), (7, 20), (7, 20), (1, 3), (7, 16), (7, 16), (1, 3), (7, 16), (7, 16), (7, 32), (6, 25)] : List (Nat × Nat)).length ≤ 600000 + 0 ∧ zsz [(5, 9), (2, 5), (7, 17), (7, 17), (7, 17), (7, 17), (7, 17), (4, 3), (7, 6), (4, 3), (7, 6), (3, 11), (7, 6), (7, 6), (7, 6), (7, 6), (7, 720), (7, 720), (7, 243), (0, 7), (7, 20), (7, 20), (7, 20), (7, 20), (7, 20), (1, 3), (7, 16), (7, 16), (1, 3), (7, 16), (7, 16), (7, 32), (6, 25)] ≤ 7302250 + 0 := by decide +kernel
theorem zrm3 : ([(5, 9), (2, 5), (7, 17), (7, 17), (7, 17), (7, 17), (7, 17), (4, 3), (7, 6), (4, 3), (7, 6), (3, 11), (7, 6), (7, 6), (7, 6), (7, 6), (7, 720), (7, 720), (7, 243), (0, 7), (7, 20), (7, 20), (7, 20), (7, 20), (7, 20), (1, 3), (7, 16), (7, 16), (1, 3), (7, 16), (7, 16), (7, 32), (6, 25), (8, 16), (7, 16), (7, 17), (7, 17), (7, 17), (7, 16), (7, 12), (7, 320), (8, 117649), (7, 2000), (7, 2000), (7, 2000), (7, 2000), (7, 6), (7, 6), (7, 2000), (7, 2000), (7, 32)] : List (Nat × Nat)).length ≤ 600000 + 0 ∧ zsz [(5, 9), (2, 5), (7, 17), (7, 17), (7, 17), (7, 17), (7, 17), (4, 3), (7, 6), (4, 3), (7, 6), (3, 11), (7, 6), (7, 6), (7, 6), (7, 6), (7, 720), (7, 720), (7, 243), (0, 7), (7, 20), (7, 20), (7, 20), (7, 20), (7, 20), (1, 3), (7, 16), (7, 16), (1, 3), (7, 16), (7, 16), (7, 32), (6, 25), (8, 16), (7, 16), (7, 17), (7, 17), (7, 17), (7, 16), (7, 12), (7, 320), (8, 117649), (7, 2000), (7, 2000), (7, 2000), (7, 2000), (7, 6), (7, 6), (7, 2000), (7, 2000), (7, 32)] ≤ 7302250 + 0 := by decide +kernel
set_option maxRecDepth 100000 in
set_option maxHeartbeats 8000000 in
theorem whole_of2 {p : Program} {e : Env} {s : State} {m : MethodId} {below : List Frame} {meth : Method} {c : Code} (l : Launch) {b L : Nat} {xs : Nat → Int32} (hL : L ≤ 2560) (C0 : lw_At p s m meth c b L xs)
    {h' : PH} (hx : Run 172 (16, [zS, zA 0, zA 32, zU], [], zH (L, fun j => (xs j).toInt) ci_30) (some (zI 1), h')) (hr1 : h'.1.length ≤ 600000) (hr2 : zsz h'.1 ≤ 7302250) :
    W p l e room_1 s m #[Value.ref b] below meth c s.heap [] 0 0 (lw_Z below #[Value.ref b] s) (entryFrame m ([Value.ref b] : List Value).toArray 4) := by
  obtain ⟨hx0, hb, hr, hml, hown, hts, hX, hbl, hlocks, hgv⟩ := id C0
  have htsW : ∀ w ∈ WS, w.before #[Value.ref b] s = true := fun w hw => hts w (List.mem_filter.mp hw).1
  have hk0 : ∀ k : Nat, ∃ x : ClassId × (Nat → Nat), ∀ q : vw_C, vwCl[k]? = some q → u_Kn s q.1 q.2.1 q.2.2 x.1 x.2 := by
    intro k
    cases hq : vwCl[k]? with
    | none => exact ⟨(0, fun _ => 0), fun q h => by cases h⟩
    | some q =>
      obtain ⟨cC, iS, h⟩ := u_known (ws := WS) (args := #[Value.ref b]) (n := q.2.2) htsW (zcl_ok k q hq).1 (htsW _ (zIn_mem (List.all_eq_true.mp zinst_ok q (List.mem_of_getElem? hq))))
      exact ⟨(cC, iS), fun q' h' => by cases h'; exact h⟩
  obtain ⟨f, hf⟩ := Classical.axiomOfChoice hk0
  obtain ⟨cI, kI, compI, i1, i2, i3⟩ := Cond.arrayClass_spec (htsW _ (zAt_mem zwAI))
  obtain ⟨cZ, kZ, compZ, z1, z2, z3⟩ := Cond.arrayClass_spec (htsW _ (zAt_mem zwAZ))
  have hK : va_K (fun k => (f k).1, fun k => (f k).2) vwCl [(cI, .int), (cZ, .boolean)] s := by
    refine ⟨fun k q hq => hf k q hq, fun k q hq => ?_⟩
    match k, hq with
    | 0, hq => cases hq; exact ⟨fun n z => ⟨fun k h => (by cases h), kI, i2, compI, i3⟩, i1⟩
    | 1, hq => cases hq; exact ⟨fun n z => ⟨fun k h => (by cases h), kZ, z2, compZ, z3⟩, z1⟩
    | k + 2, hq => simp at hq
  have C : zcx p room_1 s m #[Value.ref b] meth c 172 True (fun k => (f k).1, fun k => (f k).2) cI cZ (fun q => s.heap.size ≤ q) :=
    ⟨hx0, hb, hml, hown, htsW, hK, fun q h => h, fun h => absurd h (by decide), fun _ => trivial, by decide, by decide, va_Nw.of rfl (hts _ znest_in.1), va_Nw.of rfl (hts _ znest_in.2)⟩
  obtain ⟨n, hx⟩ := hx
  have G16 : zG p l e room_1 s m #[Value.ref b] below meth c (lw_Z below #[Value.ref b] s) 172 True b (fun k => (f k).1, fun k => (f k).2) cI cZ (fun q => s.heap.size ≤ q) 0 0 (fun _ => 0) (16, [zS, zA 0, zA 32, zU], [], zH ((L, fun j => (xs j).toInt) : PS) ci_30) := by
    refine zmain l n 172 _ _ h' hx C (by show h'.1.length ≤ 600000 + 0; omega) (by show zsz h'.1 ≤ 7302250 + 0; omega) ?_
    intro pc pl st ad H locs ls cells slots Z hrk
    have ec := Z.2.2.2.2.2.2.1
    have eS := Z.2.2.2.2.2.2.2.1
    simp only at ec eS
    rcases hrk with ⟨x, -, -, hR, -⟩ | ⟨x, rfl, hx1, -, -, hdg⟩ | ⟨q, ty, -, h2, -⟩ | ⟨-, h2, -⟩
    · exact absurd hR (by decide)
    · cases hx1
      refine va_forget (fun q hq => Z.2.2.2.1.2.2 q hq) ?_
      refine W.widen (k := 600000) (n := 7302250) (by omega) (by omega) ?_
      exact lw_ret hx0 hb hr hlocks hdg
    · cases h2
    · cases h2
  have G16' : zG p l e room_1 s m #[Value.ref b] below meth c (lw_Z below #[Value.ref b] s) 172 True b (fun k => (f k).1, fun k => (f k).2) cI cZ (fun q => s.heap.size ≤ q) 0 0 (fun _ => 0) (16, [zS, zA 0, zA 32, zU], [], ([(5, 9), (2, 5), (7, 17), (7, 17), (7, 17), (7, 17), (7, 17), (4, 3), (7, 6), (4, 3), (7, 6), (3, 11), (7, 6), (7, 6), (7, 6), (7, 6), (7, 720), (7, 720), (7, 243), (0, 7), (7, 20), (7, 20), (7, 20), (7, 20), (7, 20), (1, 3), (7, 16), (7, 16), (1, 3), (7, 16), (7, 16), (7, 32), (6, 25), (8, 16), (7, 16), (7, 17), (7, 17), (7, 17), (7, 16), (7, 12), (7, 320), (8, 117649), (7, 2000), (7, 2000), (7, 2000), (7, 2000), (7, 6), (7, 6), (7, 2000), (7, 2000), (7, 32)], ci_30, cp_30, ((L, fun j => (xs j).toInt) : PS))) := by
    intro ad H locs ls cells slots Z
    refine G16 ad H locs ls cells slots ⟨⟨Z.1.1, fun i j r h => by rw [show (zH ((L, fun j => (xs j).toInt) : PS) ci_30).1.length = 51 from zSH_len]; exact zPP_lt i j r h, Z.1.2.2⟩, ?_, ?_, Z.2.2.2⟩
    · show va_P _ vwCl (zw cI cZ ad (zH ((L, fun j => (xs j).toInt) : PS) ci_30)) H
      rw [← zw_sw]; exact Z.2.1
    · show va_D _ (zw cI cZ ad (zH ((L, fun j => (xs j).toInt) : PS) ci_30))
      rw [← zw_sw]; exact Z.2.2.1
  have G15 : zG p l e room_1 s m #[Value.ref b] below meth c (lw_Z below #[Value.ref b] s) 172 True b (fun k => (f k).1, fun k => (f k).2) cI cZ (fun q => s.heap.size ≤ q) 0 0 (fun _ => 0) (15, [zS, zA 0, zU, zU], [zA 32], ([(5, 9), (2, 5), (7, 17), (7, 17), (7, 17), (7, 17), (7, 17), (4, 3), (7, 6), (4, 3), (7, 6), (3, 11), (7, 6), (7, 6), (7, 6), (7, 6), (7, 720), (7, 720), (7, 243), (0, 7), (7, 20), (7, 20), (7, 20), (7, 20), (7, 20), (1, 3), (7, 16), (7, 16), (1, 3), (7, 16), (7, 16), (7, 32), (6, 25), (8, 16), (7, 16), (7, 17), (7, 17), (7, 17), (7, 16), (7, 12), (7, 320), (8, 117649), (7, 2000), (7, 2000), (7, 2000), (7, 2000), (7, 6), (7, 6), (7, 2000), (7, 2000), (7, 32)], ci_30, cp_30, ((L, fun j => (xs j).toInt) : PS))) :=
    zstep C (q := (16, [zS, zA 0, zA 32, zU], [], ([(5, 9), (2, 5), (7, 17), (7, 17), (7, 17), (7, 17), (7, 17), (4, 3), (7, 6), (4, 3), (7, 6), (3, 11), (7, 6), (7, 6), (7, 6), (7, 6), (7, 720), (7, 720), (7, 243), (0, 7), (7, 20), (7, 20), (7, 20), (7, 20), (7, 20), (1, 3), (7, 16), (7, 16), (1, 3), (7, 16), (7, 16), (7, 32), (6, 25), (8, 16), (7, 16), (7, 17), (7, 17), (7, 17), (7, 16), (7, 12), (7, 320), (8, 117649), (7, 2000), (7, 2000), (7, 2000), (7, 2000), (7, 6), (7, 6), (7, 2000), (7, 2000), (7, 32)], ci_30, cp_30, ((L, fun j => (xs j).toInt) : PS)))) (by rfl) zch_one zrm3 G16'
  obtain ⟨n6, h6⟩ := ct_9 ((L, fun j => (xs j).toInt) : PS)
  have G12 : zG p l e room_1 s m #[Value.ref b] below meth c (lw_Z below #[Value.ref b] s) 172 True b (fun k => (f k).1, fun k => (f k).2) cI cZ (fun q => s.heap.size ≤ q) 0 0 (fun _ => 0) (12, [zS, zA 0, zU, zU], [zA 32, zA 32], ([(5, 9), (2, 5), (7, 17), (7, 17), (7, 17), (7, 17), (7, 17), (4, 3), (7, 6), (4, 3), (7, 6), (3, 11), (7, 6), (7, 6), (7, 6), (7, 6), (7, 720), (7, 720), (7, 243), (0, 7), (7, 20), (7, 20), (7, 20), (7, 20), (7, 20), (1, 3), (7, 16), (7, 16), (1, 3), (7, 16), (7, 16), (7, 32), (6, 25)], ci_24, cp_24, ((L, fun j => (xs j).toInt) : PS))) :=
    zcallT (r1 := none) (m' := 116) (as := [zA 32]) (rest := [zA 32]) (zmain l n6) C (by rfl) h6 zrm3 G15
  have G11 : zG p l e room_1 s m #[Value.ref b] below meth c (lw_Z below #[Value.ref b] s) 172 True b (fun k => (f k).1, fun k => (f k).2) cI cZ (fun q => s.heap.size ≤ q) 0 0 (fun _ => 0) (11, [zS, zA 0, zU, zU], [zA 32], ([(5, 9), (2, 5), (7, 17), (7, 17), (7, 17), (7, 17), (7, 17), (4, 3), (7, 6), (4, 3), (7, 6), (3, 11), (7, 6), (7, 6), (7, 6), (7, 6), (7, 720), (7, 720), (7, 243), (0, 7), (7, 20), (7, 20), (7, 20), (7, 20), (7, 20), (1, 3), (7, 16), (7, 16), (1, 3), (7, 16), (7, 16), (7, 32), (6, 25)], ci_24, cp_24, ((L, fun j => (xs j).toInt) : PS))) :=
    zstep C (q := (12, [zS, zA 0, zU, zU], [zA 32, zA 32], ([(5, 9), (2, 5), (7, 17), (7, 17), (7, 17), (7, 17), (7, 17), (4, 3), (7, 6), (4, 3), (7, 6), (3, 11), (7, 6), (7, 6), (7, 6), (7, 6), (7, 720), (7, 720), (7, 243), (0, 7), (7, 20), (7, 20), (7, 20), (7, 20), (7, 20), (1, 3), (7, 16), (7, 16), (1, 3), (7, 16), (7, 16), (7, 32), (6, 25)], ci_24, cp_24, ((L, fun j => (xs j).toInt) : PS)))) (by rfl) zch_one zrm2 G12
  have G8 : zG p l e room_1 s m #[Value.ref b] below meth c (lw_Z below #[Value.ref b] s) 172 True b (fun k => (f k).1, fun k => (f k).2) cI cZ (fun q => s.heap.size ≤ q) 0 0 (fun _ => 0) (8, [zS, zA 0, zU, zU], [], ([(5, 9), (2, 5), (7, 17), (7, 17), (7, 17), (7, 17), (7, 17), (4, 3), (7, 6), (4, 3), (7, 6), (3, 11), (7, 6), (7, 6), (7, 6), (7, 6), (7, 720), (7, 720), (7, 243), (0, 7), (7, 20), (7, 20), (7, 20), (7, 20), (7, 20), (1, 3), (7, 16), (7, 16), (1, 3), (7, 16), (7, 16), (7, 32)], ci_23, cp_23, ((L, fun j => (xs j).toInt) : PS))) :=
    zstep C (q := (11, [zS, zA 0, zU, zU], [zA 32], ([(5, 9), (2, 5), (7, 17), (7, 17), (7, 17), (7, 17), (7, 17), (4, 3), (7, 6), (4, 3), (7, 6), (3, 11), (7, 6), (7, 6), (7, 6), (7, 6), (7, 720), (7, 720), (7, 243), (0, 7), (7, 20), (7, 20), (7, 20), (7, 20), (7, 20), (1, 3), (7, 16), (7, 16), (1, 3), (7, 16), (7, 16), (7, 32), (6, 25)], ci_24, cp_24, ((L, fun j => (xs j).toInt) : PS)))) (by rfl) zch_one zrm2 G11
  have G7 : zG p l e room_1 s m #[Value.ref b] below meth c (lw_Z below #[Value.ref b] s) 172 True b (fun k => (f k).1, fun k => (f k).2) cI cZ (fun q => s.heap.size ≤ q) 0 0 (fun _ => 0) (7, [zS, zU, zU, zU], [zA 0], ([(5, 9), (2, 5), (7, 17), (7, 17), (7, 17), (7, 17), (7, 17), (4, 3), (7, 6), (4, 3), (7, 6), (3, 11), (7, 6), (7, 6), (7, 6), (7, 6), (7, 720), (7, 720), (7, 243), (0, 7), (7, 20), (7, 20), (7, 20), (7, 20), (7, 20), (1, 3), (7, 16), (7, 16), (1, 3), (7, 16), (7, 16), (7, 32)], ci_23, cp_23, ((L, fun j => (xs j).toInt) : PS))) :=
    zstep C (q := (8, [zS, zA 0, zU, zU], [], ([(5, 9), (2, 5), (7, 17), (7, 17), (7, 17), (7, 17), (7, 17), (4, 3), (7, 6), (4, 3), (7, 6), (3, 11), (7, 6), (7, 6), (7, 6), (7, 6), (7, 720), (7, 720), (7, 243), (0, 7), (7, 20), (7, 20), (7, 20), (7, 20), (7, 20), (1, 3), (7, 16), (7, 16), (1, 3), (7, 16), (7, 16), (7, 32)], ci_23, cp_23, ((L, fun j => (xs j).toInt) : PS)))) (by rfl) zch_one zrm1 G8
  obtain ⟨n5, h5⟩ := ct_8 ((L, fun j => (xs j).toInt) : PS)
  have G4 : zG p l e room_1 s m #[Value.ref b] below meth c (lw_Z below #[Value.ref b] s) 172 True b (fun k => (f k).1, fun k => (f k).2) cI cZ (fun q => s.heap.size ≤ q) 0 0 (fun _ => 0) (4, [zS, zU, zU, zU], [zA 0, zA 0], ([(5, 9)], ci_1, cp_1, ((L, fun j => (xs j).toInt) : PS))) :=
    zcallT (r1 := none) (m' := 77) (as := [zA 0]) (rest := [zA 0]) (zmain l n5) C (by rfl) h5 zrm1 G7
  have G3 : zG p l e room_1 s m #[Value.ref b] below meth c (lw_Z below #[Value.ref b] s) 172 True b (fun k => (f k).1, fun k => (f k).2) cI cZ (fun q => s.heap.size ≤ q) 0 0 (fun _ => 0) (3, [zS, zU, zU, zU], [zA 0], ([(5, 9)], ci_1, cp_1, ((L, fun j => (xs j).toInt) : PS))) :=
    zstep C (q := (4, [zS, zU, zU, zU], [zA 0, zA 0], ([(5, 9)], ci_1, cp_1, ((L, fun j => (xs j).toInt) : PS)))) (by rfl) zch_one zrm0 G4
  have G0 : zG p l e room_1 s m #[Value.ref b] below meth c (lw_Z below #[Value.ref b] s) 172 True b (fun k => (f k).1, fun k => (f k).2) cI cZ (fun q => s.heap.size ≤ q) 0 0 (fun _ => 0) (zS0 L xs) :=
    zstep C (q := (3, [zS, zU, zU, zU], [zA 0], ([(5, 9)], ci_1, cp_1, ((L, fun j => (xs j).toInt) : PS)))) (by rfl) zch_one zrm0 G3
  rw [lg_entry_eq]
  refine G0 (fun _ => 0) s.heap [] _ 0 0 ?_
  refine ⟨⟨fun i j => zin_0, fun i j r h => (by cases h), fun k sh h => (by simp [zS0] at h), by show L < 2 ^ 31; omega, fun j => zin_I _⟩, fun k q h => (by simp [zw, zS0] at h), ⟨fun i j p q h => (by simp [zw, zS0] at h), fun k q h => (by simp [zw, zS0] at h)⟩, va_S.rf, ?_, fun v hv => (by cases hv), rfl, rfl, fun k h => absurd h (by omega), fun _ => ⟨?_, hbl, Nat.not_le.mpr hbl⟩⟩
  · exact zls_entry (as := [zS]) (b := b) (ad := fun _ => 0) (by show 1 ≤ 4; omega) (fun v hv => by rcases List.mem_singleton.mp hv with rfl; trivial)
  · show va_X b L (fun j => Int32.ofInt (xs j).toInt) s s.heap
    have : (fun j => Int32.ofInt (xs j).toInt) = xs := by funext j; exact zofI _
    rw [this]
    exact hX
end
section
/-! the rules' own methods -/
theorem zcd {c : Prop} [Decidable c] {A B : Prop} (h1 : c → A) (h2 : ¬ c → B) : cond (decide c) A B := by
  by_cases h : c
  · rw [decide_eq_true h]; exact h1 h
  · rw [decide_eq_false h]; exact h2 h
theorem zgd {i : Int} {n : Nat} {A : Prop} (h : 0 ≤ i ∧ i < (n : Int)) (a : A) : cond (zib i n) A False := by
  rw [zib_iff.mpr h]; exact a
theorem zgb {x : Int} {A : Prop} (h : x = 0 ∨ x = 1) (a : A) : cond (zbb x) A False := by
  have : zbb x = true := by simpa [zbb] using h
  rw [this]; exact a
theorem zgdb {i x : Int} {n : Nat} {A : Prop} (h : 0 ≤ i ∧ i < (n : Int)) (hx : x = 0 ∨ x = 1) (a : A) : cond (zib i n && zbb x) A False := by
  have : zbb x = true := by simpa [zbb] using hx
  rw [this, zib_iff.mpr h]; exact a
theorem zgn {y : Int} {A : Prop} (h : y ≠ 0) (a : A) : cond (!decide (y = 0)) A False := by
  rw [decide_eq_false h]; exact a
def zB (p : Prop) [Decidable p] : Int := if p then 1 else 0
theorem zB0 {p : Prop} [Decidable p] : zB p = 0 ↔ ¬ p := by by_cases h : p <;> simp [zB, h]
theorem zB_t {p : Prop} [Decidable p] (h : p) : zB p = 1 := if_pos h
theorem zB_f {p : Prop} [Decidable p] (h : ¬ p) : zB p = 0 := if_neg h
theorem zB01 {p : Prop} [Decidable p] : zB p = 0 ∨ zB p = 1 := by by_cases h : p <;> simp [zB, h]
theorem zB_iff {p q : Prop} [Decidable p] [Decidable q] (h : p ↔ q) : zB p = zB q := by
  by_cases hp : p
  · rw [zB_t hp, zB_t (h.mp hp)]
  · rw [zB_f hp, zB_f (fun w => hp (h.mpr w))]
theorem zcdB {p : Prop} [Decidable p] {A B : Prop} (h1 : ¬ p → A) (h2 : p → B) : cond (decide (zB p = 0)) A B := zcd (fun h => h1 (zB0.mp h)) (fun h => h2 (Classical.not_not.mp (fun w => h (zB0.mpr w))))
theorem zq {Q : PV1 → Prop} {a b : Int} {h h' : PH} (hQ : Q (some (zI a), h)) (e : a = b) (e2 : h = h') : Q (some (zI b), h') := e ▸ e2 ▸ hQ
theorem zqn {Q : PV1 → Prop} {h h' : PH} (hQ : Q (none, h)) (e2 : h = h') : Q (none, h') := e2 ▸ hQ
theorem zad_s {i : Nat} (h : i < 2147483647) : zad (i : Int) 1 = ((i + 1 : Nat) : Int) := by rw [zad_eq (by omega)]; omega
/-- a loop, by its rounds -/
theorem Wp_loop {m : Nat} {Q : PV1 → Prop} (N : Nat) (T : Nat → PT → Prop) (hs : ∀ i t, i < N → T i t → (∀ t', T (i + 1) t' → Wp m t' Q) → Wp m t Q) (he : ∀ t, T N t → Wp m t Q) : ∀ (i : Nat) (t : PT), i ≤ N → T i t → Wp m t Q := by
  intro i
  generalize hk : N - i = k
  induction k generalizing i with
  | zero => intro t hi ht; have : i = N := by omega
            subst this; exact he t ht
  | succ k ih => intro t hi ht; exact hs i t (by omega) ht (fun t' ht' => ih (i + 1) (by omega) t' (by omega) ht')
abbrev num (r : Int) : Prop := 0 ≤ r ∧ r ≤ 16

theorem c_isNumber {S : PS} {I : Nat → Nat → Int} {Q : PV1 → Prop} {u0 : PV} {r : Int}  (hQ : Q (some (zI (zB (num r))), zH S I)) : Wp 22 (0, [u0, zI r], [], zH S I) Q := by
  refine (sg_X2_isNumber_0 _ _ _ _ _).mpr ?_
  first | refine zcdB (fun h1 => ?_) (fun h1 => ?_) | refine zcd (fun h1 => ?_) (fun h1 => ?_)
  · refine zgb (by first | omega | simp) ?_
    first | exact hQ | exact zq hQ (zB_t (by omega)) rfl | exact zq hQ (zB_f (by omega)) rfl | exact zq hQ (if_pos (by omega)) rfl | exact zq hQ (if_neg (by omega)) rfl | exact zqn hQ rfl
  · first | refine zcdB (fun h2 => ?_) (fun h2 => ?_) | refine zcd (fun h2 => ?_) (fun h2 => ?_)
    · refine zgb (by first | omega | simp) ?_
      first | exact hQ | exact zq hQ (zB_t (by omega)) rfl | exact zq hQ (zB_f (by omega)) rfl | exact zq hQ (if_pos (by omega)) rfl | exact zq hQ (if_neg (by omega)) rfl | exact zqn hQ rfl
    · refine zgb (by first | omega | simp) ?_
      first | exact hQ | exact zq hQ (zB_t (by omega)) rfl | exact zq hQ (zB_f (by omega)) rfl | exact zq hQ (if_pos (by omega)) rfl | exact zq hQ (if_neg (by omega)) rfl | exact zqn hQ rfl
theorem c_isInUse {S : PS} {I : Nat → Nat → Int} {Q : PV1 → Prop} {r : Int}  (hQ : Q (some (zI (zB (0 ≤ r ∧ r < 16 ∧ I 2 r.toNat ≠ -1))), zH S I)) : Wp 23 (0, [zA 1, zI r], [], zH S I) Q := by
  refine (sg_X2_isInUse_0_1 _ _ _ _).mpr ?_
  first | refine zcdB (fun h1 => ?_) (fun h1 => ?_) | refine zcd (fun h1 => ?_) (fun h1 => ?_)
  · refine zgb (by first | omega | simp) ?_
    first | exact hQ | exact zq hQ (zB_t (by omega)) rfl | exact zq hQ (zB_f (by omega)) rfl | exact zq hQ (if_pos (by omega)) rfl | exact zq hQ (if_neg (by omega)) rfl | exact zqn hQ rfl
  · first | refine zcdB (fun h2 => ?_) (fun h2 => ?_) | refine zcd (fun h2 => ?_) (fun h2 => ?_)
    · refine zgd (by first | omega | simp) ?_
      first | refine zcdB (fun h3 => ?_) (fun h3 => ?_) | refine zcd (fun h3 => ?_) (fun h3 => ?_)
      · refine zgb (by first | omega | simp) ?_
        first | exact hQ | exact zq hQ (zB_t (by omega)) rfl | exact zq hQ (zB_f (by omega)) rfl | exact zq hQ (if_pos (by omega)) rfl | exact zq hQ (if_neg (by omega)) rfl | exact zqn hQ rfl
      · refine zgb (by first | omega | simp) ?_
        first | exact hQ | exact zq hQ (zB_t (by omega)) rfl | exact zq hQ (zB_f (by omega)) rfl | exact zq hQ (if_pos (by omega)) rfl | exact zq hQ (if_neg (by omega)) rfl | exact zqn hQ rfl
    · refine zgb (by first | omega | simp) ?_
      first | exact hQ | exact zq hQ (zB_t (by omega)) rfl | exact zq hQ (zB_f (by omega)) rfl | exact zq hQ (if_pos (by omega)) rfl | exact zq hQ (if_neg (by omega)) rfl | exact zqn hQ rfl
theorem c_kindOf {S : PS} {I : Nat → Nat → Int} {Q : PV1 → Prop} {r : Int}  (hQ : Q (some (zI (if num r then I 2 r.toNat else (-1))), zH S I)) : Wp 29 (0, [zA 1, zI r], [], zH S I) Q := by
  refine (sg_X2_kindOf_0_1 _ _ _ _).mpr ?_
  refine c_isNumber ?_
  refine (sg_X2_kindOf_5_1 _ _ _ _ _).mpr ?_
  first | refine zcdB (fun h1 => ?_) (fun h1 => ?_) | refine zcd (fun h1 => ?_) (fun h1 => ?_)
  · first | exact hQ | exact zq hQ (zB_t (by omega)) rfl | exact zq hQ (zB_f (by omega)) rfl | exact zq hQ (if_pos (by omega)) rfl | exact zq hQ (if_neg (by omega)) rfl | exact zqn hQ rfl
  · refine zgd (by first | omega | simp) ?_
    first | exact hQ | exact zq hQ (zB_t (by omega)) rfl | exact zq hQ (zB_f (by omega)) rfl | exact zq hQ (if_pos (by omega)) rfl | exact zq hQ (if_neg (by omega)) rfl | exact zqn hQ rfl
theorem c_maskOf {S : PS} {I : Nat → Nat → Int} {Q : PV1 → Prop} {r : Int}  (hQ : Q (some (zI (if num r then I 4 r.toNat else 0)), zH S I)) : Wp 31 (0, [zA 1, zI r], [], zH S I) Q := by
  refine (sg_X2_maskOf_0_1 _ _ _ _).mpr ?_
  refine c_isNumber ?_
  refine (sg_X2_maskOf_5_1 _ _ _ _ _).mpr ?_
  first | refine zcdB (fun h1 => ?_) (fun h1 => ?_) | refine zcd (fun h1 => ?_) (fun h1 => ?_)
  · first | exact hQ | exact zq hQ (zB_t (by omega)) rfl | exact zq hQ (zB_f (by omega)) rfl | exact zq hQ (if_pos (by omega)) rfl | exact zq hQ (if_neg (by omega)) rfl | exact zqn hQ rfl
  · refine zgd (by first | omega | simp) ?_
    first | exact hQ | exact zq hQ (zB_t (by omega)) rfl | exact zq hQ (zB_f (by omega)) rfl | exact zq hQ (if_pos (by omega)) rfl | exact zq hQ (if_neg (by omega)) rfl | exact zqn hQ rfl
theorem c_rankOf {S : PS} {I : Nat → Nat → Int} {Q : PV1 → Prop} {r : Int}  (hQ : Q (some (zI (if num r then I 5 r.toNat else 0)), zH S I)) : Wp 32 (0, [zA 1, zI r], [], zH S I) Q := by
  refine (sg_X2_rankOf_0_1 _ _ _ _).mpr ?_
  refine c_isNumber ?_
  refine (sg_X2_rankOf_5_1 _ _ _ _ _).mpr ?_
  first | refine zcdB (fun h1 => ?_) (fun h1 => ?_) | refine zcd (fun h1 => ?_) (fun h1 => ?_)
  · first | exact hQ | exact zq hQ (zB_t (by omega)) rfl | exact zq hQ (zB_f (by omega)) rfl | exact zq hQ (if_pos (by omega)) rfl | exact zq hQ (if_neg (by omega)) rfl | exact zqn hQ rfl
  · refine zgd (by first | omega | simp) ?_
    first | exact hQ | exact zq hQ (zB_t (by omega)) rfl | exact zq hQ (zB_f (by omega)) rfl | exact zq hQ (if_pos (by omega)) rfl | exact zq hQ (if_neg (by omega)) rfl | exact zqn hQ rfl
theorem c_actOf {S : PS} {I : Nat → Nat → Int} {Q : PV1 → Prop} {r : Int}  (hQ : Q (some (zI (if num r then I 6 r.toNat else (-1))), zH S I)) : Wp 33 (0, [zA 1, zI r], [], zH S I) Q := by
  refine (sg_X2_actOf_0_1 _ _ _ _).mpr ?_
  refine c_isNumber ?_
  refine (sg_X2_actOf_5_1 _ _ _ _ _).mpr ?_
  first | refine zcdB (fun h1 => ?_) (fun h1 => ?_) | refine zcd (fun h1 => ?_) (fun h1 => ?_)
  · first | exact hQ | exact zq hQ (zB_t (by omega)) rfl | exact zq hQ (zB_f (by omega)) rfl | exact zq hQ (if_pos (by omega)) rfl | exact zq hQ (if_neg (by omega)) rfl | exact zqn hQ rfl
  · refine zgd (by first | omega | simp) ?_
    first | exact hQ | exact zq hQ (zB_t (by omega)) rfl | exact zq hQ (zB_f (by omega)) rfl | exact zq hQ (if_pos (by omega)) rfl | exact zq hQ (if_neg (by omega)) rfl | exact zqn hQ rfl
theorem c_valueOf {S : PS} {I : Nat → Nat → Int} {Q : PV1 → Prop} {r : Int}  (hQ : Q (some (zI (if num r then zan (I 3 r.toNat) (I 4 r.toNat) else 0)), zH S I)) : Wp 30 (0, [zA 1, zI r], [], zH S I) Q := by
  refine (sg_X2_valueOf_0_1 _ _ _ _).mpr ?_
  refine c_isNumber ?_
  refine (sg_X2_valueOf_5_1 _ _ _ _ _).mpr ?_
  first | refine zcdB (fun h1 => ?_) (fun h1 => ?_) | refine zcd (fun h1 => ?_) (fun h1 => ?_)
  · first | exact hQ | exact zq hQ (zB_t (by omega)) rfl | exact zq hQ (zB_f (by omega)) rfl | exact zq hQ (if_pos (by omega)) rfl | exact zq hQ (if_neg (by omega)) rfl | exact zqn hQ rfl
  · refine zgd (by first | omega | simp) ?_
    refine zgd (by first | omega | simp) ?_
    first | exact hQ | exact zq hQ (zB_t (by omega)) rfl | exact zq hQ (zB_f (by omega)) rfl | exact zq hQ (if_pos (by omega)) rfl | exact zq hQ (if_neg (by omega)) rfl | exact zqn hQ rfl
theorem c_doesFit {S : PS} {I : Nat → Nat → Int} {Q : PV1 → Prop} {r : Int} {k : Int}  (hQ : Q (some (zI (zB (num r ∧ zan (zxr (I 3 r.toNat) k) (I 4 r.toNat) = 0))), zH S I)) : Wp 34 (0, [zA 1, zI r, zI k], [], zH S I) Q := by
  refine (sg_X2_doesFit_0_1 _ _ _ _ _).mpr ?_
  refine c_isNumber ?_
  refine (sg_X2_doesFit_5_1 _ _ _ _ _ _).mpr ?_
  first | refine zcdB (fun h1 => ?_) (fun h1 => ?_) | refine zcd (fun h1 => ?_) (fun h1 => ?_)
  · refine zgb (by first | omega | simp) ?_
    first | exact hQ | exact zq hQ (zB_t (by omega)) rfl | exact zq hQ (zB_f (by omega)) rfl | exact zq hQ (if_pos (by omega)) rfl | exact zq hQ (if_neg (by omega)) rfl | exact zqn hQ rfl
  · refine zgd (by first | omega | simp) ?_
    refine zgd (by first | omega | simp) ?_
    first | refine zcdB (fun h2 => ?_) (fun h2 => ?_) | refine zcd (fun h2 => ?_) (fun h2 => ?_)
    · refine zgb (by first | omega | simp) ?_
      first | exact hQ | exact zq hQ (zB_t (by omega)) rfl | exact zq hQ (zB_f (by omega)) rfl | exact zq hQ (if_pos (by omega)) rfl | exact zq hQ (if_neg (by omega)) rfl | exact zqn hQ rfl
    · refine zgb (by first | omega | simp) ?_
      first | exact hQ | exact zq hQ (zB_t (by omega)) rfl | exact zq hQ (zB_f (by omega)) rfl | exact zq hQ (if_pos (by omega)) rfl | exact zq hQ (if_neg (by omega)) rfl | exact zqn hQ rfl
theorem c_doOverlap {S : PS} {I : Nat → Nat → Int} {Q : PV1 → Prop} {a : Int} {b : Int}  (hQ : Q (some (zI (zB (num a ∧ num b ∧ zan (zan (zxr (I 3 a.toNat) (I 3 b.toNat)) (I 4 a.toNat)) (I 4 b.toNat) = 0))), zH S I)) : Wp 35 (0, [zA 1, zI a, zI b], [], zH S I) Q := by
  refine (sg_X2_doOverlap_0_1 _ _ _ _ _).mpr ?_
  refine c_isNumber ?_
  refine (sg_X2_doOverlap_5_1 _ _ _ _ _ _).mpr ?_
  first | refine zcdB (fun h1 => ?_) (fun h1 => ?_) | refine zcd (fun h1 => ?_) (fun h1 => ?_)
  · refine zgb (by first | omega | simp) ?_
    first | exact hQ | exact zq hQ (zB_t (by omega)) rfl | exact zq hQ (zB_f (by omega)) rfl | exact zq hQ (if_pos (by omega)) rfl | exact zq hQ (if_neg (by omega)) rfl | exact zqn hQ rfl
  · refine c_isNumber ?_
    refine (sg_X2_doOverlap_13_1 _ _ _ _ _ _).mpr ?_
    first | refine zcdB (fun h2 => ?_) (fun h2 => ?_) | refine zcd (fun h2 => ?_) (fun h2 => ?_)
    · refine zgb (by first | omega | simp) ?_
      first | exact hQ | exact zq hQ (zB_t (by omega)) rfl | exact zq hQ (zB_f (by omega)) rfl | exact zq hQ (if_pos (by omega)) rfl | exact zq hQ (if_neg (by omega)) rfl | exact zqn hQ rfl
    · refine zgd (by first | omega | simp) ?_
      refine zgd (by first | omega | simp) ?_
      refine zgd (by first | omega | simp) ?_
      refine zgd (by first | omega | simp) ?_
      first | refine zcdB (fun h3 => ?_) (fun h3 => ?_) | refine zcd (fun h3 => ?_) (fun h3 => ?_)
      · refine zgb (by first | omega | simp) ?_
        first | exact hQ | exact zq hQ (zB_t (by omega)) rfl | exact zq hQ (zB_f (by omega)) rfl | exact zq hQ (if_pos (by omega)) rfl | exact zq hQ (if_neg (by omega)) rfl | exact zqn hQ rfl
      · refine zgb (by first | omega | simp) ?_
        first | exact hQ | exact zq hQ (zB_t (by omega)) rfl | exact zq hQ (zB_f (by omega)) rfl | exact zq hQ (if_pos (by omega)) rfl | exact zq hQ (if_neg (by omega)) rfl | exact zqn hQ rfl
theorem c_isHigher {S : PS} {I : Nat → Nat → Int} {Q : PV1 → Prop} {a : Int} {b : Int}  (hQ : Q (some (zI (zB (num a ∧ num b ∧ (I 5 b.toNat < I 5 a.toNat ∨ (I 5 a.toNat = I 5 b.toNat ∧ a < b))))), zH S I)) : Wp 36 (0, [zA 1, zI a, zI b], [], zH S I) Q := by
  refine (sg_X2_isHigher_0_1 _ _ _ _ _).mpr ?_
  refine c_isNumber ?_
  refine (sg_X2_isHigher_5_1 _ _ _ _ _ _).mpr ?_
  first | refine zcdB (fun h1 => ?_) (fun h1 => ?_) | refine zcd (fun h1 => ?_) (fun h1 => ?_)
  · refine zgb (by first | omega | simp) ?_
    first | exact hQ | exact zq hQ (zB_t (by omega)) rfl | exact zq hQ (zB_f (by omega)) rfl | exact zq hQ (if_pos (by omega)) rfl | exact zq hQ (if_neg (by omega)) rfl | exact zqn hQ rfl
  · refine c_isNumber ?_
    refine (sg_X2_isHigher_13_1 _ _ _ _ _ _).mpr ?_
    first | refine zcdB (fun h2 => ?_) (fun h2 => ?_) | refine zcd (fun h2 => ?_) (fun h2 => ?_)
    · refine zgb (by first | omega | simp) ?_
      first | exact hQ | exact zq hQ (zB_t (by omega)) rfl | exact zq hQ (zB_f (by omega)) rfl | exact zq hQ (if_pos (by omega)) rfl | exact zq hQ (if_neg (by omega)) rfl | exact zqn hQ rfl
    · refine zgd (by first | omega | simp) ?_
      refine zgd (by first | omega | simp) ?_
      first | refine zcdB (fun h3 => ?_) (fun h3 => ?_) | refine zcd (fun h3 => ?_) (fun h3 => ?_)
      · refine zgb (by first | omega | simp) ?_
        first | exact hQ | exact zq hQ (zB_t (by omega)) rfl | exact zq hQ (zB_f (by omega)) rfl | exact zq hQ (if_pos (by omega)) rfl | exact zq hQ (if_neg (by omega)) rfl | exact zqn hQ rfl
      · refine zgd (by first | omega | simp) ?_
        refine zgd (by first | omega | simp) ?_
        first | refine zcdB (fun h4 => ?_) (fun h4 => ?_) | refine zcd (fun h4 => ?_) (fun h4 => ?_)
        · first | refine zcdB (fun h5 => ?_) (fun h5 => ?_) | refine zcd (fun h5 => ?_) (fun h5 => ?_)
          · refine zgb (by first | omega | simp) ?_
            first | exact hQ | exact zq hQ (zB_t (by omega)) rfl | exact zq hQ (zB_f (by omega)) rfl | exact zq hQ (if_pos (by omega)) rfl | exact zq hQ (if_neg (by omega)) rfl | exact zqn hQ rfl
          · refine zgb (by first | omega | simp) ?_
            first | exact hQ | exact zq hQ (zB_t (by omega)) rfl | exact zq hQ (zB_f (by omega)) rfl | exact zq hQ (if_pos (by omega)) rfl | exact zq hQ (if_neg (by omega)) rfl | exact zqn hQ rfl
        · refine zgb (by first | omega | simp) ?_
          first | exact hQ | exact zq hQ (zB_t (by omega)) rfl | exact zq hQ (zB_f (by omega)) rfl | exact zq hQ (if_pos (by omega)) rfl | exact zq hQ (if_neg (by omega)) rfl | exact zqn hQ rfl
theorem c_setMask {S : PS} {I : Nat → Nat → Int} {Q : PV1 → Prop} {r : Int} {x : Int}  (hQ : Q (none, zH S (if num r then zs2 I 4 r.toNat x else I))) : Wp 27 (0, [zA 1, zI r, zI x], [], zH S I) Q := by
  refine (sg_X2_setMask_0_1 _ _ _ _ _).mpr ?_
  refine c_isNumber ?_
  refine (sg_X2_setMask_5_1 _ _ _ _ _ _).mpr ?_
  first | refine zcdB (fun h1 => ?_) (fun h1 => ?_) | refine zcd (fun h1 => ?_) (fun h1 => ?_)
  · first | exact hQ | (rw [if_pos (by omega)] at hQ; exact hQ) | (rw [if_neg (by omega)] at hQ; exact hQ)
  · refine zgd (by first | omega | simp) ?_
    first | exact hQ | (rw [if_pos (by omega)] at hQ; exact hQ) | (rw [if_neg (by omega)] at hQ; exact hQ)
theorem c_setAct {S : PS} {I : Nat → Nat → Int} {Q : PV1 → Prop} {r : Int} {x : Int}  (hQ : Q (none, zH S (if num r then zs2 I 6 r.toNat x else I))) : Wp 28 (0, [zA 1, zI r, zI x], [], zH S I) Q := by
  refine (sg_X2_setAct_0_1 _ _ _ _ _).mpr ?_
  refine c_isNumber ?_
  refine (sg_X2_setAct_5_1 _ _ _ _ _ _).mpr ?_
  first | refine zcdB (fun h1 => ?_) (fun h1 => ?_) | refine zcd (fun h1 => ?_) (fun h1 => ?_)
  · first | exact hQ | (rw [if_pos (by omega)] at hQ; exact hQ) | (rw [if_neg (by omega)] at hQ; exact hQ)
  · refine zgd (by first | omega | simp) ?_
    first | exact hQ | (rw [if_pos (by omega)] at hQ; exact hQ) | (rw [if_neg (by omega)] at hQ; exact hQ)
theorem c_forget {S : PS} {I : Nat → Nat → Int} {Q : PV1 → Prop} {r : Int}  (hQ : Q (none, zH S (if num r then zs2 I 2 r.toNat (-1) else I))) : Wp 21 (0, [zA 1, zI r], [], zH S I) Q := by
  refine (sg_X2_forget_0_1 _ _ _ _).mpr ?_
  refine c_isNumber ?_
  refine (sg_X2_forget_5_1 _ _ _ _ _).mpr ?_
  first | refine zcdB (fun h1 => ?_) (fun h1 => ?_) | refine zcd (fun h1 => ?_) (fun h1 => ?_)
  · first | exact hQ | (rw [if_pos (by omega)] at hQ; exact hQ) | (rw [if_neg (by omega)] at hQ; exact hQ)
  · refine zgd (by first | omega | simp) ?_
    first | exact hQ | (rw [if_pos (by omega)] at hQ; exact hQ) | (rw [if_neg (by omega)] at hQ; exact hQ)
theorem c_set {S : PS} {I : Nat → Nat → Int} {Q : PV1 → Prop} {r : Int} {k : Int} {v : Int} {mk : Int} {rk : Int} {ac : Int}  (hQ : Q (none, zH S (if num r then zs2 (zs2 (zs2 (zs2 (zs2 I 2 r.toNat k) 3 r.toNat v) 4 r.toNat mk) 5 r.toNat rk) 6 r.toNat ac else I))) : Wp 26 (0, [zA 1, zI r, zI k, zI v, zI mk, zI rk, zI ac], [], zH S I) Q := by
  refine (sg_X2_set_0_1 _ _ _ _ _ _ _ _ _).mpr ?_
  refine c_isNumber ?_
  refine (sg_X2_set_5_1 _ _ _ _ _ _ _ _ _ _).mpr ?_
  first | refine zcdB (fun h1 => ?_) (fun h1 => ?_) | refine zcd (fun h1 => ?_) (fun h1 => ?_)
  · first | exact hQ | (rw [if_pos (by omega)] at hQ; exact hQ) | (rw [if_neg (by omega)] at hQ; exact hQ)
  · refine zgd (by first | omega | simp) ?_
    refine zgd (by first | omega | simp) ?_
    refine zgd (by first | omega | simp) ?_
    refine zgd (by first | omega | simp) ?_
    refine zgd (by first | omega | simp) ?_
    first | exact hQ | (rw [if_pos (by omega)] at hQ; exact hQ) | (rw [if_neg (by omega)] at hQ; exact hQ)
end
section
/-! counting and finding; the JDK's methods; the rules' loops -/
theorem zmax_ok {S : PS} {I : Nat → Nat → Int} {Q : PV1 → Prop} {a b : Int} (hQ : Q (some (zI (max a b)), zH S I)) : Wp 169 (0, [zI a, zI b], [], zH S I) Q := by
  refine (sg_J9_max_7cf53_0 _ _ _ _ _).mpr ?_
  refine zcd (fun h => ?_) (fun h => ?_)
  · exact zq hQ (by omega) rfl
  · exact zq hQ (by omega) rfl
theorem zmin_ok {S : PS} {I : Nat → Nat → Int} {Q : PV1 → Prop} {a b : Int} (hQ : Q (some (zI (min a b)), zH S I)) : Wp 170 (0, [zI a, zI b], [], zH S I) Q := by
  refine (sg_J9_min_7cf53_0 _ _ _ _ _).mpr ?_
  refine zcd (fun h => ?_) (fun h => ?_)
  · exact zq hQ (by omega) rfl
  · exact zq hQ (by omega) rfl
theorem c_fill {S : PS} {I : Nat → Nat → Int} {Q : PV1 → Prop} {r n : Nat} {x : Int} {u v : PV} (hr : zSH[r]? = some (7, n)) (hn : n < 1000000) (hu : u = zU) (hv : v = zU) (hQ : Q (none, zH S (zfill I r n x))) : Wp 171 (0, [zA r, zI x, u, v], [], zH S I) Q := by
  subst hu; subst hv
  exact Wp_of (Run_fill (h := zH S I) hr (Nat.zero_le n) hn) hQ
def zcnt (P : Nat → Prop) [DecidablePred P] : Nat → Nat
  | 0 => 0
  | n + 1 => zcnt P n + (if P n then 1 else 0)
theorem zcnt_le (P : Nat → Prop) [DecidablePred P] : ∀ n, zcnt P n ≤ n
  | 0 => Nat.le_refl 0
  | n + 1 => by
    have := zcnt_le P n
    simp only [zcnt]
    split <;> omega
theorem zcnt_congr {P P' : Nat → Prop} [DecidablePred P] [DecidablePred P'] : ∀ n, (∀ i, i < n → (P i ↔ P' i)) → zcnt P n = zcnt P' n
  | 0, _ => rfl
  | n + 1, h => by
    simp only [zcnt]
    rw [zcnt_congr n (fun i hi => h i (by omega))]
    by_cases hp : P n
    · rw [if_pos hp, if_pos ((h n (by omega)).mp hp)]
    · rw [if_neg hp, if_neg (fun w => hp ((h n (by omega)).mpr w))]
/-- the first place from i on, of k, that has P; -1 -/
def zfs (P : Nat → Prop) [DecidablePred P] : Nat → Nat → Int
  | 0, _ => -1
  | k + 1, i => if P i then (i : Int) else zfs P k (i + 1)
theorem zfs_congr {P P' : Nat → Prop} [DecidablePred P] [DecidablePred P'] : ∀ k i, (∀ j, i ≤ j → j < i + k → (P j ↔ P' j)) → zfs P k i = zfs P' k i
  | 0, _, _ => rfl
  | k + 1, i, h => by
    simp only [zfs]
    rw [zfs_congr k (i + 1) (fun j h1 h2 => h j (by omega) (by omega))]
    by_cases hp : P i
    · rw [if_pos hp, if_pos ((h i (by omega) (by omega)).mp hp)]
    · rw [if_neg hp, if_neg (fun w => hp ((h i (by omega) (by omega)).mpr w))]
theorem zfs_spec {P : Nat → Prop} [DecidablePred P] : ∀ k i, (zfs P k i = -1 ∧ ∀ j, i ≤ j → j < i + k → ¬ P j) ∨ ∃ j : Nat, zfs P k i = (j : Int) ∧ i ≤ j ∧ j < i + k ∧ P j ∧ ∀ q, i ≤ q → q < j → ¬ P q
  | 0, i => Or.inl ⟨rfl, fun j h1 h2 => by omega⟩
  | k + 1, i => by
    simp only [zfs]
    by_cases hp : P i
    · rw [if_pos hp]
      exact Or.inr ⟨i, rfl, Nat.le_refl i, by omega, hp, fun q h1 h2 => by omega⟩
    · rw [if_neg hp]
      rcases zfs_spec (P := P) k (i + 1) with ⟨h1, h2⟩ | ⟨j, h1, h2, h3, h4, h5⟩
      · refine Or.inl ⟨h1, fun j g1 g2 => ?_⟩
        by_cases e : j = i
        · subst e; exact hp
        · exact h2 j (by omega) (by omega)
      · refine Or.inr ⟨j, h1, by omega, by omega, h4, fun q g1 g2 => ?_⟩
        by_cases e : q = i
        · subst e; exact hp
        · exact h5 q (by omega) g2

theorem l_leastUnused {S : PS} {I : Nat → Nat → Int} {Q : PV1 → Prop}   : ∀ (k i : Nat), i + k = 16 →  Q (some (zI (zfs (fun r => I 2 r = -1) k i)), zH S I) → Wp 25 (2, [zA 1, zI ((i : Int))], [], zH S I) Q := by
  intro k
  induction k with
  | zero =>
    intro i hi hQ
    refine (sg_X2_leastUnused_2_1 _ _ _ _).mpr ?_
    try simp only [Int.toNat_natCast]
    first | refine zcdB (fun h1 => ?_) (fun h1 => ?_) | refine zcd (fun h1 => ?_) (fun h1 => ?_)
    · refine zgd (by first | omega | simp) ?_
      first | refine zcdB (fun h2 => ?_) (fun h2 => ?_) | refine zcd (fun h2 => ?_) (fun h2 => ?_)
      · first | (exfalso; omega) | exact hQ | (rw [if_pos (by assumption)] at hQ; exact hQ)
      · exfalso; omega
    · first | (exfalso; omega) | exact hQ | (rw [if_pos (by assumption)] at hQ; exact hQ)
  | succ k ih =>
    intro i hi hQ
    simp only [zfs] at hQ
    refine (sg_X2_leastUnused_2_1 _ _ _ _).mpr ?_
    try simp only [Int.toNat_natCast]
    first | refine zcdB (fun h1 => ?_) (fun h1 => ?_) | refine zcd (fun h1 => ?_) (fun h1 => ?_)
    · refine zgd (by first | omega | simp) ?_
      first | refine zcdB (fun h2 => ?_) (fun h2 => ?_) | refine zcd (fun h2 => ?_) (fun h2 => ?_)
      · first | (exfalso; omega) | exact hQ | (rw [if_pos (by assumption)] at hQ; exact hQ)
      · rw [zad_s (by omega)]
        exact ih (i + 1) (by omega) (by first | exact hQ | (rw [if_neg (by assumption)] at hQ; exact hQ))
    · first | (exfalso; omega) | exact hQ | (rw [if_pos (by assumption)] at hQ; exact hQ)
theorem c_leastUnused {S : PS} {I : Nat → Nat → Int} {Q : PV1 → Prop} {u1 : PV}  (hQ : Q (some (zI (zfs (fun r => I 2 r = -1) 16 0)), zH S I)) : Wp 25 (0, [zA 1, u1], [], zH S I) Q := by
  refine (sg_X2_leastUnused_0_1 _ _ _ _).mpr ?_
  exact l_leastUnused 16 0 rfl hQ
theorem zcnt_t {P : Nat → Prop} [DecidablePred P] {i : Nat} (h : P i) (hb : i < 2147483647) : ((zcnt P (i + 1) : Nat) : Int) = zad ((zcnt P i : Nat) : Int) 1 := by
  have := zcnt_le P i
  rw [zad_s (by omega)]
  simp only [zcnt, if_pos h]
theorem zcnt_f {P : Nat → Prop} [DecidablePred P] {i : Nat} (h : ¬ P i) : ((zcnt P (i + 1) : Nat) : Int) = ((zcnt P i : Nat) : Int) := by
  simp only [zcnt, if_neg h, Nat.add_zero]
/-- what stands at the first place that has P -/
def zfv (P : Nat → Prop) [DecidablePred P] (f : Nat → Int) (d : Int) : Nat → Nat → Int
  | 0, _ => d
  | k + 1, i => if P i then f i else zfv P f d k (i + 1)
theorem zfv_congr {P P' : Nat → Prop} [DecidablePred P] [DecidablePred P'] {f f' : Nat → Int} {d : Int} : ∀ k i, (∀ j, i ≤ j → j < i + k → (P j ↔ P' j)) → (∀ j, i ≤ j → j < i + k → P j → f j = f' j) → zfv P f d k i = zfv P' f' d k i
  | 0, _, _, _ => rfl
  | k + 1, i, h, g => by
    simp only [zfv]
    rw [zfv_congr k (i + 1) (fun j h1 h2 => h j (by omega) (by omega)) (fun j h1 h2 => g j (by omega) (by omega))]
    by_cases hp : P i
    · rw [if_pos hp, if_pos ((h i (by omega) (by omega)).mp hp), g i (by omega) (by omega) hp]
    · rw [if_neg hp, if_neg (fun w => hp ((h i (by omega) (by omega)).mpr w))]
def zfold (F : Nat → Int → Int) (a : Int) : Nat → Int
  | 0 => a
  | i + 1 => F i (zfold F a i)

theorem l_unused {S : PS} {I : Nat → Nat → Int} {Q : PV1 → Prop}   : ∀ (k i : Nat), i + k = 16 →  Q (some (zI (((zcnt (fun r => I 2 r = -1) 16 : Nat) : Int))), zH S I) → Wp 24 (4, [zA 1, zI (((zcnt (fun r => I 2 r = -1) i : Nat) : Int)), zI ((i : Int))], [], zH S I) Q := by
  intro k
  induction k with
  | zero =>
    intro i hi hQ
    refine (sg_X2_unused_4_1 _ _ _ _ _).mpr ?_
    try simp only [Int.toNat_natCast]
    first | refine zcdB (fun h1 => ?_) (fun h1 => ?_) | refine zcd (fun h1 => ?_) (fun h1 => ?_)
    · refine zgd (by first | omega | simp) ?_
      first | refine zcdB (fun h2 => ?_) (fun h2 => ?_) | refine zcd (fun h2 => ?_) (fun h2 => ?_)
      · exfalso; omega
      · exfalso; omega
    · first | (exfalso; omega) | (obtain rfl : i = 16 := (by omega); exact hQ)
  | succ k ih =>
    intro i hi hQ
    refine (sg_X2_unused_4_1 _ _ _ _ _).mpr ?_
    try simp only [Int.toNat_natCast]
    first | refine zcdB (fun h1 => ?_) (fun h1 => ?_) | refine zcd (fun h1 => ?_) (fun h1 => ?_)
    · refine zgd (by first | omega | simp) ?_
      first | refine zcdB (fun h2 => ?_) (fun h2 => ?_) | refine zcd (fun h2 => ?_) (fun h2 => ?_)
      · rw [zad_s (i := i) (by omega)]
        have q := ih (i + 1) (by omega) hQ
        first | (rw [zcnt_t (by omega) (by omega)] at q; exact q) | (rw [zcnt_f (by omega)] at q; exact q)
      · rw [zad_s (i := i) (by omega)]
        have q := ih (i + 1) (by omega) hQ
        first | (rw [zcnt_t (by omega) (by omega)] at q; exact q) | (rw [zcnt_f (by omega)] at q; exact q)
    · first | (exfalso; omega) | (obtain rfl : i = 16 := (by omega); exact hQ)
theorem c_unused {S : PS} {I : Nat → Nat → Int} {Q : PV1 → Prop} {u1 : PV} {u2 : PV}  (hQ : Q (some (zI (((zcnt (fun r => I 2 r = -1) 16 : Nat) : Int))), zH S I)) : Wp 24 (0, [zA 1, u1, u2], [], zH S I) Q := by
  refine (sg_X2_unused_0_1 _ _ _ _ _).mpr ?_
  exact l_unused 16 0 rfl hQ
end
